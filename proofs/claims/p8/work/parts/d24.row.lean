/-! THE REFERENCE: a ROW is told, its end -/
/-- a ROW on its way: TABLE t, R ROWS ahead, TERMS ts, where it is there: f -/
def rx_mr (P : md_P) (X0 X : fx_X) (t R : Nat) (cs : md_CS) (ws : md_WS) (nm : md_Nm) (w2 : md_WS) (ts : List md_Tm) (f : Nat → Bool) (tr : List (Nat → Bool)) : Prop := rx_TT P X cs ws nm ∧ (X.1 131 (10 * rp_h P + t)).toInt = (R : Int) ∧ (rp_b P = true → (∃ A, ws.1[t]? = some A ∧ A.length = R ∧ w2.1 = ws.1.modify t (fun _ => A ++ [(ts, f)])) ∧ w2.2.1 = ws.2.1 ∧ md_ptw w2 = md_ptw ws ∧ md_rtw w2 = t ∧ md_tr w2 = tr ∧ (∀ c y, ts[c]? = some y → rx_tm X (8 * (30 * (10 * rp_h P + t) + R) + c) y) ∧ md_okt cs.1.length ts ∧ rx_O (rp_h P) X0 X)
section DD24
variable {P : md_P} {X X' X0 X1 X2 X6 : fx_X} {K : List md_Sy} {c c1 c0 : md_C} {nm nm' : md_Nm} {cs : md_CS} {ws w2 : md_WS} {j near l l2 n n1 t R k : Nat} {v y1 y2 y3 y4 y6 y7 p1 p2 p3 : Int32} {nn : Int64} {l8 : List Int64} {ts : List md_Tm} {f x : Nat → Bool} {tr : List (Nat → Bool)} {F L : List (Nat × Nat)} {A : List Nat}
theorem rx_mr_fr (h : rx_mr P X0 X t R cs ws nm w2 ts f tr) (hf : fy F L A X X') (hA : ∀ a, a ∈ A → a ∉ rx_tl) (hF : (∀ q, q ∈ F → q.1 < 118) ∧ ∀ q, q ∈ L → q.1 < 118) (hA2 : ∀ a, a ∈ A → a < 118 ∨ 137 ≤ a) : rx_mr P X0 X' t R cs ws nm w2 ts f tr := by
  obtain ⟨h1, h2, h3⟩ := h
  have e : ∀ r, r ∈ rx_tl → X'.1 r = X.1 r := fun r hr => fy_ra hf (fun z => hA r z hr) (fun q hq => by
    have := hF.1 q hq
    have : ∀ r, r ∈ rx_tl → 118 ≤ r := by decide
    have := this r hr
    omega)
  refine ⟨rx_TT_fr h1 hf hA hF, by rw [e 131 (by decide)]; exact h2, fun hb => ?_⟩
  obtain ⟨a1, a2, a3, a4, a5, a6, a7, a8⟩ := h3 hb
  refine ⟨a1, a2, a3, a4, a5, fun c y hc => ?_, a7, rx_O_tr a8 (rx_O_fr hf hA2 hF)⟩
  have := a6 c y hc
  unfold rx_tm at this ⊢
  rw [e 134 (by decide), e 135 (by decide)]
  exact this
/-- the ROW is counted -/
theorem rx_234z (hh : rp_h P ≤ 1) (hx : cs.2.2.1[t]? = some (nn, false, l8)) (hnm : nm[t]? = some (nn, p1)) (hR : p1.toInt = (R : Int)) (hR30 : R < 30) (h1 : rx_B P X ∨ (y1.toInt = (t : Int) ∧ y2.toInt = ((10 * rp_h P + t : Nat) : Int))) (hsk : cs.2.2.2.2.1 = []) (hw : rp_b P = true → md_tr ws = [] ∧ ws.2.1 = [] ∧ ((md_ptw ws).length : Int) = (c 11).toInt) (h : rx_B P X ∨ ∃ j near l4 c1 w2 ts f rw, rx_G P X j c1 ∧ md_R P ((130, l4) :: K) j near c1 (nm.set t (nn, p1 + Int32.ofInt 1)) ((cs.1, cs.2.1, cs.2.2.1, rw, cs.2.2.2.2), w2) ∧ rx_mr P X0 X t R cs ws nm w2 ts f [] ∧ ((c1 14).toInt = 0 ∧ (c1 8).toInt = (cs.1.length : Int) ∧ (c1 11).toInt = (c 11).toInt) ∧ (rp_b P = true → ts.length = l8.length ∧ ∀ w, w < rp_W P → fx_bt (X.1 136) (32 * (30 * (10 * rp_h P + t) + R)) (w / md_m P cs.1) = f w)) (g : gxF_234 n1 423 [y1, y2] [] [] X v X') : rx_PO P K X0 v X' := by
  rcases h with hB | ⟨j, near, l4, c1, w2, ts, f, rw', hG, hR1, ⟨hTT, h131, hmr⟩, ⟨hc14, hc8, hc11⟩, hbits⟩
  · exact rx_PO_B (gbl_234 _ _ _ _ _ X v X' hB g) (gvl_234 _ _ _ _ _ X v X' g)
  rcases h1 with hB | ⟨hy1, hy2⟩
  · exact rx_PO_B (gbl_234 _ _ _ _ _ X v X' hB g) (gvl_234 _ _ _ _ _ X v X' g)
  cases n1 with
  | zero => exact g.elim
  | succ n1 =>
    replace g := gxO_234_423 g
    unfold gxT_234_423 at g
    obtain ⟨hU, hV, ⟨t1, t2, t3, t4, t5, t6⟩, hWT⟩ := hTT
    have ht := (List.getElem?_eq_some_iff.mp hx).1
    obtain ⟨q1, q2, q3⟩ := t3 t _ hx
    rw [if_neg (by omega), fx_in hy2] at g
    replace g := g.2
    have q2' : (X.1 126 (10 * rp_h P + t)).toInt = 0 := q2
    rw [if_pos q2'] at g
    obtain ⟨-, -, X176, e176, e1, e2⟩ := g
    subst e2
    have i' : ∀ q, q ≠ 131 → X'.1 q = X.1 q := fun q hq => by rw [e176, fx_rIn hq]
    have hl : X'.2 = X.2 := by rw [e176]; rfl
    have f' : fy [(131, 10 * rp_h P + t)] [] [] X X' := by rw [e176]; exact fy_f fy_rf (List.mem_singleton.mpr rfl)
    have e1' : (Int32.ofInt 1).toInt = 1 := rfl
    have h131' : (X'.1 131 (10 * rp_h P + t)).toInt = ((R + 1 : Nat) : Int) := by rw [e176, fx_rIe, cx_in1 h131 (by omega)]
    have hnl : nm.length = cs.2.2.1.length := by
      have := congrArg List.length t5
      rw [List.length_map, List.length_map] at this
      exact this
    refine ⟨Or.inr ⟨e1, Or.inr ⟨l4, j, near, c1, nm.set t (nn, p1 + Int32.ofInt 1), (cs.1, cs.2.1, cs.2.2.1, rw', cs.2.2.2.2), w2, ⟨rx_G_fr hG f' (by decide) (by simp), ⟨?_, ?_, ⟨by rw [i' 124 (by decide)]; exact t1, t2, fun t' x' hx' => ?_, t4, ?_, fun t' x' k hx' hk hf => ?_⟩, fun hb => ?_⟩, ⟨hc14, hc8⟩, hsk, fun hb => ?_⟩, hR1⟩⟩, fun hb => ?_⟩
    · show rx_U P X' cs.1
      unfold rx_U
      rw [i' 118 (by decide), i' 120 (by decide), i' 121 (by decide), i' 122 (by decide), hl]
      exact hU
    · show rx_V P X' cs.1
      unfold rx_V
      rw [i' 123 (by decide)]
      exact hV
    · have := t3 t' x' hx'
      unfold rx_T1 rx_cl at this ⊢
      rw [i' 126 (by decide), i' 132 (by decide), hl]
      exact this
    · show (nm.set t (nn, p1 + Int32.ofInt 1)).map (·.1) = cs.2.2.1.map (·.1)
      rw [← t5]
      apply List.ext_getElem?
      intro i
      rw [List.getElem?_map, List.getElem?_map, List.getElem?_set]
      by_cases e : t = i
      · subst e
        rw [if_pos rfl, if_pos (by omega), hnm]
        rfl
      · rw [if_neg e]
    · have hk : (nm.set t (nn, p1 + Int32.ofInt 1))[t']? = some k := hk
      rw [List.getElem?_set] at hk
      by_cases e : t = t'
      · subst e
        rw [if_pos rfl, if_pos (by omega)] at hk
        cases hk
        rw [h131']
        show ((R + 1 : Nat) : Int) = (p1 + Int32.ofInt 1).toInt ∧ 0 ≤ (p1 + Int32.ofInt 1).toInt ∧ (p1 + Int32.ofInt 1).toInt ≤ 30
        rw [fx_add (by omega) (by omega), hR, e1']
        omega
      · rw [if_neg e] at hk
        rw [e176, fx_rIk (by omega)]
        exact t6 t' x' k hx' hk hf
    · obtain ⟨⟨A, a1, a2, a3⟩, a4, a5, a6, a7, a8, a9, a10⟩ := hmr hb
      obtain ⟨b1, b2⟩ := hbits hb
      obtain ⟨w1, w2', w3⟩ := hWT hb
      refine ⟨?_, fun t' A' x' hA' hx' => ?_, ?_⟩
      · show w2.1.length = cs.2.2.1.length
        rw [a3, List.length_modify]; exact w1
      · show rx_Rw P X' (md_m P cs.1) (10 * rp_h P + t') A' ∧ md_okA cs.1.length x'.2.2.length A'
        have hA' : w2.1[t']? = some A' := hA'
        have hx' : cs.2.2.1[t']? = some x' := hx'
        rw [a3, List.getElem?_modify] at hA'
        by_cases e : t = t'
        · subst e
          rw [a1] at hA'
          simp only [if_true, Option.map_eq_map, Option.map_some] at hA'
          cases hA'
          rw [hx] at hx'
          cases hx'
          obtain ⟨⟨r1, r2⟩, r3, r4⟩ := w2' t A _ a1 hx
          refine ⟨⟨by rw [h131', List.length_append, a2]; rfl, fun r y hy => ?_⟩, ⟨by rw [List.length_append, a2]; show R + 1 ≤ 30; omega, fun y hy => ?_⟩⟩
          · by_cases hr : r < R
            · rw [List.getElem?_append_left (by omega)] at hy
              have := r2 r y hy
              unfold rx_tm at this ⊢
              rw [i' 134 (by decide), i' 135 (by decide), i' 136 (by decide)]
              exact this
            · have := (List.getElem?_eq_some_iff.mp hy).1
              rw [List.length_append] at this
              have : r < A.length + 1 := this
              have : r = A.length := by omega
              subst this
              rw [List.getElem?_append_right (Nat.le_refl _), Nat.sub_self] at hy
              cases hy
              rw [a2]
              refine ⟨fun c y hc => ?_, fun w hw => ?_⟩
              · have := a8 c y hc
                unfold rx_tm at this ⊢
                rw [i' 134 (by decide), i' 135 (by decide)]
                exact this
              · rw [i' 136 (by decide)]; exact b2 w hw
          · rcases List.mem_append.mp hy with z | z
            · exact r4 y z
            · have : y = (ts, f) := List.mem_singleton.mp z
              rw [this]
              exact ⟨a9, b1⟩
        · have hA2 : ws.1[t']? = some A' := by
            cases hq : ws.1[t']? with
            | none => rw [hq] at hA'; cases hA'
            | some B =>
              rw [hq] at hA'
              simp only [Option.map_eq_map, Option.map_some, if_neg e] at hA'
              exact hA'
          have := w2' t' A' x' hA2 hx'
          unfold rx_Rw rx_tm at this ⊢
          rw [i' 134 (by decide), i' 135 (by decide), i' 136 (by decide), e176, fx_rIk (by omega)]
          exact this
      · rw [a5]
        show rx_pt P X' (md_m P cs.1) (md_ptw ws)
        unfold rx_pt at w3 ⊢
        rw [i' 127 (by decide), i' 129 (by decide)]
        exact w3
    · obtain ⟨⟨A, a1, a2, a3⟩, a4, a5, a6, a7, a8, a9, a10⟩ := hmr hb
      obtain ⟨q1, q2, q3⟩ := hw hb
      exact ⟨a7, by rw [a4]; exact q2, by rw [a5, hc11]; exact q3⟩
    · obtain ⟨-, -, -, -, -, -, -, a10⟩ := hmr hb
      refine rx_O_tr a10 ?_
      rw [e176]
      exact rx_O_w hh (by omega)
/-- where the ROW is there -/
theorem rx_234w {X0 : fx_X} {M s0 : Nat} (hst : (X0.1 117 32).toInt ≠ 0) (hin : (X0.1 117 37).toInt = (rp_h P : Int)) (hM : (X0.1 122 (rp_h P)).toInt = (M : Int)) (hM4 : M ≤ 1024) (hy2 : y2.toInt = (s0 : Int)) (hs : s0 < 20) (h131 : (X0.1 131 s0).toInt = (R : Int)) (hR : R < 30) : ∀ (n k : Nat) (y7 : Int32) (X : fx_X), y7.toInt = (k : Int) → k ≤ M → X.2 = X0.2 → (∀ q i, q ≠ 136 → X.1 q i = X0.1 q i) → (∀ k' b, b < 1024 → fx_bt (X.1 136) (32 * k') b = if k' = 30 * s0 + R ∧ b < k then (y6.toInt == 0 || fx_bt (X0.1 137) 0 b) else fx_bt (X0.1 136) (32 * k') b) → gxF_234 n 353 [y1, y2, y6, y7] [] [] X v X' → ∃ n2 X2, gxF_234 n2 423 [y1, y2] [] [] X2 v X' ∧ X2.2 = X0.2 ∧ (∀ q i, q ≠ 136 → X2.1 q i = X0.1 q i) ∧ ∀ k' b, b < 1024 → fx_bt (X2.1 136) (32 * k') b = if k' = 30 * s0 + R ∧ b < M then (y6.toInt == 0 || fx_bt (X0.1 137) 0 b) else fx_bt (X0.1 136) (32 * k') b := by
  intro n
  induction n with
  | zero => intro k y7 X _ _ _ _ _ g; exact g.elim
  | succ n ih =>
    intro k y7 X hk hkM e2 e1 hB g
    replace g := gxO_234_353 g
    unfold gxT_234_353 at g
    rw [if_neg (by rw [e1 _ _ (by decide)]; exact hst), e1 117 37 (by decide), fx_in hin, e1 122 _ (by decide)] at g
    replace g := g.2
    rcases fy_ifd g with ⟨c1, g1⟩ | ⟨c1, g1⟩
    · rw [fx_in hy2, e1 131 _ (by decide)] at g1
      obtain ⟨-, w151, X150, r1, g2⟩ := g1
      obtain ⟨e150, ev⟩ := rx_225 hy2 h131 (by omega) r1
      have e137 : X.1 137 = X0.1 137 := funext fun i => e1 137 i (by decide)
      have go : ∀ {z : Int32} {w154 : Unit} {X153 : fx_X}, (z.toInt != 0) = (y6.toInt == 0 || fx_bt (X0.1 137) 0 k) → gx_228 136 w151 y7 z X w154 X153 → (∃ x155 : Int32, x155 = y7 + Int32.ofInt 1 ∧ gxF_234 n 353 [y1, y2, y6, x155] [] [] X153 v X') → ∃ n2 X2, gxF_234 n2 423 [y1, y2] [] [] X2 v X' ∧ X2.2 = X0.2 ∧ (∀ q i, q ≠ 136 → X2.1 q i = X0.1 q i) ∧ ∀ k' b, b < 1024 → fx_bt (X2.1 136) (32 * k') b = if k' = 30 * s0 + R ∧ b < M then (y6.toInt == 0 || fx_bt (X0.1 137) 0 b) else fx_bt (X0.1 136) (32 * k') b := by
        intro z w154 X153 hz r2 g3
        obtain ⟨x155, e155, g3⟩ := g3
        obtain ⟨⟨b1, b2, b3⟩, -⟩ := rx_228 (k := 30 * s0 + R) ev hk (by omega) (by omega) r2
        refine ih (k + 1) x155 X153 (by rw [e155]; exact cx_in1 hk (by omega)) (by omega) (b1.trans e2) (fun q i hq => (b2 q i hq).trans (e1 q i hq)) (fun k' b hb => ?_) g3
        rw [b3 k' b hb, hz, hB k' b hb]
        by_cases z1 : k' = 30 * s0 + R
        · by_cases z2 : b = k
          · rw [if_pos ⟨z1, z2⟩, if_pos (⟨z1, by omega⟩ : k' = 30 * s0 + R ∧ b < k + 1), z2]
          · rw [if_neg (fun y => z2 y.2)]
            by_cases z3 : b < k
            · rw [if_pos (⟨z1, z3⟩ : k' = 30 * s0 + R ∧ b < k), if_pos (⟨z1, by omega⟩ : k' = 30 * s0 + R ∧ b < k + 1)]
            · rw [if_neg (fun y : k' = 30 * s0 + R ∧ b < k => z3 y.2), if_neg (fun y : k' = 30 * s0 + R ∧ b < k + 1 => by omega)]
        · rw [if_neg (fun y => z1 y.1), if_neg (fun y : k' = 30 * s0 + R ∧ b < k => z1 y.1), if_neg (fun y : k' = 30 * s0 + R ∧ b < k + 1 => z1 y.1)]
      rw [e150] at g2
      rcases fy_ifd g2 with ⟨c2, g3⟩ | ⟨c2, g3⟩
      · obtain ⟨w154, X153, r2, g4⟩ := g3
        refine go ?_ r2 g4
        have : (y6.toInt == 0) = true := beq_iff_eq.mpr c2
        rw [this]
        rfl
      · have hy6 : (y6.toInt == 0) = false := by
          cases z : (y6.toInt == 0) with
          | false => rfl
          | true => exact absurd (beq_iff_eq.mp z) c2
        obtain ⟨w159, X158, r3, g4⟩ := g3
        obtain ⟨e158, ev2⟩ := rx_227 (a := 0) (b := k) rfl hk (by omega) (by omega) r3
        rw [e158] at g4
        rcases fy_ifd g4 with ⟨c3, g5⟩ | ⟨c3, g5⟩
        · obtain ⟨w162, X161, r2, g6⟩ := g5
          refine go ?_ r2 g6
          rw [hy6]
          cases hbt : fx_bt (X0.1 137) 0 k with
          | false => rfl
          | true => rw [ev2, e137, hbt, if_pos rfl] at c3; exact absurd c3 (by decide)
        · obtain ⟨w162, X161, r2, g6⟩ := g5
          refine go ?_ r2 g6
          rw [hy6]
          cases hbt : fx_bt (X0.1 137) 0 k with
          | true => rfl
          | false => rw [ev2, e137, hbt, if_neg (by decide)] at c3; exact absurd rfl c3
    · have : k = M := by omega
      subst this
      exact ⟨n, X, g1, e2, e1, hB⟩
/-- from the ; on -/
theorem rx_234s (hh : rp_h P ≤ 1) (hx : cs.2.2.1[t]? = some (nn, false, l8)) (hnm : nm[t]? = some (nn, p1)) (hR : p1.toInt = (R : Int)) (hR30 : R < 30) (h1 : rx_B P X ∨ (y1.toInt = (t : Int) ∧ y2.toInt = ((10 * rp_h P + t : Nat) : Int))) (hsk : cs.2.2.2.2.1 = []) (hw : rp_b P = true → md_tr ws = [] ∧ ws.2.1 = [] ∧ ((md_ptw ws).length : Int) = (c 11).toInt) (h : rx_B P X ∨ ∃ j near l3 l4 c1 w2 ts f rw, rx_G P X j c1 ∧ md_R P ((59, l3) :: (130, l4) :: K) j near c1 (nm.set t (nn, p1 + Int32.ofInt 1)) ((cs.1, cs.2.1, cs.2.2.1, rw, cs.2.2.2.2), w2) ∧ rx_mr P X0 X t R cs ws nm w2 ts f [] ∧ ((c1 14).toInt = 0 ∧ (c1 8).toInt = (cs.1.length : Int) ∧ (c1 11).toInt = (c 11).toInt) ∧ (rp_b P = true → ts.length = l8.length ∧ ∀ w, w < rp_W P → (y6.toInt == 0 || fx_bt (X.1 137) 0 (w / md_m P cs.1)) = f w)) (g : gxF_234 n1 339 [y1, y2, y6] [] [] X v X') : rx_PO P K X0 v X' := by
  rcases h with hB | ⟨j, near, l3, l4, c1, w2, ts, f, rw', hG, hR1, hmr, hcc, hbits⟩
  · exact rx_PO_B (gbl_234 _ _ _ _ _ X v X' hB g) (gvl_234 _ _ _ _ _ X v X' g)
  rcases h1 with hB | ⟨hy1, hy2⟩
  · exact rx_PO_B (gbl_234 _ _ _ _ _ X v X' hB g) (gvl_234 _ _ _ _ _ X v X' g)
  cases n1 with
  | zero => exact g.elim
  | succ n1 =>
    replace g := gxO_234_339 g
    obtain ⟨w140, X139, r1, g⟩ := g
    have e59 : ((Int8.ofInt 59).toInt32).toInt = 59 := rfl
    have h2 := rx_219 (s := 59) (Q := True) (Or.inr ⟨hG, hR1, True.intro⟩) (by decide) e59 r1
    rcases rx_go h2 g with e | ⟨h2, g1⟩
    · exact rx_PO_x e
    rcases h2 with hB | ⟨hG2, hR2, -⟩
    · exact rx_PO_B (gbl_234 _ _ _ _ _ _ v X' hB g1) (gvl_234 _ _ _ _ _ _ v X' g1)
    have f1 := gf_219 r1
    have hmr1 := rx_mr_fr hmr f1 (by decide) (by decide) (by decide)
    have hst := hG2.2.2.2.2.1
    have ht := (List.getElem?_eq_some_iff.mp hx).1
    have ht10 := hmr.1.2.2.1.2.1
    cases hb : rp_b P with
    | false =>
      rw [hb, if_neg (by decide)] at hst
      cases n1 with
      | zero => exact g1.elim
      | succ n1 =>
        replace g1 := gxO_234_353 g1
        unfold gxT_234_353 at g1
        rw [if_pos hst] at g1
        exact rx_234z (t := t) (R := R) hh hx hnm hR hR30 (Or.inr ⟨hy1, hy2⟩) hsk hw (Or.inr ⟨j + 1, j, l4, c1, w2, ts, f, rw', hG2, hR2, hmr1, hcc, fun z => by rw [hb] at z; cases z⟩) g1
    | true =>
      rw [hb, if_pos rfl] at hst
      obtain ⟨n2, X2, g2, b1, b2, b3⟩ := rx_234w (P := P) (M := md_all cs.1) (s0 := 10 * rp_h P + t) (R := R) (X0 := X139) (by omega) hG2.2.2.2.1.1 hmr1.1.1.2.1 hmr1.1.1.2.2.2.1.2 hy2 (by omega) hmr1.2.1 hR30 n1 0 _ X139 rfl (Nat.zero_le _) rfl (fun _ _ _ => rfl) (fun k' b _ => by rw [if_neg (fun y : k' = 30 * (10 * rp_h P + t) + R ∧ b < 0 => absurd y.2 (Nat.not_lt_zero _))]) g1
      have i2 : ∀ q, q ≠ 136 → X2.1 q = X139.1 q := fun q hq => funext fun i => b2 q i hq
      obtain ⟨hTT1, h131, hm⟩ := hmr1
      have hV1 := hTT1.2.1
      obtain ⟨⟨A, a1, a2, a3⟩, a4, a5, a6, a7, a8, a9, a10⟩ := hm hb
      have hVm := rx_V_m hV1 hb
      have f2 : fy [] [] [136] X139 X2 := ⟨by rw [b1], fun r k _ _ => by rw [b1], fun r k hr _ => b2 r k (fun z => hr (by rw [z]; exact List.mem_singleton.mpr rfl))⟩
      have hsl : rx_sl P t X139 X2 := ⟨fun r hr => i2 r (fun z => by rw [z] at hr; revert hr; decide), by rw [b1], fun r k hr _ _ => b2 r k (by omega), fun k _ => by rw [b1], fun k _ _ => by rw [b1], fun r k hr _ _ => b2 r k (by omega), fun k b hk1 hk2 hb' => by rw [b3 k b hb', if_neg (fun y => by omega)]⟩
      refine rx_234z (t := t) (R := R) hh hx hnm hR hR30 (Or.inr ⟨hy1, hy2⟩) hsk hw (Or.inr ⟨j + 1, j, l4, c1, w2, ts, f, rw', rx_G_fr hG2 f2 (by decide) (by decide), hR2, ⟨⟨?_, ?_, ?_, fun _ => ?_⟩, by rw [i2 131 (by decide)]; exact h131, fun _ => ⟨⟨A, a1, a2, a3⟩, a4, a5, a6, a7, fun c y hc => ?_, a9, rx_O_tr a10 (rx_O_sl hsl (by omega) hh)⟩⟩, hcc, fun _ => ⟨(hbits hb).1, fun w hw' => ?_⟩⟩) g2
      · unfold rx_U
        rw [i2 118 (by decide), i2 120 (by decide), i2 121 (by decide), i2 122 (by decide), b1]
        exact hTT1.1
      · unfold rx_V
        rw [i2 123 (by decide)]
        exact hV1
      · unfold rx_TB rx_T1 rx_cl
        rw [i2 124 (by decide), i2 126 (by decide), i2 131 (by decide), i2 132 (by decide), b1]
        exact hTT1.2.2.1
      · obtain ⟨w1, w2', w3⟩ := hTT1.2.2.2 hb
        refine ⟨w1, fun t' A' x' hA' hx' => ?_, ?_⟩
        · obtain ⟨⟨r1, r2⟩, r3⟩ := w2' t' A' x' hA' hx'
          refine ⟨⟨by rw [i2 131 (by decide)]; exact r1, fun r y hy => ⟨fun c z hc => ?_, fun w hw' => ?_⟩⟩, r3⟩
          · have := (r2 r y hy).1 c z hc
            unfold rx_tm at this ⊢
            rw [i2 134 (by decide), i2 135 (by decide)]
            exact this
          · have hr := (List.getElem?_eq_some_iff.mp hy).1
            rw [b3 _ _ (hVm.2.1 w hw').2, if_neg (fun z => ?_)]
            · exact (r2 r y hy).2 w hw'
            · have hr30 := r3.1
              have : t' = t := by omega
              subst this
              rw [a1] at hA'
              cases hA'
              omega
        · unfold rx_pt at w3 ⊢
          rw [i2 127 (by decide), i2 129 (by decide)]
          exact w3
      · have := a8 c y hc
        unfold rx_tm at this ⊢
        rw [i2 134 (by decide), i2 135 (by decide)]
        exact this
      · have hwm := hVm.2.1 w hw'
        rw [b3 _ _ hwm.2, if_pos ⟨rfl, hwm.1⟩, fy_ra f1 (by decide) (by decide)]
        exact (hbits hb).2 w hw'
end DD24
