/-! THE REFERENCE: a PART is told -/
section DD22
variable {P : md_P} {X X' X0 X1 X2 X6 : fx_X} {K : List md_Sy} {c c1 c0 : md_C} {nm : md_Nm} {cs : md_CS} {ws w2 : md_WS} {j near l l2 n n1 t k h M pn w : Nat} {v y1 y2 y3 p1 p2 : Int32} {pt : List (Nat → Bool)} {x : Nat → Bool}
theorem rx_i20 {a b : Nat} (h1 : p1.toInt = (a : Int)) (h2 : p2.toInt = (b : Int)) (hb : a ≤ 1 ∧ b ≤ 100) : ((p1 * ((Int8.ofInt 20).toInt32) + p2) * ((Int8.ofInt 32).toInt32)).toInt = ((32 * (20 * a + b) : Nat) : Int) := by
  have e : (p1 * ((Int8.ofInt 20).toInt32) + p2).toInt = ((a * 20 + b : Nat) : Int) := rx_lin h1 rfl h2 (by omega)
  rw [rx_i32 e (by omega), show a * 20 + b = 20 * a + b by omega]
theorem rx_247l (hp : p1.toInt = (h : Int)) (hh : h ≤ 1) (hP : (X.1 127 h).toInt = (pn : Int)) (hP20 : pn ≤ 20) (h2 : p2.toInt = (w : Int)) (hw : w < 1024) : ∀ (n k : Nat) (y3 : Int32), y3.toInt = (k : Int) → k ≤ pn → (∀ p, p < k → fx_bt (X.1 129) (32 * (20 * h + p)) w = true) → gxF_247 p1 p2 n 2 [y3] [] [] X v X' → X' = X ∧ ((v.toInt ≠ 0 ∧ ∀ p, p < pn → fx_bt (X.1 129) (32 * (20 * h + p)) w = true) ∨ (v.toInt = 0 ∧ ∃ p, p < pn ∧ fx_bt (X.1 129) (32 * (20 * h + p)) w = false)) := by
  intro n
  induction n with
  | zero => intro k y3 _ _ _ g; exact g.elim
  | succ n ih =>
    intro k y3 hk hkp hB g
    replace g := gxO_247_2 g
    unfold gxT_247_2 at g
    rw [fx_in hp] at g
    replace g := g.2
    rcases fy_ifd g with ⟨c1, g1⟩ | ⟨c1, g1⟩
    · obtain ⟨w8, X7, r, g2⟩ := g1
      obtain ⟨e7, ev⟩ := rx_227 (rx_i20 hp hk (by omega)) h2 (by omega) (by omega) r
      rcases fy_ifd g2 with ⟨c2, g3⟩ | ⟨c2, g3⟩
      · refine ⟨g3.2.trans e7, Or.inr ⟨by rw [g3.1]; rfl, k, by omega, ?_⟩⟩
        cases hb : fx_bt (X.1 129) (32 * (20 * h + k)) w with
        | false => rfl
        | true => rw [ev, hb, if_pos rfl] at c2; exact absurd c2 (by decide)
      · obtain ⟨x10, e10, g4⟩ := g3
        rw [e7] at g4
        refine ih (k + 1) x10 (by rw [e10]; exact cx_in1 hk (by omega)) (by omega) (fun p hp' => ?_) g4
        by_cases z : p = k
        · rw [z]
          cases hb : fx_bt (X.1 129) (32 * (20 * h + k)) w with
          | true => rfl
          | false => rw [ev, hb, if_neg (by decide)] at c2; exact absurd rfl c2
        · exact hB p (by omega)
    · have : k = pn := by omega
      subst this
      exact ⟨g1.2, Or.inl ⟨by rw [g1.1]; decide, hB⟩⟩
theorem rx_247 (hp : p1.toInt = (h : Int)) (hh : h ≤ 1) (hP : (X.1 127 h).toInt = (pn : Int)) (hP20 : pn ≤ 20) (h2 : p2.toInt = (w : Int)) (hw : w < 1024) (g : gx_247 p1 p2 X v X') : X' = X ∧ ((v.toInt ≠ 0 ∧ ∀ p, p < pn → fx_bt (X.1 129) (32 * (20 * h + p)) w = true) ∨ (v.toInt = 0 ∧ ∃ p, p < pn ∧ fx_bt (X.1 129) (32 * (20 * h + p)) w = false)) := by
  obtain ⟨n, g⟩ := g
  exact rx_247l hp hh hP hP20 h2 hw n 0 _ rfl (Nat.zero_le _) (fun _ hp' => absurd hp' (Nat.not_lt_zero _)) g
/-- whether a WORLD is left -/
theorem rx_246e (hin : (X.1 117 37).toInt = (h : Int)) (hh : h ≤ 1) (hM : (X.1 122 h).toInt = (M : Int)) (hM4 : M ≤ 1024) (hP : (X.1 127 h).toInt = (pn : Int)) (hP20 : pn ≤ 20) : ∀ (n k : Nat) (y3 y4 : Int32), y4.toInt = (k : Int) → k ≤ M → (y3 = Int32.ofInt 0 ∨ y3 = Int32.ofInt 1) → (y3.toInt ≠ 0 ↔ ∃ w, w < k ∧ ∀ p, p < pn → fx_bt (X.1 129) (32 * (20 * h + p)) w = true) → gxF_246 n 147 [y1, y3, y4] [] [] X v X' → ((v = Int32.ofInt 1 ∧ X' = X) ∧ ∃ w, w < M ∧ ∀ p, p < pn → fx_bt (X.1 129) (32 * (20 * h + p)) w = true) ∨ ((v = Int32.ofInt 0 ∧ (X'.1 117 24).toInt ≠ 0 ∧ fy [(117, 24), (117, 25), (117, 31)] [] [] X X') ∧ ¬ ∃ w, w < M ∧ ∀ p, p < pn → fx_bt (X.1 129) (32 * (20 * h + p)) w = true) := by
  intro n
  induction n with
  | zero => intro k y3 y4 _ _ _ _ g; exact g.elim
  | succ n ih =>
    intro k y3 y4 hk hkM h01 hy g
    replace g := gxO_246_147 g
    unfold gxT_246_147 at g
    rw [fx_in hin] at g
    replace g := g.2
    rcases fy_ifd g with ⟨c1, g1⟩ | ⟨c1, g1⟩
    · rcases fy_ifd g1 with ⟨c2, g2⟩ | ⟨c2, g2⟩
      · obtain ⟨w52, X51, r, g3⟩ := g2
        obtain ⟨e51, hv⟩ := rx_247 (pn := pn) hin hh hP hP20 hk (by omega) r
        have hno : ¬ ∃ w, w < k ∧ ∀ p, p < pn → fx_bt (X.1 129) (32 * (20 * h + p)) w = true := fun z => absurd c2 (hy.mpr z)
        rcases fy_ifd g3 with ⟨c3, g4⟩ | ⟨c3, g4⟩
        · obtain ⟨x55, e55, g5⟩ := g4
          rw [e51] at g5
          refine ih (k + 1) _ x55 (by rw [e55]; exact cx_in1 hk (by omega)) (by omega) (Or.inl rfl) ⟨fun z => absurd rfl z, fun ⟨w, hw, hp⟩ => ?_⟩ g5
          exfalso
          rcases hv with hv | ⟨-, p, hp1, hp2⟩
          · exact hv.1 c3
          · by_cases z : w = k
            · subst z
              rw [hp p hp1] at hp2
              cases hp2
            · exact hno ⟨w, by omega, hp⟩
        · obtain ⟨x55, e55, g5⟩ := g4
          rw [e51] at g5
          refine ih (k + 1) _ x55 (by rw [e55]; exact cx_in1 hk (by omega)) (by omega) (Or.inr rfl) ⟨fun _ => ?_, fun _ => by decide⟩ g5
          rcases hv with hv | hv
          · exact ⟨k, Nat.lt_succ_self _, hv.2⟩
          · exact absurd hv.1 c3
      · obtain ⟨x49, e49, g3⟩ := g2
        refine ih (k + 1) _ x49 (by rw [e49]; exact cx_in1 hk (by omega)) (by omega) (Or.inr rfl) ⟨fun _ => ?_, fun _ => by decide⟩ g3
        obtain ⟨w, hw, hp⟩ := hy.mp c2
        exact ⟨w, by omega, hp⟩
    · have : k = M := by omega
      subst this
      rcases fy_ifd g1 with ⟨c2, g2⟩ | ⟨c2, g2⟩
      · obtain ⟨w45, X44, r, g3⟩ := g2
        right
        have f44 := gf_215 r
        have hv : w45 = Int32.ofInt 0 ∧ (X44.1 117 24).toInt ≠ 0 := by
          obtain ⟨X2, rfl, X3, rfl, X4, rfl, rfl, rfl⟩ := r
          exact ⟨rfl, by rw [fx_rIk (by decide), fx_rIk (by decide), fx_rIe]; decide⟩
        rw [if_pos (by rw [hv.1]; rfl)] at g3
        rw [g3.2]
        exact ⟨⟨g3.1, hv.2, f44⟩, fun z => absurd c2 (hy.mpr z)⟩
      · exact Or.inl ⟨⟨g2.1, g2.2⟩, hy.mp c2⟩
/-- the PART's row of bits -/
theorem rx_246p {X0 : fx_X} (hin : (X0.1 117 37).toInt = (h : Int)) (hh : h ≤ 1) (hM : (X0.1 122 h).toInt = (M : Int)) (hM4 : M ≤ 1024) (hP : (X0.1 127 h).toInt = (pn : Int)) (hP20 : pn < 20) (h2 : y2.toInt = ((32 * (20 * h + pn) : Nat) : Int)) : ∀ (n k : Nat) (y4 : Int32) (X : fx_X), y4.toInt = (k : Int) → k ≤ M → X.2 = X0.2 → (∀ q i, q ≠ 129 → X.1 q i = X0.1 q i) → (∀ k' b, b < 1024 → fx_bt (X.1 129) (32 * k') b = if k' = 20 * h + pn ∧ b < k then fx_bt (X0.1 137) 0 b else fx_bt (X0.1 129) (32 * k') b) → gxF_246 n 91 [y1, y2, y3, y4] [] [] X v X' → ∃ n2 X2, gxF_246 n2 147 [y1, y3, Int32.ofInt 0] [] [] X2 v X' ∧ X2.2 = X0.2 ∧ (∀ q i, q ≠ 129 → ¬ (q = 127 ∧ i = h) → X2.1 q i = X0.1 q i) ∧ (X2.1 127 h).toInt = ((pn + 1 : Nat) : Int) ∧ ∀ k' b, b < 1024 → fx_bt (X2.1 129) (32 * k') b = if k' = 20 * h + pn ∧ b < M then fx_bt (X0.1 137) 0 b else fx_bt (X0.1 129) (32 * k') b := by
  intro n
  induction n with
  | zero => intro k y4 X _ _ _ _ _ g; exact g.elim
  | succ n ih =>
    intro k y4 X hk hkM e2 e1 hB g
    replace g := gxO_246_91 g
    unfold gxT_246_91 at g
    rw [e1 117 37 (by decide), fx_in hin, e1 122 h (by decide)] at g
    replace g := g.2
    rcases fy_ifd g with ⟨c1, g1⟩ | ⟨c1, g1⟩
    · obtain ⟨w35, X34, r1, w37, X36, r2, x38, e38, g2⟩ := g1
      obtain ⟨e34, ev⟩ := rx_227 (a := 0) (b := k) rfl hk (by omega) (by omega) r1
      rw [e34] at r2
      obtain ⟨⟨b1, b2, b3⟩, -⟩ := rx_228 (k := 20 * h + pn) h2 hk (by omega) (by omega) r2
      refine ih (k + 1) x38 X36 (by rw [e38]; exact cx_in1 hk (by omega)) (by omega) (b1.trans e2) (fun q i hq => (b2 q i hq).trans (e1 q i hq)) (fun k' b hb => ?_) g2
      have e137 : X.1 137 = X0.1 137 := funext fun i => e1 137 i (by decide)
      rw [b3 k' b hb, ev, rx_ti, hB k' b hb, e137]
      by_cases z : k' = 20 * h + pn
      · by_cases z2 : b = k
        · rw [if_pos ⟨z, z2⟩, if_pos (⟨z, by omega⟩ : k' = 20 * h + pn ∧ b < k + 1), z2]
        · rw [if_neg (fun y => z2 y.2)]
          by_cases z3 : b < k
          · rw [if_pos (⟨z, z3⟩ : k' = 20 * h + pn ∧ b < k), if_pos (⟨z, by omega⟩ : k' = 20 * h + pn ∧ b < k + 1)]
          · rw [if_neg (fun y : k' = 20 * h + pn ∧ b < k => z3 y.2), if_neg (fun y : k' = 20 * h + pn ∧ b < k + 1 => by omega)]
      · rw [if_neg (fun y => z y.1), if_neg (fun y : k' = 20 * h + pn ∧ b < k => z y.1), if_neg (fun y : k' = 20 * h + pn ∧ b < k + 1 => z y.1)]
    · have : k = M := by omega
      subst this
      obtain ⟨-, -, X30, e30, g2⟩ := g1
      refine ⟨n, X30, g2, by rw [e30]; exact e2, fun q i hq hq2 => ?_, ?_, fun k' b hb => ?_⟩
      · rw [e30, fx_rI, if_neg hq2]; exact e1 q i hq
      · rw [e30, fx_rIe, e1 127 h (by decide)]; exact cx_in1 hP (by omega)
      · rw [e30, fx_rIn (by decide)]; exact hB k' b hb
theorem md_ck190 {T : md_T} {s : Int} (hs : s = 188 ∨ s = 189 ∨ s = 190 ∨ s = 214) : md_ck T cs (s, near, l) = md_k (cs, 0) := by
  obtain ⟨U, cu, TB, rw, sk, pk, fr⟩ := cs
  rcases hs with e | e | e | e
  · subst e; exact md_k188
  · subst e; exact md_k189
  · subst e; exact md_k190
  · subst e; exact md_k214
theorem md_wk190 {W n wd : Nat} {val : md_V} {arg : Int} (h1 : md_tr ws = [x]) (h2 : (md_ptw ws).length < 20) : md_wk W n val wd ws (190, near, l) arg = if (List.range W).any (fun w => (md_ptw ws ++ [x]).all (fun p => p w)) = true then md_k (ws.1, ws.2.1, [], ws.2.2.2.1, ws.2.2.2.2.1, md_ptw ws ++ [x], ws.2.2.2.2.2.2) else some none := by
  obtain ⟨tb, sk, tr, sd, rel, pt, rt, pk, fo, fd⟩ := ws
  have h1 : tr = [x] := h1
  subst h1
  show (if 20 ≤ pt.length then none else _) = _
  rw [if_neg (by have : pt.length < 20 := h2; omega)]
  rfl
theorem rx_246 (h : rx_B P X ∨ (rx_T P X j c cs ws nm ∧ md_R P ((130, l) :: K) j near c nm (cs, ws) ∧ (rp_T P).1 j = 14)) (g : gx_246 X v X') : rx_PO P K X v X' := by
  rcases h with hB | ⟨⟨hG, hTT, ⟨hc14, hc8⟩, hsk, hw⟩, hR, hT⟩
  · exact rx_PO_B (gb_246 hB g) (gv_246 g)
  obtain ⟨n1, x2, e2, g⟩ := g
  have hh := hG.2.2.2.1
  have h45 := hG.2.2.2.2.2.2.2.2.2.2
  have e1' : (Int32.ofInt 1).toInt = 1 := rfl
  have hR1 : md_R P ((14, j) :: (189, j) :: (138, j) :: (59, j) :: (190, j) :: (130, j) :: K) j near c nm (cs, ws) := md_R_r (r := [14, 189, 138, 59, 190, 130]) hR (by decide) (by decide) (by decide) (by rw [hT]; rfl)
  have e189 : ∀ w, md_room 189 w c nm = md_lim 12 c 11 nm := fun _ => rfl
  rcases fy_ifd g with ⟨c1, g1⟩ | ⟨c1, g1⟩
  · obtain ⟨w23, X22, r, e1, e2'⟩ := g1
    subst e1
    subst e2'
    refine rx_PO_x (rx_215 ?_ (by decide) r)
    by_cases hj : j < 1000
    · rcases md_R_e (md_R_t hR1 (by decide) hT (Or.inl hj)) (by decide) with ⟨-, y⟩ | ⟨c', nm', y1, -⟩
      · exact y
      · exfalso
        rw [e189] at y1
        unfold md_lim at y1
        rw [if_pos (by rw [fx_add (by omega) (by omega)]; omega)] at y1
        cases y1
    · exact md_R_tx hR1 (by decide) (Or.inr ⟨by omega, by decide⟩)
  obtain ⟨X5, e5, w7, X6, r1, g2⟩ := g1
  have c11 : (c 11 + Int32.ofInt 1).toInt = (c 11).toInt + 1 := by rw [fx_add (by omega) (by omega), e1']
  have hG5 : rx_G P X5 j (md_u c 11 (c 11 + Int32.ofInt 1)) := by
    obtain ⟨a1, a2, a3, a4, a5, a6, a7, a8, a9, a10, a11⟩ := hG
    have k : ∀ i, i ≠ 45 → X5.1 117 i = X.1 117 i := fun i hi => by rw [e5, fx_rIk hi]
    refine ⟨by rw [e5, fx_rIn (by decide)]; exact a1, by rw [k _ (by decide)]; exact a2, a3, by rw [k _ (by decide)]; exact a4, by rw [k _ (by decide)]; exact a5, by rw [k _ (by decide)]; exact a6, by rw [k _ (by decide)]; exact a7, rx_at_fr a8 ⟨k _ (by decide), k _ (by decide), k _ (by decide), k _ (by decide)⟩, by rw [k _ (by decide)]; exact a9, by rw [k _ (by decide)]; exact a10, ?_⟩
    show (X5.1 117 45).toInt = (c 11 + Int32.ofInt 1).toInt ∧ 0 ≤ (c 11 + Int32.ofInt 1).toInt ∧ (c 11 + Int32.ofInt 1).toInt ≤ 12
    rw [e5, fx_rIe, fx_add (by omega) (by omega), e1', c11]
    omega
  have h1 := rx_214t (Q := True) (Or.inr ⟨hG5, by omega, True.intro⟩) r1
  have h1' : rx_X P w7 X6 ∨ (w7 = Int32.ofInt 1 ∧ (rx_B P X6 ∨ (rx_G P X6 (j + 1) (md_u c 11 (c 11 + Int32.ofInt 1)) ∧ md_R P ((138, j) :: (59, j) :: (190, j) :: (130, j) :: K) (j + 1) j (md_u c 11 (c 11 + Int32.ofInt 1)) nm (cs, ws)))) := by
    rcases h1 with ⟨hv, hB | ⟨h24, hj, -⟩⟩ | ⟨hv, hB | ⟨hG6, hj, -⟩⟩
    · exact Or.inl ⟨hv, hB.1, hB.2.1⟩
    · exact Or.inl ⟨hv, md_R_tx hR1 (by decide) (Or.inr ⟨hj, by decide⟩), h24⟩
    · exact Or.inr ⟨hv, Or.inl hB⟩
    · refine Or.inr ⟨hv, Or.inr ⟨hG6, ?_⟩⟩
      rcases md_R_e (md_R_t hR1 (by decide) hT (Or.inl hj)) (by decide) with ⟨y, -⟩ | ⟨c', nm', y1, hRe⟩
      · rw [e189] at y
        unfold md_lim at y
        rw [if_neg (by omega)] at y
        cases y
      · rw [e189] at y1
        unfold md_lim at y1
        rw [if_neg (by omega)] at y1
        cases y1
        exact md_Re_c hRe (md_ck190 (by decide)) (fun _ => md_wk_id (by decide))
  rcases rx_go h1' g2 with e | ⟨h2, g3⟩
  · exact rx_PO_x e
  obtain ⟨w10, X9, r2, g3⟩ := g3
  have f5 : fy [(117, 45)] [] [] X X5 := by rw [e5]; exact fy_f fy_rf (by decide)
  have f6 : fy ((117, 45) :: fF_214) [] [] X X6 := fy_tr (fy_sub f5 (by decide) (by decide) (by decide)) (fy_sub (gf_214 r1) (by decide) (by decide) (by decide))
  have hTT6 := rx_TT_fr hTT f6 (by decide) (by decide)
  have h3 := rx_237 (c := md_u c 11 (c 11 + Int32.ofInt 1)) (K := (59, j) :: (190, j) :: (130, j) :: K) (Q := True) (h2.imp id (fun z => ⟨z.1, z.2, hTT6.1, hTT6.2.1, fun hb => (hw hb).1, hc14, True.intro⟩)) r2
  rcases rx_go h3 g3 with e | ⟨h3, g4⟩
  · exact rx_PO_x e
  obtain ⟨w13, X12, r3, g4⟩ := g4
  have e59 : ((Int8.ofInt 59).toInt32).toInt = 59 := rfl
  rcases h3 with hB | ⟨j', near', c', w2, hG9, hR9, hK9, hkp, hcc, hc14', -⟩
  · have hB12 := gb_219 hB r3
    rcases gv_219 r3 with hv | hv
    · rw [if_pos (by rw [hv]; rfl)] at g4
      rw [g4.2]
      exact rx_PO_B hB12 (Or.inl g4.1)
    · rw [if_neg (by rw [hv]; decide), if_pos hB12.2.2] at g4
      rw [g4.2]
      exact rx_PO_B hB12 (Or.inr g4.1)
  have h4 := rx_219 (s := 59) (Q := True) (Or.inr ⟨hG9, hR9, True.intro⟩) (by decide) e59 r3
  rcases rx_go h4 g4 with e | ⟨h4, g5⟩
  · exact rx_PO_x e
  rcases h4 with hB | ⟨hG12, hR12, -⟩
  · rw [if_pos hB.2.2] at g5
    rw [g5.2]
    exact rx_PO_B hB (Or.inr g5.1)
  have f12 : fy fF_246 fL_246 [137, 139] X X12 := fy_tr (fy_sub f6 (by decide) (by decide) (by decide)) (fy_tr (fy_sub (gf_237 r2) (by decide) (by decide) (by decide)) (fy_sub (gf_219 r3) (by decide) (by decide) (by decide)))
  have hTT12 := rx_TT_fr hTT f12 (by decide) (by decide)
  have hst := hG12.2.2.2.2.1
  have hcp : (c' 8).toInt = (cs.1.length : Int) ∧ (c' 11).toInt = (c 11).toInt + 1 := by
    rw [hcc 8 (by decide), hcc 11 (by decide)]
    exact ⟨hc8, c11⟩
  have hRe := md_R_e0 hR12 (by decide)
  cases hb : rp_b P with
  | false =>
    rw [hb, if_neg (by decide)] at hst
    rw [if_pos hst] at g5
    rw [g5.2]
    obtain ⟨w3, q1, -, -⟩ := md_Re_n (w' := ws) hRe (md_ck190 (by decide)) (fun z => by rw [hb] at z; cases z)
    refine ⟨Or.inr ⟨g5.1, Or.inr ⟨j, j' + 1, j', c', nm, cs, w3, ⟨hG12, ⟨hTT12.1, hTT12.2.1, hTT12.2.2.1, fun z => by rw [hb] at z; cases z⟩, ⟨hc14', hcp.1⟩, hsk, fun z => by rw [hb] at z; cases z⟩, q1⟩⟩, fun z => by rw [hb] at z; cases z⟩
  | true =>
    rw [hb, if_pos rfl] at hst
    rw [if_neg (by omega)] at g5
    obtain ⟨hw1, hw2, hw3⟩ := hw hb
    obtain ⟨k1, k2, k3⟩ := hkp hb
    obtain ⟨kl, kC⟩ := hK9.2.2.2 hb
    obtain ⟨x, hx⟩ : ∃ x, md_tr w2 = [x] := by
      cases hm : md_tr w2 with
      | nil => rw [hm] at kl; cases kl
      | cons y tr =>
        cases tr with
        | nil => exact ⟨y, rfl⟩
        | cons z tr => rw [hm] at kl; exact absurd kl (by show ¬ tr.length + 1 + 1 = 1; omega)
    rw [hx] at kC
    have kC0 := kC.1
    have hpt : md_ptw w2 = md_ptw ws := congrArg (·.1) k3
    obtain ⟨hU12, hV12, hTB12, hWT12⟩ := hTT12
    obtain ⟨o1, o2, o3, o4, o5⟩ := hWT12 hb
    have hpn : (md_ptw ws).length < 20 := by omega
    have hin := hG12.2.2.2.1.1
    rw [fx_in hin] at g5
    obtain ⟨-, x18, e18, g6⟩ := g5
    have h18 : x18.toInt = ((32 * (20 * rp_h P + (md_ptw ws).length) : Nat) : Int) := by
      rw [e18]
      exact rx_i20 hin o3 (by omega)
    obtain ⟨n2, X2, g7, b1, b2, b3, b4⟩ := rx_246p (X0 := X12) (h := rp_h P) hin hh.2 hU12.2.1 hU12.2.2.2.1.2 o3 hpn h18 n1 0 _ X12 rfl (Nat.zero_le _) rfl (fun _ _ _ => rfl) (fun k' b _ => by rw [if_neg (by omega)]) g6
    have hVm := rx_V_m hV12 hb
    have e137 : X12.1 137 = X9.1 137 := fy_ra (gf_219 r3) (by decide) (by decide)
    -- bits of all PARTS, by worlds of the whole text
    have hbit : ∀ p f, (md_ptw ws ++ [x])[p]? = some f → ∀ w, w < rp_W P → fx_bt (X2.1 129) (32 * (20 * rp_h P + p)) (w / md_m P cs.1) = f w := by
      intro p f hp w hw
      have hwm := hVm.2.1 w hw
      rw [b4 _ _ hwm.2]
      by_cases z : p < (md_ptw ws).length
      · rw [List.getElem?_append_left z] at hp
        rw [if_neg (by omega)]
        exact o5 p f hp w hw
      · have := (List.getElem?_eq_some_iff.mp hp).1
        rw [List.length_append] at this
        have : p < (md_ptw ws).length + 1 := this
        have : p = (md_ptw ws).length := by omega
        subst this
        rw [List.getElem?_append_right (Nat.le_refl _), Nat.sub_self] at hp
        cases hp
        rw [if_pos ⟨rfl, hwm.1⟩, e137]
        have := kC0 w hw
        exact this
    have hlen : (md_ptw ws ++ [x]).length = (md_ptw ws).length + 1 := by rw [List.length_append]; rfl
    have hmpos := hVm.1
    have key : (∃ w', w' < md_all cs.1 ∧ ∀ p, p < (md_ptw ws).length + 1 → fx_bt (X2.1 129) (32 * (20 * rp_h P + p)) w' = true) ↔ (List.range (rp_W P)).any (fun w => (md_ptw ws ++ [x]).all (fun p => p w)) = true := by
      rw [List.any_eq_true]
      constructor
      · rintro ⟨w', hw', hall⟩
        have hlt : w' * md_m P cs.1 < rp_W P := by
          rw [← hVm.2.2]
          exact Nat.mul_lt_mul_of_pos_right hw' hmpos
        refine ⟨w' * md_m P cs.1, List.mem_range.mpr hlt, List.all_eq_true.mpr (fun f hf => ?_)⟩
        obtain ⟨p, hp⟩ := List.getElem?_of_mem hf
        have hpl := (List.getElem?_eq_some_iff.mp hp).1
        rw [← hbit p f hp _ hlt, Nat.mul_div_cancel _ hmpos]
        exact hall p (by omega)
      · rintro ⟨w, hw, hall⟩
        have hw := List.mem_range.mp hw
        refine ⟨w / md_m P cs.1, (hVm.2.1 w hw).1, fun p hp => ?_⟩
        obtain ⟨f, hf⟩ : ∃ f, (md_ptw ws ++ [x])[p]? = some f := ⟨_, List.getElem?_eq_getElem (by omega)⟩
        rw [hbit p f hf w hw]
        exact List.all_eq_true.mp hall f (List.mem_of_getElem? hf)
    have i2 : ∀ q, q ≠ 129 → q ≠ 127 → X2.1 q = X12.1 q := fun q h1 h2 => funext fun i => b2 q i h1 (fun z => h2 z.1)
    have hrun := rx_246e (h := rp_h P) (M := md_all cs.1) (pn := (md_ptw ws).length + 1) (X := X2) (by rw [i2 117 (by decide) (by decide)]; exact hin) hh.2 (by rw [i2 122 (by decide) (by decide)]; exact hU12.2.1) hU12.2.2.2.1.2 b3 (by omega) n2 0 _ _ rfl (Nat.zero_le _) (Or.inl rfl) ⟨fun z => absurd rfl z, fun ⟨w, hw, _⟩ => absurd hw (Nat.not_lt_zero _)⟩ g7
    have f2 : fy [(127, rp_h P)] [] [129] X12 X2 := ⟨by rw [b1], fun r k _ _ => by rw [b1], fun r k hr hk => b2 r k (fun z => hr (by rw [z]; exact List.mem_singleton.mpr rfl)) (fun z => hk (by rw [z.1, z.2]; exact List.mem_singleton.mpr rfl))⟩
    have hO2 : rx_O (rp_h P) X12 X2 := by
      have hl : X2.2.1 = X12.2.1 := by rw [b1]
      refine ⟨⟨?_, ?_, ?_, ?_, ?_⟩, fun u hu => ⟨?_, ?_, fun i hi => ?_, fun w hw => ?_⟩, fun t ht => ⟨?_, ?_, ?_, ?_, fun c hc => ?_, fun r hr => ⟨fun c hc => ⟨?_, ?_⟩, fun b hb => ?_⟩⟩, fun p hp b hb => ?_⟩
      · rw [i2 118 (by decide) (by decide)]
      · rw [i2 122 (by decide) (by decide)]
      · rw [i2 124 (by decide) (by decide)]
      · exact b2 _ _ (by decide) (fun z => by omega)
      · rw [i2 128 (by decide) (by decide)]
      · rw [hl]
      · rw [i2 120 (by decide) (by decide)]
      · rw [i2 121 (by decide) (by decide)]
      · rw [i2 123 (by decide) (by decide)]
      · rw [hl]
      · rw [i2 126 (by decide) (by decide)]
      · rw [i2 131 (by decide) (by decide)]
      · rw [i2 132 (by decide) (by decide)]
      · rw [hl]
      · rw [i2 134 (by decide) (by decide)]
      · rw [i2 135 (by decide) (by decide)]
      · rw [i2 136 (by decide) (by decide)]
      · rw [b4 _ _ hb, if_neg (by omega)]
    have hOX : rx_O (rp_h P) X X2 := rx_O_tr (rx_O_fr f12 (by decide) (by decide)) hO2
    rcases hrun with ⟨⟨hv, hX'⟩, hex⟩ | ⟨⟨hv, h24, f3⟩, hnex⟩
    · subst hX'
      have hany := key.mp hex
      obtain ⟨w3, q1, q2, -⟩ := md_Re_n hRe (md_ck190 (by decide)) (fun _ => (md_wk190 hx (by rw [hpt]; exact hpn)).trans (by rw [hpt]; exact if_pos hany))
      have q2 := q2 hb
      have p1 : w3.1 = ws.1 := by rw [q2]; exact k1
      have p2 : w3.2.1 = ws.2.1 := by rw [q2]; exact k2
      have p3 : md_tr w3 = [] := by rw [q2]; rfl
      have p4 : md_ptw w3 = md_ptw ws ++ [x] := by rw [q2]; rfl
      refine ⟨Or.inr ⟨hv, Or.inr ⟨j, j' + 1, j', c', nm, cs, w3, ⟨rx_G_fr hG12 f2 (by decide) (by simp), ⟨?_, ?_, ?_, fun _ => ⟨?_, ?_, ?_, ?_, ?_⟩⟩, ⟨hc14', hcp.1⟩, hsk, fun _ => ⟨p3, by rw [p2]; exact hw2, by rw [p4, hlen, hcp.2]; omega⟩⟩, q1⟩⟩, fun _ => hOX⟩
      · unfold rx_U
        rw [i2 118 (by decide) (by decide), i2 120 (by decide) (by decide), i2 121 (by decide) (by decide), i2 122 (by decide) (by decide), b1]
        exact hU12
      · unfold rx_V
        rw [i2 123 (by decide) (by decide)]
        exact hV12
      · unfold rx_TB rx_T1 rx_cl
        rw [i2 124 (by decide) (by decide), i2 126 (by decide) (by decide), i2 131 (by decide) (by decide), i2 132 (by decide) (by decide), b1]
        exact hTB12
      · rw [p1]; exact o1
      · rw [p1]
        unfold rx_Rw rx_tm
        rw [i2 131 (by decide) (by decide), i2 134 (by decide) (by decide), i2 135 (by decide) (by decide), i2 136 (by decide) (by decide)]
        exact o2
      · rw [p4, hlen]; exact b3
      · rw [p4, hlen]; omega
      · rw [p4]; exact hbit
    · have hany : ¬ (List.range (rp_W P)).any (fun w => (md_ptw ws ++ [x]).all (fun p => p w)) = true := fun z => hnex (key.mpr z)
      have hnone := md_Re_w hRe hb (md_ck190 (by decide)) ((md_wk190 hx (by rw [hpt]; exact hpn)).trans (by rw [hpt]; exact if_neg hany))
      exact ⟨Or.inl (Or.inr ⟨hv, ⟨hb, hnone⟩, h24⟩), fun _ => rx_O_tr hOX (rx_O_fr f3 (by decide) (by decide))⟩
end DD22
