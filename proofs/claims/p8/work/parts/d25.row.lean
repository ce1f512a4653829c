/-! THE REFERENCE: a ROW is told -/
section DD25
variable {P : md_P} {X X' X0 X1 X2 X6 : fx_X} {K : List md_Sy} {c c1 c0 : md_C} {nm nm' : md_Nm} {cs : md_CS} {ws w2 : md_WS} {j near l l2 n n1 t R k : Nat} {v y1 y2 y3 y4 y5 y6 y7 p1 p2 p3 : Int32} {nn : Int64} {l8 : List Int64} {ts : List md_Tm} {f x : Nat → Bool} {tr : List (Nat → Bool)} {F L : List (Nat × Nat)} {A : List Nat}
/-- counters as they were -/
def rx_rc (c c1 : md_C) (cs : md_CS) : Prop := (c1 14).toInt = 0 ∧ (c1 8).toInt = (cs.1.length : Int) ∧ (c1 11).toInt = (c 11).toInt
theorem md_rule_137 {k : Int} : md_rule 137 k = some (if k = 13 then [13, 138, 188] else []) := by
  show (md_49 137 k).map _ = _
  unfold md_49
  rw [if_neg (by decide), if_neg (by decide), if_neg (by decide), if_neg (by decide), if_neg (by decide), if_neg (by decide), if_pos rfl]
  by_cases z : k = 13
  · rw [if_pos z, if_pos z]; rfl
  · rw [if_neg z, if_neg z]; rfl
/-- behind the bracket -/
theorem rx_234i (hh : rp_h P ≤ 1) (hx : cs.2.2.1[t]? = some (nn, false, l8)) (hnm : nm[t]? = some (nn, p1)) (hR : p1.toInt = (R : Int)) (hR30 : R < 30) (h1 : rx_B P X ∨ (y1.toInt = (t : Int) ∧ y2.toInt = ((10 * rp_h P + t : Nat) : Int))) (hsk : cs.2.2.2.2.1 = []) (hw : rp_b P = true → md_tr ws = [] ∧ ws.2.1 = [] ∧ ((md_ptw ws).length : Int) = (c 11).toInt) (h : rx_B P X ∨ ∃ j near l2 l3 l4 c1 w2 ts, rx_G P X j c1 ∧ md_R P ((137, l2) :: (59, l3) :: (130, l4) :: K) j near c1 (nm.set t (nn, p1 + Int32.ofInt 1)) ((cs.1, cs.2.1, cs.2.2.1, ((l8.length : Int), (l8.length : Int)), cs.2.2.2.2), w2) ∧ rx_mr P X0 X t R cs ws nm w2 ts (fun _ => true) [] ∧ rx_rc c c1 cs ∧ (rp_b P = true → ts.length = l8.length)) (g : gxF_234 n1 311 [y1, y2] [] [] X v X') : rx_PO P K X0 v X' := by
  rcases h with hB | ⟨j, near, l2, l3, l4, c1, w2, ts, hG, hR1, hmr, hrc, hts⟩
  · exact rx_PO_B (gbl_234 _ _ _ _ _ X v X' hB g) (gvl_234 _ _ _ _ _ X v X' g)
  rcases h1 with hB | ⟨hy1, hy2⟩
  · exact rx_PO_B (gbl_234 _ _ _ _ _ X v X' hB g) (gvl_234 _ _ _ _ _ X v X' g)
  cases n1 with
  | zero => exact g.elim
  | succ n1 =>
    replace g := gxO_234_311 g
    obtain ⟨w121, X120, r1, g⟩ := g
    obtain ⟨e120, h121⟩ := rx_212 r1
    subst e120
    have e3 : (Int32.ofInt 3).toInt = 3 := rfl
    rw [e3] at h121
    have hck : md_ck (rp_T P) (cs.1, cs.2.1, cs.2.2.1, ((l8.length : Int), (l8.length : Int)), cs.2.2.2.2) (137, near, l2) = md_k ((cs.1, cs.2.1, cs.2.2.1, ((l8.length : Int), (l8.length : Int)), cs.2.2.2.2), 0) := md_ck137.trans (if_pos rfl)
    have hk13 := (rx_k hG).2.2.2.2.2.2 3 (by decide) (by decide)
    rcases fy_ifd g with ⟨c2, g1⟩ | ⟨c2, g1⟩
    · have hT : (rp_T P).1 j ≠ 13 := fun z => by
        rcases h121 with y | y
        · omega
        · exact y.2 (hk13.mpr z)
      have hRe := md_R_137 (r := []) hR1 (md_rule_137.trans (by rw [if_neg hT]))
      have hR2 : md_R P ((59, l3) :: (130, l4) :: K) j near c1 (nm.set t (nn, p1 + Int32.ofInt 1)) ((cs.1, cs.2.1, cs.2.2.1, ((l8.length : Int), (l8.length : Int)), cs.2.2.2.2), w2) := md_Re_c hRe hck (fun _ => md_wk_id (by decide))
      refine rx_234s hh hx hnm hR hR30 (Or.inr ⟨hy1, hy2⟩) hsk hw (Or.inr ⟨j, near, l3, l4, c1, w2, ts, _, _, hG, hR2, hmr, hrc, fun hb => ⟨hts hb, fun w _ => ?_⟩⟩) g1
      have : (w121.toInt == 0) = true := beq_iff_eq.mpr c2
      rw [this]
      rfl
    · have hT : (rp_T P).1 j = 13 := by
        rcases h121 with y | y
        · exact hk13.mp y.2
        · omega
      have hRe := md_R_137 (r := [13, 138, 188]) hR1 (md_rule_137.trans (by rw [if_pos hT]))
      have hR2 : md_R P ((13, j) :: (138, j) :: (188, j) :: (59, l3) :: (130, l4) :: K) j near c1 (nm.set t (nn, p1 + Int32.ofInt 1)) ((cs.1, cs.2.1, cs.2.2.1, ((l8.length : Int), (l8.length : Int)), cs.2.2.2.2), w2) := md_Re_c hRe hck (fun _ => md_wk_id (by decide))
      obtain ⟨w125, X124, r2, g2⟩ := g1
      have h2 := rx_214 (Q := True) (Or.inr ⟨hG, hR2, ⟨hT, by decide, by decide⟩, True.intro⟩) r2
      rcases rx_go h2 g2 with e | ⟨h2, g3⟩
      · exact rx_PO_x e
      obtain ⟨w128, X127, r3, g3⟩ := g3
      have f1 := gf_214 r2
      have hmr1 := rx_mr_fr hmr f1 (by decide) (by decide) (by decide)
      have h3 := rx_237 (cs := (cs.1, cs.2.1, cs.2.2.1, ((l8.length : Int), (l8.length : Int)), cs.2.2.2.2)) (K := (188, j) :: (59, l3) :: (130, l4) :: K) (Q := True) (h2.imp id (fun z => ⟨z.1, z.2.1, hmr1.1.1, hmr1.1.2.1, fun hb => (hmr1.2.2 hb).2.2.2.2.1, hrc.1, True.intro⟩)) r3
      rcases rx_go h3 g3 with e | ⟨h3, g4⟩
      · exact rx_PO_x e
      rcases h3 with hB | ⟨j', near', c', w3, hG3, hR3, hK3, hkp, hcc, hc14, -⟩
      · exact rx_PO_B (gbl_234 _ _ _ _ _ _ v X' hB g4) (gvl_234 _ _ _ _ _ _ v X' g4)
      have f2 := gf_237 r3
      have hmr2 := rx_mr_fr hmr1 f2 (by decide) (by decide) (by decide)
      have hRe2 := md_R_e0 hR3 (by decide)
      have hrc2 : rx_rc c c' cs := ⟨hc14, by rw [hcc 8 (by decide)]; exact hrc.2.1, by rw [hcc 11 (by decide)]; exact hrc.2.2⟩
      cases hb : rp_b P with
      | false =>
        obtain ⟨w4, q1, -, -⟩ := md_Re_n (w' := w2) hRe2 (md_ck190 (by decide)) (fun z => by rw [hb] at z; cases z)
        refine rx_234s (X0 := X0) hh hx hnm hR hR30 (Or.inr ⟨hy1, hy2⟩) hsk hw (Or.inr ⟨j', near', l3, l4, c', w4, ts, (fun _ => true), _, hG3, q1, ⟨hmr2.1, hmr2.2.1, fun z => by rw [hb] at z; cases z⟩, hrc2, fun z => by rw [hb] at z; cases z⟩) g4
      | true =>
        obtain ⟨⟨A, a1, a2, a3⟩, a4, a5, a6, a7, a8, a9, a10⟩ := hmr2.2.2 hb
        obtain ⟨k1, k2, k3⟩ := hkp hb
        obtain ⟨kl, kC⟩ := hK3.2.2.2 hb
        obtain ⟨x, hx'⟩ : ∃ x, md_tr w3 = [x] := by
          cases hm : md_tr w3 with
          | nil => rw [hm] at kl; cases kl
          | cons y tr =>
            cases tr with
            | nil => exact ⟨y, rfl⟩
            | cons z tr => rw [hm] at kl; exact absurd kl (by show ¬ tr.length + 1 + 1 = 1; omega)
        rw [hx'] at kC
        have hrt : md_rtw w3 = t := by
          have : md_rtw w3 = md_rtw w2 := congrArg (·.2.1) k3
          rw [this]; exact a6
        have htl := (List.getElem?_eq_some_iff.mp a1).1
        have h31 : w3.1[t]? = some (A ++ [(ts, fun _ => true)]) := by
          rw [k1, a3, List.getElem?_modify, a1]
          simp
        obtain ⟨w4, q1, q2, -⟩ := md_Re_n hRe2 (md_ck190 (by decide)) (fun _ => md_wk188 (by rw [hrt]; exact h31) hx')
        have q2 := q2 hb
        refine rx_234s (X0 := X0) hh hx hnm hR hR30 (Or.inr ⟨hy1, hy2⟩) hsk hw (Or.inr ⟨j', near', l3, l4, c', w4, ts, (fun w => true && x w), _, hG3, q1, ⟨hmr2.1, hmr2.2.1, fun _ => ⟨⟨A, a1, a2, ?_⟩, ?_, ?_, ?_, ?_, a8, a9, a10⟩⟩, hrc2, fun _ => ⟨hts hb, fun w hw' => ?_⟩⟩) g4
        · rw [q2]
          show w3.1.modify (md_rtw w3) _ = _
          rw [hrt, k1, a3, List.modify_modify_eq]
          rfl
        · rw [q2]; exact k2.trans a4
        · rw [q2]; exact (congrArg (·.1) k3).trans a5
        · rw [q2]; exact hrt
        · rw [q2]; rfl
        · have hy6 : (w121.toInt == 0) = false := by
            cases z : (w121.toInt == 0) with
            | false => rfl
            | true => exact absurd (beq_iff_eq.mp z) c2
          rw [hy6]
          have := kC.1 w hw'
          show (false || fx_bt (X127.1 137) 0 (w / md_m P cs.1)) = (true && x w)
          rw [Bool.false_or, Bool.true_and]
          exact this
/-- a TERM more stands -/
theorem rx_234t {X58 : fx_X} (hh : rp_h P ≤ 1) (hx : cs.2.2.1[t]? = some (nn, false, l8)) (hR30 : R < 30) (h1 : rx_B P X58 ∨ (y1.toInt = (t : Int) ∧ y2.toInt = ((10 * rp_h P + t : Nat) : Int) ∧ y4.toInt = (n : Int))) (h : rx_B P X58 ∨ ∃ j near l1 l2 l3 l4 l5 l6 c1 w2 w3 ts x, rx_G P X58 j c1 ∧ md_R P ((187, l1) :: (136, l2) :: (41, l3) :: (137, l4) :: (59, l5) :: (130, l6) :: K) j near c1 nm' ((cs.1, cs.2.1, cs.2.2.1, ((l8.length : Int), (n : Int)), cs.2.2.2.2), w3) ∧ rx_td X58 cs.1.length x ∧ (rp_b P = true → w3 = md_sft w2 x) ∧ rx_mr P X0 X58 t R cs ws nm w2 ts (fun _ => true) [] ∧ rx_rc c c1 cs ∧ (rp_b P = true → ts.length = n) ∧ n + 1 ≤ j) (g : (if ((X58.1 117 32)).toInt = 0 then (gxF_234 n1 245 [y1, y2, y3, y4] [] [] X58 v X') else ((0 ≤ (y2).toInt ∧ (y2).toInt < ((50 : Nat) : Int)) ∧ ∃ (w66 : Int32) (X65 : fx_X), gx_236 y2 (X58.1 131 (y2).toInt.toNat) y4 X58 w66 X65 ∧ (0 ≤ (w66).toInt ∧ (w66).toInt < ((12000 : Nat) : Int)) ∧ ∃ X68 : fx_X, X68 = (fx_wI X65 134 (w66).toInt.toNat (aj_nar 4 (((X65.1 117 38)).toInt8.toInt32))) ∧ (0 ≤ (y2).toInt ∧ (y2).toInt < ((50 : Nat) : Int)) ∧ ∃ (w73 : Int32) (X72 : fx_X), gx_236 y2 (X68.1 131 (y2).toInt.toNat) y4 X68 w73 X72 ∧ (0 ≤ (w73).toInt ∧ (w73).toInt < ((12000 : Nat) : Int)) ∧ ∃ X75 : fx_X, X75 = (fx_wI X72 135 (w73).toInt.toNat (X72.1 117 39)) ∧ gxF_234 n1 245 [y1, y2, y3, y4] [] [] X75 v X'))) : ∃ X5, (rx_B P X5 ∨ ∃ j near l2 l3 l4 l5 l6 c1 w2 ts, rx_G P X5 j c1 ∧ md_R P ((136, l2) :: (41, l3) :: (137, l4) :: (59, l5) :: (130, l6) :: K) j near c1 nm' ((cs.1, cs.2.1, cs.2.2.1, ((l8.length : Int), ((n + 1 : Nat) : Int)), cs.2.2.2.2), w2) ∧ rx_mr P X0 X5 t R cs ws nm w2 ts (fun _ => true) [] ∧ rx_rc c c1 cs ∧ (rp_b P = true → ts.length = n + 1) ∧ n + 1 ≤ j) ∧ gxF_234 n1 245 [y1, y2, y3, y4] [] [] X5 v X' := by
  rcases h with hB | ⟨j, near, l1, l2, l3, l4, l5, l6, c1, w2, w3, ts, x, hG, hR1, htd, hw3, hmr, hrc, hts, hnj⟩
  · rw [if_pos hB.2.2] at g
    exact ⟨X58, Or.inl hB, g⟩
  have hnB : ¬ rx_B P X58 := fun y => absurd hG.2.2.2.2.2.1 y.2.1
  obtain ⟨hy1, hy2, hy4⟩ : y1.toInt = (t : Int) ∧ y2.toInt = ((10 * rp_h P + t : Nat) : Int) ∧ y4.toInt = (n : Int) := by
    rcases h1 with y | y
    · exact absurd y hnB
    · exact y
  have hst := hG.2.2.2.2.1
  have hRe := md_R_e0 hR1 (by decide)
  have ecs : ((n : Int) + 1) = ((n + 1 : Nat) : Int) := by omega
  have hck : md_ck (rp_T P) (cs.1, cs.2.1, cs.2.2.1, ((l8.length : Int), (n : Int)), cs.2.2.2.2) (187, near, l1) = md_k ((cs.1, cs.2.1, cs.2.2.1, ((l8.length : Int), ((n + 1 : Nat) : Int)), cs.2.2.2.2), 0) := by
    rw [md_ck187]
    show md_k ((cs.1, cs.2.1, cs.2.2.1, ((l8.length : Int), (n : Int) + 1), cs.2.2.2.2), (0 : Int)) = _
    rw [ecs]
  cases hb : rp_b P with
  | false =>
    rw [hb, if_neg (by decide)] at hst
    rw [if_pos hst] at g
    obtain ⟨w4, q1, -, -⟩ := md_Re_n (w' := w2) hRe hck (fun z => by rw [hb] at z; cases z)
    exact ⟨X58, Or.inr ⟨j, near, l2, l3, l4, l5, l6, c1, w4, ts, hG, q1, ⟨hmr.1, hmr.2.1, fun z => by rw [hb] at z; cases z⟩, hrc, (fun z => by cases z), hnj⟩, g⟩
  | true =>
    rw [hb, if_pos rfl] at hst
    rw [if_neg (by omega)] at g
    obtain ⟨⟨A, a1, a2, a3⟩, a4, a5, a6, a7, a8, a9, a10⟩ := hmr.2.2 hb
    have hcap := md_R_187 hR1 hb
    dsimp only at hcap
    have ht := (List.getElem?_eq_some_iff.mp hx).1
    have ht10 := hmr.1.2.2.1.2.1
    have hl6 := (hmr.1.2.2.1.2.2.1 t _ hx).2.2.2.1
    have hl6 : l8.length ≤ 6 := hl6
    have hn6 : n < 6 := by omega
    have htl := (List.getElem?_eq_some_iff.mp a1).1
    have hw3 := hw3 hb
    have h21 : w3.1[md_rtw w3]? = some (A ++ [(ts, fun _ => true)]) := by
      have e1 : w3.1 = w2.1 := by rw [hw3]; rfl
      have e2 : md_rtw w3 = t := by rw [hw3]; exact a6
      rw [e1, e2, a3, List.getElem?_modify, a1]
      simp
    have hokx : md_okb (rp_n P) 0 x = true := md_okb_i (by
      have := (hmr.1.2.1 hb).2.2.1
      have := htd.2.2
      omega)
    obtain ⟨w4, q1, q2, -⟩ := md_Re_n hRe hck (fun _ => md_wk187 h21 (by rw [hts hb]; exact hn6) (by rw [hw3]; exact hokx))
    have q2 := q2 hb
    have h131 := hmr.2.1
    have hcell : ∀ {X6 : fx_X} {w66 : Int32} {X65 : fx_X}, (X6.1 131 (10 * rp_h P + t)).toInt = (R : Int) → gx_236 y2 (X6.1 131 (y2).toInt.toNat) y4 X6 w66 X65 → X65 = X6 ∧ w66.toInt = ((8 * (30 * (10 * rp_h P + t) + R) + n : Nat) : Int) := by
      intro X6 w66 X65 h6 r
      obtain ⟨e1, e2⟩ := r
      refine ⟨e2, ?_⟩
      rw [fx_in hy2] at e1
      have k1 : (y2 * ((Int8.ofInt 30).toInt32) + X6.1 131 (10 * rp_h P + t)).toInt = (((10 * rp_h P + t) * 30 + R : Nat) : Int) := rx_lin hy2 rfl h6 (by omega)
      have k2 := rx_lin (m := 8) (z := (Int8.ofInt 8).toInt32) k1 rfl hy4 (by omega)
      rw [e1, show 8 * (30 * (10 * rp_h P + t) + R) + n = ((10 * rp_h P + t) * 30 + R) * 8 + n by omega]
      exact k2
    obtain ⟨-, w66, X65, r1, -, X68, e68, -, w73, X72, r2, -, X75, e75, g1⟩ := g
    obtain ⟨e65, ev1⟩ := hcell h131 r1
    subst e65
    rw [fx_in ev1] at e68
    have h131b : (X68.1 131 (10 * rp_h P + t)).toInt = (R : Int) := by rw [e68, fx_rIn (by decide)]; exact h131
    obtain ⟨e72, ev2⟩ := hcell h131b r2
    subst e72
    rw [fx_in ev2] at e75
    have h39 : X72.1 117 39 = X65.1 117 39 := by rw [e68, fx_rIn (by decide)]
    rw [h39, htd.2.1] at e75
    have hx01 : x.1 = 0 ∨ x.1 = 1 := by have := htd.2.2; omega
    have hnar : (aj_nar 4 (((X65.1 117 38)).toInt8.toInt32)).toInt = (if (x.1 == 1) = true then 1 else 0) := by
      have h38 := htd.1
      rcases hx01 with e | e
      · have : X65.1 117 38 = Int32.ofInt 0 := fx_inj (by rw [h38, e]; rfl)
        rw [this, e]
        decide
      · have : X65.1 117 38 = Int32.ofInt 1 := fx_inj (by rw [h38, e]; rfl)
        rw [this, e]
        decide
    have i75 : ∀ q, q ≠ 134 → q ≠ 135 → X75.1 q = X65.1 q := fun q z1 z2 => by rw [e75, fx_rIn z2, e68, fx_rIn z1]
    have l75 : X75.2 = X65.2 := by rw [e75, e68]; rfl
    have f75 : fy [] [] [134, 135] X65 X75 := by rw [e75, e68]; exact fy_a (fy_a fy_rf (by decide)) (by decide)
    have hsl : rx_sl P t X65 X75 := by
      rw [e75, e68]
      exact rx_sl_tr (rx_sl_w (by omega)) (rx_sl_w (by omega))
    have k134 : ∀ k, k ≠ 8 * (30 * (10 * rp_h P + t) + R) + n → X75.1 134 k = X65.1 134 k ∧ X75.1 135 k = X65.1 135 k := fun k hk => by
      rw [e75, fx_rIn (by decide), fx_rIk hk, e68, fx_rIk hk, fx_rIn (by decide)]
      exact ⟨rfl, rfl⟩
    have hw4 : w4.1 = ws.1.modify t (fun _ => A ++ [(ts ++ [(x.1 == 1, x.2)], fun _ => true)]) := by
      rw [q2]
      show w3.1.modify (md_rtw w3) _ = _
      have e1 : w3.1 = w2.1 := by rw [hw3]; rfl
      have e2 : md_rtw w3 = t := by rw [hw3]; exact a6
      rw [e1, e2, a3, List.modify_modify_eq, hw3]
      rfl
    refine ⟨X75, Or.inr ⟨j, near, l2, l3, l4, l5, l6, c1, w4, ts ++ [(x.1 == 1, x.2)], rx_G_fr hG f75 (by decide) (by decide), q1, ⟨⟨?_, ?_, ?_, fun _ => ?_⟩, by rw [i75 131 (by decide) (by decide)]; exact h131, fun _ => ⟨⟨A, a1, a2, hw4⟩, ?_, ?_, ?_, ?_, fun c' y hc => ?_, ⟨?_, fun y hy hy1' => ?_⟩, rx_O_tr a10 (rx_O_sl hsl (by omega) hh)⟩⟩, hrc, fun _ => ?_, hnj⟩, g1⟩
    · unfold rx_U
      rw [i75 118 (by decide) (by decide), i75 120 (by decide) (by decide), i75 121 (by decide) (by decide), i75 122 (by decide) (by decide), l75]
      exact hmr.1.1
    · unfold rx_V
      rw [i75 123 (by decide) (by decide)]
      exact hmr.1.2.1
    · unfold rx_TB rx_T1 rx_cl
      rw [i75 124 (by decide) (by decide), i75 126 (by decide) (by decide), i75 131 (by decide) (by decide), i75 132 (by decide) (by decide), l75]
      exact hmr.1.2.2.1
    · obtain ⟨w1, w2', w3'⟩ := hmr.1.2.2.2 hb
      refine ⟨w1, fun t' A' x' hA' hx' => ?_, ?_⟩
      · obtain ⟨⟨r1', r2'⟩, r3'⟩ := w2' t' A' x' hA' hx'
        refine ⟨⟨by rw [i75 131 (by decide) (by decide)]; exact r1', fun r y hy => ⟨fun c' z hc => ?_, fun w hw' => by rw [i75 136 (by decide) (by decide)]; exact (r2' r y hy).2 w hw'⟩⟩, r3'⟩
        have hr := (List.getElem?_eq_some_iff.mp hy).1
        have hc6 := (List.getElem?_eq_some_iff.mp hc).1
        have h6 := (r3'.2 y (List.mem_of_getElem? hy)).1.1
        have h30 := r3'.1
        have := (r2' r y hy).1 c' z hc
        unfold rx_tm at this ⊢
        have hne : 8 * (30 * (10 * rp_h P + t') + r) + c' ≠ 8 * (30 * (10 * rp_h P + t) + R) + n := by
          intro z
          have : t' = t := by omega
          subst this
          rw [a1] at hA'
          cases hA'
          omega
        rw [(k134 _ hne).1, (k134 _ hne).2]
        exact this
      · unfold rx_pt at w3' ⊢
        rw [i75 127 (by decide) (by decide), i75 129 (by decide) (by decide)]
        exact w3'
    · rw [q2]; show w3.2.1 = ws.2.1; rw [hw3]; exact a4
    · rw [q2]; show md_ptw w3 = md_ptw ws; rw [hw3]; exact a5
    · rw [q2]; show md_rtw w3 = t; rw [hw3]; exact a6
    · rw [q2]; show md_tr w3 = []; rw [hw3]; exact a7
    · by_cases z : c' < n
      · have hts' := hts hb
        rw [List.getElem?_append_left (by omega)] at hc
        have := a8 c' y hc
        unfold rx_tm at this ⊢
        have hne : 8 * (30 * (10 * rp_h P + t) + R) + c' ≠ 8 * (30 * (10 * rp_h P + t) + R) + n := by omega
        rw [(k134 _ hne).1, (k134 _ hne).2]
        exact this
      · have hts' := hts hb
        have := (List.getElem?_eq_some_iff.mp hc).1
        rw [List.length_append] at this
        have : c' < ts.length + 1 := this
        have : c' = ts.length := by omega
        subst this
        rw [List.getElem?_append_right (Nat.le_refl _), Nat.sub_self] at hc
        cases hc
        rw [hts']
        refine ⟨?_, ?_⟩
        · rw [e75, fx_rIn (by decide), e68, fx_rIe]
          exact hnar
        · rw [e75, fx_rIe]
    · rw [List.length_append, hts hb]; show n + 1 ≤ 6; omega
    · rcases List.mem_append.mp hy with z | z
      · exact a9.2 y z hy1'
      · have : y = (x.1 == 1, x.2) := List.mem_singleton.mp z
        rw [this] at hy1' ⊢
        have hy1' : (x.1 == 1) = true := hy1'
        have := beq_iff_eq.mp hy1'
        have := htd.2.2
        show 0 ≤ x.2.toInt ∧ x.2.toInt < (cs.1.length : Int)
        omega
    · rw [List.length_append, hts hb]; rfl
end DD25
