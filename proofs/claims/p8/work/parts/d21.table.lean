/-! THE REFERENCE: a TABLE is told, to its end -/
section DD21
variable {P : md_P} {X X' X0 X1 X2 X6 : fx_X} {K : List md_Sy} {c c1 c0 : md_C} {nm : md_Nm} {cs : md_CS} {ws : md_WS} {j near l l2 n n1 t k slot : Nat} {v y1 y5 p1 w z : Int32} {nn : Int64} {l8 : List Int64} {s : Int}
/-- the loop over the COLUMNS -/
theorem rx_229l (hp : y1.toInt = ((10 * rp_h P + cs.2.2.1.length : Nat) : Int)) (hh : rp_h P ≤ 1) (hsk : cs.2.2.2.2.1 = []) (hw : rp_b P = true → md_tr ws = [] ∧ ws.2.1 = [] ∧ ((md_ptw ws).length : Int) = (c 11).toInt) (hc14 : (c 14).toInt = 0) (hc8 : (c 8).toInt = (cs.1.length : Int)) : ∀ (n : Nat) (X : fx_X), (rx_B P X ∨ ∃ j near l1 l2 l3 l4 c1 l8 w2, rx_G P X j c1 ∧ md_R P ((135, l1) :: (41, l2) :: (59, l3) :: (130, l4) :: K) j near c1 (nm ++ [(nn, Int32.ofInt 0)]) ((cs.1, cs.2.1, cs.2.2.1 ++ [(nn, false, l8)], cs.2.2.2), w2) ∧ rx_tn P nn 0 cs ws nm X0 X ∧ rx_cl X (10 * rp_h P + cs.2.2.1.length) l8 ∧ ((c1 10).toInt = (l8.length : Int) ∧ l8.length ≤ 4) ∧ (∀ k, k ≠ 10 → c1 k = c k) ∧ (rp_b P = true → w2 = (ws.1 ++ [[]], ws.2)) ∧ (X.1 131 (10 * rp_h P + cs.2.2.1.length)).toInt = 0) → gxF_229 n 61 [y1] [] [] X v X' → rx_PO P K X0 v X' := by
  intro n
  induction n with
  | zero => intro X _ g; exact g.elim
  | succ n ih =>
    intro X h g
    rcases h with hB | ⟨j, near, l1, l2, l3, l4, c1, l8, w2, hG, hR, htn, hcl, ⟨hc10, hl4⟩, hcc, hw2, h131⟩
    · exact rx_PO_B (gbl_229 _ _ _ _ _ X v X' hB g) (gvl_229 _ _ _ _ _ X v X' g)
    replace g := gxO_229_61 g
    obtain ⟨w22, X21, r1, g⟩ := g
    obtain ⟨e21, h22⟩ := rx_220 r1
    subst e21
    have e44 : ((Int8.ofInt 44).toInt32).toInt = 44 := rfl
    have e41 : ((Int8.ofInt 41).toInt32).toInt = 41 := rfl
    have e59 : ((Int8.ofInt 59).toInt32).toInt = 59 := rfl
    rw [e44] at h22
    rcases fy_ifd g with ⟨c2, g1⟩ | ⟨c2, g1⟩
    · have hT44 : (rp_T P).1 j ≠ 44 := fun z => by
        rcases h22 with y | y
        · omega
        · exact y.2 ((rx_sg_i hG (by decide)).mpr z)
      have hR1 : md_R P ((41, l2) :: (59, l3) :: (130, l4) :: K) j near c1 (nm ++ [(nn, Int32.ofInt 0)]) ((cs.1, cs.2.1, cs.2.2.1 ++ [(nn, false, l8)], cs.2.2.2), w2) := md_R_r (r := []) hR (by decide) (by decide) (by decide) (by
        show (md_49 135 _).map _ = _
        unfold md_49
        rw [if_neg (by decide), if_neg (by decide), if_neg (by decide), if_neg (by decide), if_pos rfl, if_neg hT44]
        rfl)
      obtain ⟨w25, X24, r2, g2⟩ := g1
      have h2 := rx_219 (s := 41) (Q := True) (Or.inr ⟨hG, hR1, True.intro⟩) (by decide) e41 r2
      rcases rx_go h2 g2 with e | ⟨h2, g3⟩
      · exact rx_PO_x e
      obtain ⟨w28, X27, r3, g3⟩ := g3
      have h3 := rx_219 (s := 59) (Q := True) h2 (by decide) e59 r3
      rcases rx_go h3 g3 with e | ⟨h3, g4⟩
      · exact rx_PO_x e
      obtain ⟨-, -, X33, e33, e1, e2⟩ := g4
      rw [e2]
      rcases h3 with hB | ⟨hG3, hR3, -⟩
      · rw [e33]
        exact rx_PO_B (rx_B_w hB (Or.inl (by decide))) (Or.inr e1)
      · have hin := hG3.2.2.2.1.1
        rw [fx_in hin] at e33
        have f12 : fy fF_219 [] [] X21 X27 := fy_tr (fy_sub (gf_219 r2) (by decide) (by decide) (by decide)) (fy_sub (gf_219 r3) (by decide) (by decide) (by decide))
        have htn' := rx_tn_sl htn (rx_sl_fy f12 (by decide) (by decide)) (fy_rl f12 (by decide) (by decide)) (fy_ra f12 (by decide) (by decide)) hh
        have hcl' := rx_cl_fr hcl (fy_ra f12 (by decide) (by decide)) (fy_rl f12 (by decide) (by decide))
        have h131' : (X27.1 131 (10 * rp_h P + cs.2.2.1.length)).toInt = 0 := by rw [fy_ra f12 (by decide) (by decide)]; exact h131
        obtain ⟨hTT, hlt, hnn, hso, hni, hsl⟩ := htn'
        have i33 : ∀ q, q ≠ 124 → X33.1 q = X27.1 q := fun q hq => by rw [e33, fx_rIn hq]
        have l33 : X33.2 = X27.2 := by rw [e33]; rfl
        have hw33 : fy [(124, rp_h P)] [] [] X27 X33 := by rw [e33]; exact fy_f fy_rf (List.mem_singleton.mpr rfl)
        obtain ⟨hU, hV, hTB, hWT⟩ := hTT
        have h124 : (X33.1 124 (rp_h P)).toInt = ((cs.2.2.1.length + 1 : Nat) : Int) := by
          rw [e33, fx_rIe, cx_in1 hTB.1 (by omega)]
        -- the same with one TABLE more counted
        obtain ⟨t1, t2, t3, t4, t5, t6⟩ := hTB
        have t3' : ∀ t x, cs.2.2.1[t]? = some x → rx_T1 P X33 t x := fun t x hx => by
          have := t3 t x hx
          unfold rx_T1 rx_cl at this ⊢
          rw [l33, i33 126 (by decide), i33 132 (by decide)]
          exact this
        have hT1 : rx_T1 P X33 cs.2.2.1.length (nn, false, l8) := by
          refine ⟨by rw [l33]; exact hnn, by rw [i33 126 (by decide)]; exact hso, rx_cl_fr hcl' (i33 132 (by decide)) (by rw [l33])⟩
        refine ⟨Or.inr ⟨e1, Or.inr ⟨l4, j + 1 + 1, j + 1, c1, nm ++ [(nn, Int32.ofInt 0)], (cs.1, cs.2.1, cs.2.2.1 ++ [(nn, false, l8)], cs.2.2.2), w2, ⟨rx_G_fr hG3 hw33 (by decide) (by simp), ⟨?_, ?_, ?_, fun hb => ?_⟩, ⟨by rw [hcc 14 (by decide)]; exact hc14, by rw [hcc 8 (by decide)]; exact hc8⟩, hsk, fun hb => ?_⟩, hR3⟩⟩, fun hb => ?_⟩
        · show rx_U P X33 cs.1
          unfold rx_U
          rw [i33 118 (by decide), i33 120 (by decide), i33 121 (by decide), i33 122 (by decide), l33]
          exact hU
        · show rx_V P X33 cs.1
          unfold rx_V
          rw [i33 123 (by decide)]
          exact hV
        · have hnm : nm.length = cs.2.2.1.length := by
            have := congrArg List.length t5
            rw [List.length_map, List.length_map] at this
            exact this
          show rx_TB P X33 (cs.2.2.1 ++ [(nn, false, l8)]) (nm ++ [(nn, Int32.ofInt 0)])
          refine ⟨by rw [h124, List.length_append]; rfl, by rw [List.length_append]; show cs.2.2.1.length + 1 ≤ 10; omega, fun t x ht => ?_, ?_, by rw [List.map_append, List.map_append, t5]; rfl, fun t x k ht hk hf => ?_⟩
          · by_cases z : t < cs.2.2.1.length
            · rw [List.getElem?_append_left z] at ht
              exact t3' t x ht
            · have := (List.getElem?_eq_some_iff.mp ht).1
              rw [List.length_append] at this
              have : t < cs.2.2.1.length + 1 := this
              have : t = cs.2.2.1.length := by omega
              subst this
              rw [List.getElem?_append_right (Nat.le_refl _), Nat.sub_self] at ht
              cases ht
              exact hT1
          · rw [List.map_append, List.nodup_append]
            exact ⟨t4, by simp, fun a ha b hb => by
              simp at hb
              subst hb
              exact fun e => hni (e ▸ ha)⟩
          · rw [i33 131 (by decide)]
            by_cases z : t < cs.2.2.1.length
            · rw [List.getElem?_append_left z] at ht
              rw [List.getElem?_append_left (by omega)] at hk
              exact t6 t x k ht hk hf
            · have := (List.getElem?_eq_some_iff.mp ht).1
              rw [List.length_append] at this
              have : t < cs.2.2.1.length + 1 := this
              have : t = cs.2.2.1.length := by omega
              subst this
              rw [List.getElem?_append_right (by omega), hnm, Nat.sub_self] at hk
              cases hk
              exact ⟨h131', (by show 0 ≤ (Int32.ofInt 0).toInt; decide), (by show (Int32.ofInt 0).toInt ≤ 30; decide)⟩
        · obtain ⟨w1, w2', w3⟩ := hWT hb
          rw [hw2 hb]
          refine ⟨by show (ws.1 ++ [[]]).length = (cs.2.2.1 ++ [(nn, false, l8)]).length; rw [List.length_append, List.length_append, w1]; rfl, fun t A x hA hx => ?_, ?_⟩
          · show rx_Rw P X33 (md_m P cs.1) (10 * rp_h P + t) A ∧ md_okA cs.1.length x.2.2.length A
            have hA : (ws.1 ++ [[]])[t]? = some A := hA
            have hx : (cs.2.2.1 ++ [(nn, false, l8)])[t]? = some x := hx
            by_cases z : t < cs.2.2.1.length
            · rw [List.getElem?_append_left z] at hx
              rw [List.getElem?_append_left (by omega)] at hA
              have := w2' t A x hA hx
              unfold rx_Rw rx_tm at this ⊢
              rw [i33 131 (by decide), i33 134 (by decide), i33 135 (by decide), i33 136 (by decide)]
              exact this
            · have := (List.getElem?_eq_some_iff.mp hx).1
              rw [List.length_append] at this
              have : t < cs.2.2.1.length + 1 := this
              have : t = cs.2.2.1.length := by omega
              subst this
              rw [List.getElem?_append_right (by omega), w1, Nat.sub_self] at hA
              cases hA
              exact ⟨⟨by rw [i33 131 (by decide)]; exact h131', fun r x hx => by cases hx⟩, Nat.zero_le _, fun x hx => by cases hx⟩
          · show rx_pt P X33 (md_m P cs.1) (md_ptw ws)
            unfold rx_pt at w3 ⊢
            rw [i33 127 (by decide), i33 129 (by decide)]
            exact w3
        · obtain ⟨q1, q2, q3⟩ := hw hb
          rw [hw2 hb]
          exact ⟨q1, q2, by rw [hcc 11 (by decide)]; exact q3⟩
        · refine rx_O_tr (rx_O_sl hsl hlt hh) ?_
          rw [e33]
          exact rx_O_w hh (by omega)
    · have hT44 : (rp_T P).1 j = 44 := by
        rcases h22 with y | y
        · exact (rx_sg_i hG (by decide)).mp y.2
        · omega
      have hR1 : md_R P ((44, j) :: (3, j) :: (185, j) :: (135, j) :: (41, l2) :: (59, l3) :: (130, l4) :: K) j near c1 (nm ++ [(nn, Int32.ofInt 0)]) ((cs.1, cs.2.1, cs.2.2.1 ++ [(nn, false, l8)], cs.2.2.2), w2) := md_R_r (r := [44, 3, 185, 135]) hR (by decide) (by decide) (by decide) (by rw [hT44]; rfl)
      obtain ⟨w35, X34, r2, g2⟩ := g1
      have h2 := rx_214 (Q := True) (Or.inr ⟨hG, hR1, ⟨hT44, by decide, by decide⟩, True.intro⟩) r2
      rcases rx_go h2 g2 with e | ⟨h2, g3⟩
      · exact rx_PO_x e
      obtain ⟨w38, X37, r3, g3⟩ := g3
      have f1 := gf_214 r2
      have hcl1 := rx_cl_fr hcl (fy_ra f1 (by decide) (by decide)) (fy_rl f1 (by decide) (by decide))
      have h3 := rx_232 (Q := True) (nn := nn) (b := false) (l8 := l8) (TB := cs.2.2.1) (U := cs.1) (cu := cs.2.1) (q := cs.2.2.2) (slot := 10 * rp_h P + cs.2.2.1.length) (h2.imp id (fun _ => ⟨hp, by have := htn.2.1; omega⟩)) (h2.imp id (fun z => ⟨z.1, z.2.1, hcl1, ⟨hc10, hl4⟩, True.intro⟩)) r3
      rcases rx_go h3 g3 with e | ⟨h3, g4⟩
      · exact rx_PO_x e
      refine ih X37 (h3.imp id (fun z => ?_)) g4
      obtain ⟨c3, a1, a2, a3, a4, a5, ⟨X3, a6, a7⟩, a8, -⟩ := z
      have fa : rx_sl P cs.2.2.1.length X21 X37 := by
        rw [a7]
        exact rx_sl_tr (rx_sl_fy f1 (by decide) (by decide)) (rx_sl_tr (rx_sl_fy a6 (by decide) (by decide)) (rx_sl_tr (rx_sl_wL (Or.inr ⟨rfl, Or.inl (by omega)⟩)) (rx_sl_w (by omega))))
      refine ⟨j + 1 + 1, j + 1, j, l2, l3, l4, c3, l8 ++ [(rp_T P).2 (j + 1)], w2, a1, a2, rx_tn_sl htn fa ?_ ?_ hh, a3, ⟨by rw [a4, List.length_append]; rfl, by rw [List.length_append]; show l8.length + 1 ≤ 4; omega⟩, fun k hk => (a5 k hk).trans (hcc k hk), hw2, ?_⟩
      · rw [a7]
        show (fx_wL X3 133 (8 * (10 * rp_h P + cs.2.2.1.length) + l8.length) ((rp_T P).2 (j + 1))).2.1 125 = _
        rw [fx_rLn (by decide), fy_rl a6 (by decide) (by decide), fy_rl f1 (by decide) (by decide)]
      · rw [a7, fx_rIn (by decide)]
        show X3.1 126 = _
        rw [fy_ra a6 (by decide) (by decide), fy_ra f1 (by decide) (by decide)]
      · rw [a7, fx_rIn (by decide)]
        show (X3.1 131 _).toInt = 0
        rw [fy_ra a6 (by decide) (by decide), fy_ra f1 (by decide) (by decide)]
        exact h131
theorem rx_229 (h : rx_B P X ∨ (rx_T P X j c cs ws nm ∧ md_R P ((130, l) :: K) j near c nm (cs, ws) ∧ (rp_T P).1 j = 11)) (g : gx_229 X v X') : rx_PO P K X v X' := by
  rcases h with hB | ⟨⟨hG, hTT, ⟨hc14, hc8⟩, hsk, hw⟩, hR, hT⟩
  · exact rx_PO_B (gb_229 hB g) (gv_229 g)
  obtain ⟨n1, w3, X2, r1, g⟩ := g
  have hh := hG.2.2.2.1
  have hR1 : md_R P ((11, j) :: (3, j) :: (184, j) :: (40, j) :: (3, j) :: (185, j) :: (135, j) :: (41, j) :: (59, j) :: (130, j) :: K) j near c nm (cs, ws) := md_R_r (r := [11, 3, 184, 40, 3, 185, 135, 41, 59, 130]) hR (by decide) (by decide) (by decide) (by rw [hT]; rfl)
  have h1 := rx_230 (Q := True) (s := 184) (Or.inl rfl) rfl (by decide) (Or.inr ⟨hG, hR1, hT, hTT, True.intro⟩) r1
  rcases rx_go h1 g with e | ⟨h1, g1⟩
  · exact rx_PO_x e
  obtain ⟨-, x7, e7, -, X11, e11, -, X14, e14, w16, X15, r2, g2⟩ := g1
  -- a fault is kept
  rcases h1 with hB | ⟨c1, hG1, hRe, ec1, htn, -⟩
  · have hB14 : rx_B P X14 := by rw [e14, e11]; exact rx_B_w (rx_B_w hB (Or.inl (by decide))) (Or.inl (by decide))
    have hB15 := gb_219 hB14 r2
    rcases gv_219 r2 with hv | hv
    · rw [if_pos (by rw [hv]; rfl)] at g2
      rw [g2.2]
      exact rx_PO_B hB15 (Or.inl g2.1)
    · rw [if_neg (by rw [hv]; decide)] at g2
      obtain ⟨w19, X18, r3, g3⟩ := g2
      have hB18 := gb_232 hB15 r3
      rcases gv_232 r3 with hv | hv
      · rw [if_pos (by rw [hv]; rfl)] at g3
        rw [g3.2]
        exact rx_PO_B hB18 (Or.inl g3.1)
      · rw [if_neg (by rw [hv]; decide)] at g3
        exact rx_PO_B (gbl_229 _ _ _ _ _ _ v X' hB18 g3) (gvl_229 _ _ _ _ _ _ v X' g3)
  · have hni : ¬ 0 ≤ md_ix ((rp_T P).2 (j + 1)) (cs.2.2.1.map (·.1)) 0 := by
      have := (md_ix_neg (k := 0)).mpr htn.2.2.2.2.1
      omega
    have hlt := htn.2.1
    obtain ⟨w2, hR2, hw2, -⟩ := md_Re_n hRe ((md_ck184 (cs := cs)).trans ((if_neg hni).trans (if_neg (by omega)))) (fun _ => md_wk184)
    have hin := hG1.2.2.2.1.1
    have h7 : x7.toInt = ((10 * rp_h P + cs.2.2.1.length : Nat) : Int) := by
      rw [e7, fx_in hin]
      have := rx_lin (m := 10) (z := (Int8.ofInt 10).toInt32) hin rfl htn.1.2.2.1.1 (by omega)
      rw [show 10 * rp_h P + cs.2.2.1.length = rp_h P * 10 + cs.2.2.1.length by omega]
      exact this
    rw [fx_in h7] at e11 e14
    have f14 : fy [(131, 10 * rp_h P + cs.2.2.1.length), (132, 10 * rp_h P + cs.2.2.1.length)] [] [] X2 X14 := by
      rw [e14, e11]
      exact fy_f (fy_f fy_rf (by simp)) (by simp)
    have hsl14 : rx_sl P cs.2.2.1.length X2 X14 := by
      rw [e14, e11]
      exact rx_sl_tr (rx_sl_w (by omega)) (rx_sl_w (by omega))
    have htn14 : rx_tn P ((rp_T P).2 (j + 1)) 0 cs ws nm X X14 := rx_tn_sl htn hsl14 (by rw [e14, e11]; rfl) (by rw [e14, fx_rIn (by decide), e11, fx_rIn (by decide)]) hh.2
    have hcl14 : rx_cl X14 (10 * rp_h P + cs.2.2.1.length) [] := ⟨by rw [e14, fx_rIe]; rfl, Nat.zero_le _, fun c n hc => by cases hc⟩
    have h131 : (X14.1 131 (10 * rp_h P + cs.2.2.1.length)).toInt = 0 := by rw [e14, fx_rIn (by decide), e11, fx_rIe]; rfl
    have e40 : ((Int8.ofInt 40).toInt32).toInt = 40 := rfl
    have h2 := rx_219 (s := 40) (Q := True) (Or.inr ⟨rx_G_fr hG1 f14 (by decide) (by simp), hR2, True.intro⟩) (by decide) e40 r2
    rcases rx_go h2 g2 with e | ⟨h2, g3⟩
    · exact rx_PO_x e
    obtain ⟨w19, X18, r3, g3⟩ := g3
    have f1 := gf_219 r2
    have hcl15 := rx_cl_fr hcl14 (fy_ra f1 (by decide) (by decide)) (fy_rl f1 (by decide) (by decide))
    have h3 := rx_232 (Q := True) (nn := (rp_T P).2 (j + 1)) (b := false) (l8 := []) (TB := cs.2.2.1) (U := cs.1) (cu := cs.2.1) (q := cs.2.2.2) (slot := 10 * rp_h P + cs.2.2.1.length) (h2.imp id (fun _ => ⟨h7, by omega⟩)) (h2.imp id (fun z => ⟨z.1, z.2.1, hcl15, ⟨by rw [ec1]; rfl, by decide⟩, True.intro⟩)) r3
    rcases rx_go h3 g3 with e | ⟨h3, g4⟩
    · exact rx_PO_x e
    refine rx_229l (nm := nm) (nn := (rp_T P).2 (j + 1)) (c := c) h7 hh.2 hsk hw hc14 hc8 n1 X18 (h3.imp id (fun z => ?_)) g4
    obtain ⟨c3, a1, a2, a3, a4, a5, ⟨X3, a6, a7⟩, a8, -⟩ := z
    have fa : rx_sl P cs.2.2.1.length X14 X18 := by
      rw [a7]
      exact rx_sl_tr (rx_sl_fy f1 (by decide) (by decide)) (rx_sl_tr (rx_sl_fy a6 (by decide) (by decide)) (rx_sl_tr (rx_sl_wL (Or.inr ⟨rfl, Or.inl (by show _ ≤ _ + 0 ∧ _ + 0 < _; omega)⟩)) (rx_sl_w (by omega))))
    refine ⟨_, _, j, j, j, j, c3, [] ++ [(rp_T P).2 (j + 1 + 1 + 1)], w2, a1, a2, rx_tn_sl htn14 fa ?_ ?_ hh.2, a3, ⟨a4, (by show 1 ≤ 4; decide)⟩, fun k hk => (a5 k hk).trans (by rw [ec1]; exact if_neg hk), hw2, ?_⟩
    · rw [a7]
      show (fx_wL X3 133 (8 * (10 * rp_h P + cs.2.2.1.length) + 0) ((rp_T P).2 (j + 1 + 1 + 1))).2.1 125 = _
      rw [fx_rLn (by decide), fy_rl a6 (by decide) (by decide), fy_rl f1 (by decide) (by decide)]
    · rw [a7, fx_rIn (by decide)]
      show X3.1 126 = _
      rw [fy_ra a6 (by decide) (by decide), fy_ra f1 (by decide) (by decide)]
    · rw [a7, fx_rIn (by decide)]
      show (X3.1 131 _).toInt = 0
      rw [fy_ra a6 (by decide) (by decide), fy_ra f1 (by decide) (by decide)]
      exact h131
end DD21
