/-! THE REFERENCE: a sign more that waits -/
section DD9
variable {P : md_P} {X X' X0 X1 X2 X3 : fx_X} {K : List md_Sy} {s : Int} {a r : List Int} {l j near : Nat} {c c' c0 : md_C} {nm nm' : md_Nm} {cs : md_CS} {ws w2 : md_WS} {q : md_S} {v w p p1 p2 p3 : Int32} {u : Unit} {h M H k d : Nat} {x : Int} {wt : List Int}
theorem rx_W_w (h : rx_W X wt) (hk : wt.length ≤ k) : rx_W (fx_wI X 139 k p) wt := by
  induction wt with
  | nil => exact True.intro
  | cons x wt ih =>
    have hk' : wt.length + 1 ≤ k := hk
    exact ⟨by rw [fx_rIk (by omega)]; exact h.1, ih h.2 (by omega)⟩
theorem rx_Z_tok (h : rx_Z P X j K cs ws nm c0 wt H a) : ∃ c, rx_G P X j c := by
  obtain ⟨near, c, w2, ⟨h1, h2⟩, h3⟩ := h
  exact ⟨c, h1⟩
/-- & and | -/
theorem rx_Z_po (h : rx_Z P X j K cs ws nm c0 wt H (x :: a)) (hx : x = 38 ∨ x = 124) (hT : (rp_T P).1 j = x) (hwf : md_wf (x :: wt)) (hl : (X.1 117 43).toInt < 40) (e2 : X2 = fx_wI X 139 (X.1 117 43).toInt.toNat (X.1 117 29)) (e3 : X3 = fx_wI X2 117 43 (X2.1 117 43 + Int32.ofInt 1)) (g : gx_214 X3 v X') : rx_X P v X' ∨ (v = Int32.ofInt 1 ∧ (rx_B P X' ∨ rx_Z P X' (j + 1) K cs ws nm c0 (x :: wt) H a)) := by
  obtain ⟨near, c, w2, ⟨hG, hR⟩, hK, ⟨hW, hw⟩, ⟨hc1, hc2, hc3⟩, hc0, -⟩ := h
  obtain ⟨l, K1, hm, hR1⟩ := md_Rs_c hR
  have f3 : fy [(117, 43)] [] [139] X X3 := by rw [e3, e2]; exact fy_f (fy_a fy_rf (by decide)) (by decide)
  have hsg := (rx_sg_i hG (a := x) (by rcases hx with e | e <;> (rw [e]; decide))).mpr hT
  have h1 := rx_214 (Q := True) (Or.inr ⟨rx_G_fr hG f3 (by decide) (by decide), hR1, ⟨hT, by omega, by omega⟩, True.intro⟩) g
  rcases h1 with e | ⟨hv, e | ⟨hG', hR', -⟩⟩
  · exact Or.inl e
  · exact Or.inr ⟨hv, Or.inl e⟩
  · refine Or.inr ⟨hv, Or.inr ⟨j, c, w2, ⟨hG', K1, hm, hR'⟩, ?_, ⟨?_, ?_⟩, ⟨?_, ?_, ?_⟩, hc0, hwf⟩⟩
    · have f4 := fy_tr (fy_sub (F' := (117, 43) :: fF_214) (L' := []) (A' := [139]) f3 (by decide) (by decide) (by decide)) (fy_sub (gf_214 g) (by decide) (by decide) (by decide))
      exact ⟨rx_K_fr hK.1 f4 (by decide) (by decide) rfl, hK.2⟩
    · have e139 : X'.1 139 = X3.1 139 := fy_ra (gf_214 g) (by decide) (by decide)
      refine rx_W_fr (X := X3) ⟨?_, ?_⟩ e139
      · rw [e3, fx_rIn (by decide), e2, fx_in hw, fx_rIe]
        exact hsg.2
      · rw [e3]
        refine rx_W_fr (X := X2) ?_ (fx_rIn (by decide))
        rw [e2, fx_in hw]
        exact rx_W_w hW (Nat.le_refl _)
    · have h43 : X2.1 117 43 = X.1 117 43 := by rw [e2, fx_rIn (by decide)]
      rw [(gf_214 g).2.2 117 43 (by decide) (by decide), e3, fx_rIe, h43, cx_in1 hw (by omega)]
      rfl
    · have : md_cn (x :: wt) = md_cn wt := by
        show (if x = 33 ∨ x = 40 then 1 else 0) + md_cn wt = _
        rw [if_neg (by omega), Nat.zero_add]
      rw [this, (gf_214 g).2.2 117 41 (by decide) (by decide), f3.2.2 117 41 (by decide) (by decide)]
      exact hc1
    · have : md_cn (x :: wt) = md_cn wt := by
        show (if x = 33 ∨ x = 40 then 1 else 0) + md_cn wt = _
        rw [if_neg (by omega), Nat.zero_add]
      rw [this]; exact hc2
    · have : md_cn (x :: wt) = md_cn wt := by
        show (if x = 33 ∨ x = 40 then 1 else 0) + md_cn wt = _
        rw [if_neg (by omega), Nat.zero_add]
      rw [this]; exact hc3
/-- too many open -/
theorem rx_Z_8 (h : rx_Z P X j K cs ws nm c0 wt H (x :: 170 :: a)) (hx : x = 33 ∨ x = 40) (h8 : (X.1 117 41).toInt = 8) : md_F P := by
  obtain ⟨near, c, w2, ⟨hG, hR⟩, hK, -, ⟨hc1, hc2, hc3⟩, -⟩ := h
  by_cases hT : (rp_T P).1 j = x ∧ j < 1000
  · have hR1 := md_Rs_t hR (by omega) hT.1 (Or.inl hT.2)
    rcases md_Rs_q hR1 (by decide) with ⟨-, y⟩ | ⟨c', nm', y1, -⟩
    · exact y
    · exfalso
      have e : md_room 170 ((rp_T P).2 j) c nm = md_lim 8 c 14 nm := rfl
      rw [e] at y1
      unfold md_lim at y1
      have e1 : (Int32.ofInt 1).toInt = 1 := rfl
      rw [if_pos (by rw [fx_add (by omega) (by omega)]; omega)] at y1
      cases y1
  · refine md_Rs_tx hR (by omega) ?_
    by_cases z : (rp_T P).1 j = x
    · exact Or.inr ⟨by omega, by omega⟩
    · exact Or.inl z
/-- ! and ( -/
theorem rx_Z_op (h : rx_Z P X j K cs ws nm c0 wt H (x :: 170 :: a)) (hx : x = 33 ∨ x = 40) (hT : (rp_T P).1 j = x) (h8 : (X.1 117 41).toInt ≠ 8) (hl : (X.1 117 43).toInt < 40) (e1 : X1 = fx_wI X 117 41 (X.1 117 41 + Int32.ofInt 1)) (e2 : X2 = fx_wI X1 139 (X1.1 117 43).toInt.toNat (X1.1 117 29)) (e3 : X3 = fx_wI X2 117 43 (X2.1 117 43 + Int32.ofInt 1)) (g : gx_214 X3 v X') : rx_X P v X' ∨ (v = Int32.ofInt 1 ∧ (rx_B P X' ∨ rx_Z P X' (j + 1) K cs ws nm c0 (x :: wt) H a)) := by
  obtain ⟨near, c, w2, ⟨hG, hR⟩, hK, ⟨hW, hw⟩, ⟨hc1, hc2, hc3⟩, hc0, hwf⟩ := h
  obtain ⟨l, K1, hm, hR1⟩ := md_Rs_c hR
  have h143 : X1.1 117 43 = X.1 117 43 := by rw [e1, fx_rIk (by decide)]
  have h129 : X1.1 117 29 = X.1 117 29 := by rw [e1, fx_rIk (by decide)]
  rw [h143, h129] at e2
  have f3 : fy [(117, 41), (117, 43)] [] [139] X X3 := by rw [e3, e2, e1]; exact fy_f (fy_a (fy_f fy_rf (by decide)) (by decide)) (by decide)
  have hsg := (rx_sg_i hG (a := x) (by rcases hx with e | e <;> (rw [e]; decide))).mpr hT
  have h1 := rx_214 (Q := True) (Or.inr ⟨rx_G_fr hG f3 (by decide) (by decide), hR1, ⟨hT, by omega, by omega⟩, True.intro⟩) g
  rcases h1 with e | ⟨hv, e | ⟨hG', hR', -⟩⟩
  · exact Or.inl e
  · exact Or.inr ⟨hv, Or.inl e⟩
  · have hcn : md_cn (x :: wt) = 1 + md_cn wt := by
      show (if x = 33 ∨ x = 40 then 1 else 0) + md_cn wt = _
      rw [if_pos hx]
    have e1' : (Int32.ofInt 1).toInt = 1 := rfl
    have c14 : (c 14 + Int32.ofInt 1).toInt = ((1 + md_cn wt : Nat) : Int) := by rw [fx_add (by omega) (by omega), hc2, e1']; omega
    rcases md_Rs_q (⟨K1, hm, hR'⟩ : md_Rs P (170 :: a) K (j + 1) j c nm (cs, w2)) (by decide) with ⟨y, -⟩ | ⟨c', nm', y1, y2⟩
    · exfalso
      have e : md_room 170 ((rp_T P).2 j) c nm = md_lim 8 c 14 nm := rfl
      rw [e] at y
      unfold md_lim at y
      rw [if_neg (by omega)] at y
      cases y
    · have e : md_room 170 ((rp_T P).2 j) c nm = md_lim 8 c 14 nm := rfl
      rw [e] at y1
      unfold md_lim at y1
      rw [if_neg (by omega)] at y1
      cases y1
      have f4 := fy_tr (fy_sub (F' := (117, 41) :: (117, 43) :: fF_214) (L' := []) (A' := [139]) f3 (by decide) (by decide) (by decide)) (fy_sub (gf_214 g) (by decide) (by decide) (by decide))
      have hG'' : rx_G P X' (j + 1) (md_u c 14 (c 14 + Int32.ofInt 1)) := hG'
      refine Or.inr ⟨hv, Or.inr ⟨j, _, w2, ⟨hG'', y2⟩, ⟨rx_K_fr hK.1 f4 (by decide) (by decide) rfl, hK.2⟩, ⟨?_, ?_⟩, ⟨?_, ?_, by omega⟩, fun k hk => (if_neg hk).trans (hc0 k hk), ⟨by omega, hwf⟩⟩⟩
      · have e139 : X'.1 139 = X3.1 139 := fy_ra (gf_214 g) (by decide) (by decide)
        refine rx_W_fr (X := X3) ⟨?_, ?_⟩ e139
        · rw [e3, fx_rIn (by decide), e2, fx_in hw, fx_rIe]
          exact hsg.2
        · rw [e3]
          refine rx_W_fr (X := X2) ?_ (fx_rIn (by decide))
          rw [e2, fx_in hw]
          refine rx_W_w ?_ (Nat.le_refl _)
          rw [e1]
          exact rx_W_fr hW (fx_rIn (by decide))
      · have h43 : X2.1 117 43 = X.1 117 43 := by rw [e2, fx_rIn (by decide)]; exact h143
        rw [(gf_214 g).2.2 117 43 (by decide) (by decide), e3, fx_rIe, h43, cx_in1 hw (by omega)]
        rfl
      · rw [hcn, (gf_214 g).2.2 117 41 (by decide) (by decide), e3, fx_rIk (by decide), e2, fx_rIn (by decide), e1, fx_rIe, fx_add (by omega) (by omega), hc1, e1']
        omega
      · rw [hcn]
        exact c14
/-- from where a COND begins to its end: no sign fits -/
theorem md_Y_41 (h : md_Rs P (141 :: 139 :: 41 :: a) K j near c nm q) (h1 : (rp_T P).1 j ≠ 38) (h2 : (rp_T P).1 j ≠ 124) (h3 : (rp_T P).1 j ≠ 41) : md_F P := md_Rs_tx (md_Rs_r (md_Rs_r h (by decide) (by decide) (by decide) (md_rule_141 h1)) (by decide) (by decide) (by decide) (md_rule_139 h2)) (by decide) (Or.inl h3)
theorem md_Y_F (hwf : md_wf wt) (htp : md_tp wt ≠ 33) (hpo : 0 < md_po wt) (h1 : (rp_T P).1 j ≠ 38) (h2 : (rp_T P).1 j ≠ 124) (h3 : (rp_T P).1 j ≠ 41) (h : md_Rs P (md_kl wt) K j near c nm (cs, ws)) (hH : rp_b P = true → (md_tr ws).length = md_nb wt + 1 ∧ md_nb wt ≤ 30) : md_F P := by
  have or1 : ∀ {wt : List Int} {ws : md_WS}, md_wf (124 :: wt) → 0 < md_po (124 :: wt) → md_Rs P (md_kl (124 :: wt)) K j near c nm (cs, ws) → (rp_b P = true → (md_tr ws).length = md_nb (124 :: wt) + 1 ∧ md_nb (124 :: wt) ≤ 30) → md_F P := by
    intro wt ws hwf hpo h hH
    have hpo' : 0 < md_po wt := by
      have : md_po (124 :: wt) = 0 + md_po wt := rfl
      omega
    cases wt with
    | nil => exact absurd hpo' (Nat.lt_irrefl 0)
    | cons x wt =>
      have h40 : x = 40 := by
        rcases hwf.1 with e | e | ⟨e, -⟩ | ⟨-, e | e⟩
        · exact absurd e (by decide)
        · exact absurd e (by decide)
        · exact absurd e (by decide)
        · have e : x = 0 := e
          subst e
          rcases hwf.2.1 with z | z | ⟨z, -⟩ | ⟨z, -⟩ <;> exact absurd z (by decide)
        · exact e
      subst h40
      have h : md_Rs P (141 :: 207 :: 139 :: 41 :: 171 :: md_kl wt) K j near c nm (cs, ws) := h
      have h := md_Rs_r h (by decide) (by decide) (by decide) (md_rule_141 h1)
      obtain ⟨w2, h, -⟩ := md_Rs_bin (s := 207) h (Or.inr rfl) (fun hb => by
        obtain ⟨q1, q2⟩ := hH hb
        have e : md_nb (124 :: 40 :: wt) = 1 + md_nb (40 :: wt) := rfl
        cases hm : md_tr ws with
        | nil => rw [hm] at q1; exact absurd q1 (by show ¬ 0 = _; omega)
        | cons y tr =>
          rw [hm] at q1
          cases tr with
          | nil => exact absurd q1 (by show ¬ 1 = _; omega)
          | cons x tr =>
            have q1 : tr.length + 1 + 1 = md_nb (124 :: 40 :: wt) + 1 := q1
            exact ⟨y, x, tr, rfl, by omega⟩)
      exact md_Rs_tx (md_Rs_r h (by decide) (by decide) (by decide) (md_rule_139 h2)) (by decide) (Or.inl h3)
  cases wt with
  | nil => exact absurd hpo (Nat.lt_irrefl 0)
  | cons x wt =>
    rcases hwf.1 with e | e | ⟨e, e2⟩ | ⟨e, e2⟩
    · exact absurd e htp
    · subst e
      exact md_Y_41 h h1 h2 h3
    · subst e
      have h : md_Rs P (206 :: md_kl wt) K j near c nm (cs, ws) := h
      have hnb : md_nb (38 :: wt) = 1 + md_nb wt := rfl
      obtain ⟨w2, h, hw2⟩ := md_Rs_bin (s := 206) h (Or.inl rfl) (fun hb => by
        obtain ⟨q1, q2⟩ := hH hb
        cases hm : md_tr ws with
        | nil => rw [hm] at q1; exact absurd q1 (by show ¬ 0 = _; omega)
        | cons y tr =>
          rw [hm] at q1
          cases tr with
          | nil => exact absurd q1 (by show ¬ 1 = _; omega)
          | cons x tr =>
            have q1 : tr.length + 1 + 1 = md_nb (38 :: wt) + 1 := q1
            exact ⟨y, x, tr, rfl, by omega⟩)
      have hH2 : rp_b P = true → (md_tr w2).length = md_nb wt + 1 ∧ md_nb wt ≤ 30 := fun hb => by
        obtain ⟨q1, q2⟩ := hH hb
        cases hm : md_tr ws with
        | nil => rw [hm] at q1; exact absurd q1 (by show ¬ 0 = _; omega)
        | cons y tr =>
          rw [hm] at q1
          cases tr with
          | nil => exact absurd q1 (by show ¬ 1 = _; omega)
          | cons x tr =>
            have q1 : tr.length + 1 + 1 = md_nb (38 :: wt) + 1 := q1
            rw [(hw2 hb).2 y x tr hm]
            exact ⟨by show tr.length + 1 = _; omega, by omega⟩
      have hpo' : 0 < md_po wt := by
        have : md_po (38 :: wt) = 0 + md_po wt := rfl
        omega
      cases wt with
      | nil => exact absurd hpo' (Nat.lt_irrefl 0)
      | cons x wt =>
        have e2' : x = 0 ∨ x = 40 ∨ x = 124 := e2
        rcases e2' with e2' | e2' | e2'
        · subst e2'
          rcases hwf.2.1 with z | z | ⟨z, -⟩ | ⟨z, -⟩ <;> exact absurd z (by decide)
        · subst e2'
          exact md_Y_41 h h1 h2 h3
        · subst e2'
          exact or1 hwf.2 hpo' h hH2
    · subst e
      exact or1 hwf hpo h hH
end DD9
