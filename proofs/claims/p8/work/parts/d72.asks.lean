/-! THE REFERENCE: a COND of learn and ask -/
/-- the text as it is checked, as it is worked out -/
def md_Q1 (T : md_T) (U : md_U) (r : Option (List md_Ev)) (f : Nat → Int32) (N h : Nat) (q0 : md_S) : md_P := (false, T, U, (match r with
  | none => some none
  | some es => md_fd false (true, T, U, none, f, N, h) q0 es), f, N, h)
def md_Q2 (T : md_T) (U : md_U) (r : Option (List md_Ev)) (f : Nat → Int32) (N h : Nat) (q0 : md_S) : md_P := (true, T, U, (match r with
  | none => some none
  | some es => md_fd true (true, T, U, none, f, N, h) q0 es), f, N, h)
section DD72
variable {P : md_P} {X X' X0 X1 X2 : fx_X} {K K0 : List md_Sy} {n d k j near l h N m : Nat} {v w : Int32} {a : Int} {c c' : md_C} {nm : md_Nm} {cs cs' : md_CS} {ws ws' : md_WS} {L : List (Int × Nat × Int64)} {fr : Int64} {T : md_T} {U : md_U} {r : Option (List md_Ev)} {f : Nat → Int32} {q q' q0 : md_S} {TB : md_TB}
theorem md_fa_c {s : md_CS} {e : md_Ev} {es : List md_Ev} : md_fa T s (e :: es) = md_bd (md_ck T s e) (fun q => md_bd (md_fa T q.1 es) (fun q2 => md_k (q2.1, if md_quiet e.1 = true then q2.2 else q.2 :: q2.2))) := rfl
theorem md_bd_k {α β : Type} {x : md_O α} {f : α → md_O β} {b : β} (h : md_bd x f = md_k b) : ∃ a, x = md_k a ∧ f a = md_k b := by
  cases x with
  | none => cases h
  | some y =>
    cases y with
    | none => cases h
    | some a => exact ⟨a, rfl, h⟩
/-- what goes through the check -/
theorem md_fd_fa {es : List md_Ev} : ∀ (q q' : md_S), md_fd false P q es = md_k q' → ∃ as, md_fa (rp_T P) q.1 es = md_k (q'.1, as) := by
  induction es with
  | nil =>
    intro q q' h
    have h : (md_k q : md_O md_S) = md_k q' := h
    have e : q = q' := Option.some.inj (Option.some.inj h)
    subst e
    exact ⟨[], rfl⟩
  | cons e es ih =>
    intro q q' h
    rw [md_fd_c, md_step_f] at h
    obtain ⟨q1, h1, h2⟩ := md_bd_k h
    obtain ⟨p, p1, p2⟩ := md_bd_k h1
    have e1 : (p.1, q.2) = q1 := Option.some.inj (Option.some.inj p2)
    subst e1
    obtain ⟨as, h3⟩ := ih _ q' h2
    rw [md_fa_c, p1]
    refine ⟨if md_quiet e.1 = true then as else p.2 :: as, ?_⟩
    have h3 : md_fa (rp_T P) p.1 es = md_k (q'.1, as) := h3
    show md_bd (md_fa (rp_T P) p.1 es) _ = _
    rw [h3]
    rfl
theorem md_Q1_R (ham : md_am T m K0 0 0 md_c0 [] = some r) : md_R (md_Q1 T U r f N h q0) K0 0 0 md_c0 [] q0 := by
  refine ⟨m, r, ham, ?_⟩
  cases r with
  | none => exact ⟨rfl, rfl⟩
  | some es => exact ⟨fun z => (by cases z), (show md_fd false (md_Q1 T U (some es) f N h q0) q0 es = md_fd false (true, T, U, none, f, N, h) q0 es from md_fd_T (P1 := md_Q1 T U (some es) f N h q0) (P2 := (true, T, U, none, f, N, h)) rfl q0)⟩
theorem md_Q2_R (ham : md_am T m K0 0 0 md_c0 [] = some r) (hok : rp_r (md_Q1 T U r f N h q0) = md_k q') (hU : q'.1.1 = U) : md_R (md_Q2 T U r f N h q0) K0 0 0 md_c0 [] q0 := by
  refine ⟨m, r, ham, ?_⟩
  cases r with
  | none => cases hok
  | some es =>
    have hok : md_fd false (true, T, U, none, f, N, h) q0 es = md_k q' := hok
    obtain ⟨as, ha⟩ := md_fd_fa _ _ hok
    exact ⟨fun _ => ⟨(q'.1, as), ha, hU⟩, (show md_fd true (md_Q2 T U (some es) f N h q0) q0 es = md_fd true (true, T, U, none, f, N, h) q0 es from md_fd_U (P1 := md_Q2 T U (some es) f N h q0) (P2 := (true, T, U, none, f, N, h)) rfl rfl q0)⟩
theorem rx_282 (h0 : (X.1 117 0).toInt = (h : Int) ∧ h ≤ 1) (hf : X.1 138 = f) (hN : (X.1 117 23).toInt = (N : Int) ∧ N ≤ 4000) (hL : md_lst f N 0 0 L) (hT : ∀ i x, L[i]? = some x → T.1 i = x.1 ∧ T.2 i = x.2.2) (ham : md_am T m [(138, 0), (1, 0)] 0 0 md_c0 [] = some r) (hU : rx_U (true, T, U, none, f, N, h) X U) (hV : rx_V (true, T, U, none, f, N, h) X U) (hcs : cs.1 = U) (hws : md_tr ws = []) (g : gx_282 X v X') : (v = Int32.ofInt 0 ∧ rp_r (md_Q1 T U r f N h (cs, ws)) = some none) ∨ (v = Int32.ofInt 1 ∧ ∃ w1 w2 x, rp_r (md_Q1 T U r f N h (cs, ws)) = md_k (cs, w1) ∧ rp_r (md_Q2 T U r f N h (cs, ws)) = md_k (cs, w2) ∧ md_tr w2 = [x] ∧ ∀ w, w < md_all U → fx_bt (X'.1 137) 0 w = x w) := by
  obtain ⟨X2, e2, X3, e3, X4, e4, X5, e5, w7, X6, r6, w9, X8, r8, g⟩ := g
  have i0 : (X3.1 117 0).toInt = (h : Int) := by rw [e3, fx_rIk (by decide), e2, fx_rIk (by decide)]; exact h0.1
  have f5 : fy [(117, 24), (117, 25), (117, 32), (117, 37)] [] [] X X5 := by
    rw [e5, e4, e3, e2]
    exact fy_f (fy_f (fy_f (fy_f fy_rf (by decide)) (by decide)) (by decide)) (by decide)
  have k5 : X5.1 138 = f := by rw [fy_ra f5 (by decide) (by decide)]; exact hf
  have n5 : (X5.1 117 23).toInt = (N : Int) := by rw [f5.2.2 117 23 (by decide) (by decide)]; exact hN.1
  have h5 : (X5.1 117 37).toInt = (h : Int) := by rw [e5, fx_rIk (by decide), e4, fx_rIe]; exact i0
  have b5 : (X5.1 117 32).toInt = 0 := by rw [e5, fx_rIe]; rfl
  have c5 : (X5.1 117 24).toInt = 0 := by rw [e5, fx_rIk (by decide), e4, fx_rIk (by decide), e3, fx_rIk (by decide), e2, fx_rIe]; rfl
  obtain ⟨P1, hP1⟩ : ∃ P1, P1 = md_Q1 T U r f N h (cs, ws) := ⟨_, rfl⟩
  obtain ⟨P2, hP2⟩ : ∃ P2, P2 = md_Q2 T U r f N h (cs, ws) := ⟨_, rfl⟩
  have hL1 : rx_L0 P1 := by rw [hP1]; exact ⟨L, hL, hT⟩
  have hL2 : rx_L0 P2 := by rw [hP2]; exact ⟨L, hL, hT⟩
  have hRD1 : rx_RD P1 X5 := by rw [hP1]; exact ⟨k5, n5, hN.2, ⟨h5, h0.2⟩, b5, c5⟩
  obtain ⟨hG1, f6⟩ := rx_205 hRD1 hL1 r6
  have hR1 : md_R P1 [(138, 0), (1, 0)] 0 0 md_c0 [] (cs, ws) := by rw [hP1]; exact md_Q1_R ham
  have hb1 : rp_b P1 = false := by rw [hP1]; rfl
  have hU1 : rx_U P1 X cs.1 := by rw [hcs, hP1]; exact hU
  have hU6 : rx_U P1 X6 cs.1 := rx_U_fr (rx_U_fr hU1 f5 (by decide) (by decide)) f6 (by decide) (by decide)
  have hV6 : rx_V P1 X6 cs.1 := fun z => by rw [hb1] at z; cases z
  have h1 := rx_237 (K := [(1, 0)]) (Q := True) (Or.inr ⟨hG1, hR1, hU6, hV6, fun z => by (rw [hb1] at z; cases z), rfl, True.intro⟩) r8
  rw [← hP1, ← hP2]
  rcases h1 with e | ⟨hw9, h1⟩
  · rw [if_pos (by rw [e.1]; rfl)] at g
    obtain ⟨X13, -, e1, -⟩ := g
    exact Or.inl ⟨e1, e.2.1.2⟩
  rw [if_neg (by rw [hw9]; decide)] at g
  rcases h1 with hB | ⟨j1, n1, c1, w1, hG8, hR8, -, -, -, -, -⟩
  · left
    refine ⟨?_, hB.1.2⟩
    rcases fy_ifd g with ⟨c1, g1⟩ | ⟨c1, g1⟩
    · rw [if_neg hB.2.1] at g1
      obtain ⟨X18, -, e1, -⟩ := g1
      exact e1
    · obtain ⟨w29, X28, r28, g2⟩ := g1
      have := rx_215 hB.1 (by decide) r28
      rw [if_pos (by rw [this.1]; rfl)] at g2
      obtain ⟨X33, -, e1, -⟩ := g2
      exact e1
  have kk := rx_k hG8
  rcases fy_ifd g with ⟨h26, g1⟩ | ⟨h26, g1⟩
  · have hT1 := kk.1.mp h26
    obtain ⟨hok, -⟩ := md_R_nil (md_R_t hR8 (by decide) hT1 (Or.inr rfl))
    rw [if_pos hG8.2.2.2.2.2.1] at g1
    obtain ⟨X21, e21, w23, X22, r22, w25, X24, r24, X27, e27, e1, e2'⟩ := g1
    have f8 := gf_237 r8
    have f21 : fy [(117, 32)] [] [] X8 X21 := by rw [e21]; exact fy_f fy_rf (by decide)
    have s21 : ∀ k, k = 23 ∨ k = 37 → X21.1 117 k = X5.1 117 k := fun k hk => by
      rw [e21, fx_rIk (by omega), f8.2.2 117 k (by decide) (by rcases hk with z | z <;> rw [z] <;> decide), f6.2.2 117 k (by decide) (by rcases hk with z | z <;> rw [z] <;> decide)]
    have hb2 : rp_b P2 = true := by rw [hP2]; rfl
    have hRD2 : rx_RD P2 X21 := by
      have z1 : X21.1 138 = f := by rw [fy_ra f21 (by decide) (by decide), fy_ra f8 (by decide) (by decide), fy_ra f6 (by decide) (by decide)]; exact k5
      have z2 : (X21.1 117 23).toInt = (N : Int) := by rw [s21 23 (Or.inl rfl)]; exact n5
      have z3 : (X21.1 117 37).toInt = (h : Int) := by rw [s21 37 (Or.inr rfl)]; exact h5
      have z4 : (X21.1 117 32).toInt = 1 := by rw [e21, fx_rIe]; rfl
      have z5 : (X21.1 117 24).toInt = 0 := by rw [e21, fx_rIk (by decide)]; exact hG8.2.2.2.2.2.1
      rw [hP2]
      exact ⟨z1, z2, hN.2, ⟨z3, h0.2⟩, z4, z5⟩
    obtain ⟨hG22, f22⟩ := rx_205 hRD2 hL2 r22
    have hR2 : md_R P2 [(138, 0), (1, 0)] 0 0 md_c0 [] (cs, ws) := by rw [hP2]; exact md_Q2_R ham (by rw [← hP1]; exact hok) hcs
    have hU2 : rx_U P2 X cs.1 := by rw [hcs, hP2]; exact hU
    have hV2 : rx_V P2 X cs.1 := by rw [hcs, hP2]; exact hV
    have hU22 : rx_U P2 X22 cs.1 := rx_U_fr (rx_U_fr (rx_U_fr (rx_U_fr (rx_U_fr hU2 f5 (by decide) (by decide)) f6 (by decide) (by decide)) f8 (by decide) (by decide)) f21 (by decide) (by decide)) f22 (by decide) (by decide)
    have hV22 : rx_V P2 X22 cs.1 := rx_V_fr (rx_V_fr (rx_V_fr (rx_V_fr (rx_V_fr hV2 f5 (by decide) (by decide)) f6 (by decide) (by decide)) f8 (by decide) (by decide)) f21 (by decide) (by decide)) f22 (by decide) (by decide)
    rcases rx_237 (K := [(1, 0)]) (Q := True) (Or.inr ⟨hG22, hR2, hU22, hV22, fun _ => hws, rfl, True.intro⟩) r24 with e | ⟨hw25, hB | ⟨j2, n2, c2, w2, hG24, hR24, hK24, -, -, -, -⟩⟩
    · have := e.2.1.1
      rw [hb2] at this; cases this
    · have := hB.1.1
      rw [hb2] at this; cases this
    · have hT2 : (rp_T P2).1 j2 = 1 := by
        by_cases z : (rp_T P2).1 j2 = 1
        · exact z
        · have := (md_R_tx hR24 (by decide) (Or.inl z)).1
          rw [hb2] at this; cases this
      obtain ⟨hok2, -⟩ := md_R_nil (md_R_t hR24 (by decide) hT2 (Or.inr rfl))
      obtain ⟨-, -, -, hC⟩ := hK24
      obtain ⟨hC1, hC2⟩ := hC hb2
      cases htr : md_tr w2 with
      | nil => rw [htr] at hC1; cases hC1
      | cons x tr =>
        rw [htr] at hC1 hC2
        have htr0 : tr = [] := List.length_eq_zero_iff.mp (by have : tr.length + 1 = 1 := hC1; omega)
        subst htr0
        refine Or.inr ⟨by rw [e1]; exact hw25, w1, w2, x, hok, hok2, htr, fun w hw => ?_⟩
        have hW : rp_W P2 = md_all U := by rw [hP2]; rfl
        have hm : md_m P2 cs.1 = 1 := by
          unfold md_m
          rw [hW, hcs]
          exact Nat.div_self (by omega)
        have := hC2.1 w (by rw [hW]; exact hw)
        rw [hm, Nat.div_one] at this
        rw [e2', e27, fx_rIn (by decide)]
        exact this
  · left
    have hF : md_F P1 := md_R_tx hR8 (by decide) (Or.inl (fun z => h26 (kk.1.mpr z)))
    obtain ⟨w29, X28, r28, g2⟩ := g1
    have := rx_215 hF (by decide) r28
    rw [if_pos (by rw [this.1]; rfl)] at g2
    obtain ⟨X33, -, e1, -⟩ := g2
    exact ⟨e1, hF.2⟩
end DD72
