/-! THE REFERENCE: read -/
section DD75
variable {P : md_P} {X X' X0 X1 X2 : fx_X} {n d k j near l h N m nl : Nat} {v w y1 y2 : Int32} {c c' : md_C} {nm : md_Nm} {cs cs' : md_CS} {ws ws' : md_WS} {L : List (Int × Nat × Int64)} {T : md_T} {U U2 : md_U} {r : Option (List md_Ev)} {f : Nat → Int32} {pt : List (Nat → Bool)} {x : Nat → Bool} {q0 q' : md_S} {fr : Int64}
theorem rx_204_z (h4 : (X.1 117 37).toInt = (h : Int)) (g : gx_204 X v X') : (X'.1 128 h).toInt = 0 := by
  obtain ⟨n, g⟩ := g
  unfold gxE_204 at g
  obtain ⟨-, X4, e4, -, X7, e7, -, X10, e10, -, X13, e13, -, X16, e16, w18, X17, r1, g⟩ := g
  have k4 : X4.1 117 = X.1 117 := by rw [e4, fx_rIn (by decide)]
  have k7 : X7.1 117 = X.1 117 := by rw [e7, fx_rIn (by decide), k4]
  have k10 : X10.1 117 = X.1 117 := by rw [e10, fx_rIn (by decide), k7]
  rw [k10, fx_in h4] at e13
  rw [rx_204_128 n X17 g, fy_ra (gf_205 r1) (by decide) (by decide), e16, fx_rIn (by decide), e13, fx_rIe]
  rfl
theorem md_Q1_U : rp_r (md_Q1 T U r f N h q0) = rp_r (md_Q1 T U2 r f N h q0) := by
  cases r with
  | none => rfl
  | some es =>
    show md_fd false (true, T, U, none, f, N, h) q0 es = md_fd false (true, T, U2, none, f, N, h) q0 es
    exact md_fd_T (P1 := (true, T, U, none, f, N, h)) (P2 := (true, T, U2, none, f, N, h)) rfl q0
theorem rx_203 (hM : rx_MH h U pt nl X) (hf : X.1 138 = f) (hN : (X.1 117 23).toInt = (N : Int) ∧ N ≤ 4000) (hL : md_lst f N 0 0 L) (hT : ∀ i x, L[i]? = some x → T.1 i = x.1 ∧ T.2 i = x.2.2) (ham : md_am T m [(130, 0), (1, 0)] 0 0 md_c0 [] = some r) (hcs : cs = ([], none, [], (0, 0), [], [], fr)) (hws : ws.1 = [] ∧ ws.2.1 = [] ∧ md_tr ws = [] ∧ md_ptw ws = []) (g : gx_203 X v X') : (v.toInt ≠ 0 ∧ rx_MH h U pt nl X' ∧ (rp_r (md_Q1 T [] r f N (1 - h) (cs, ws)) = some none ∨ ∃ cs1 w1, rp_r (md_Q1 T [] r f N (1 - h) (cs, ws)) = md_k (cs1, w1) ∧ rp_r (md_Q2 T cs1.1 r f N (1 - h) (cs, ws)) = some none)) ∨ (v.toInt = 0 ∧ ∃ cs1 w1 cs2 w2 Y j c nm, rp_r (md_Q1 T [] r f N (1 - h) (cs, ws)) = md_k (cs1, w1) ∧ rp_r (md_Q2 T cs1.1 r f N (1 - h) (cs, ws)) = md_k (cs2, w2) ∧ cs2.1 = cs1.1 ∧ rx_MH (1 - h) cs2.1 (md_ptw w2) 0 X' ∧ rx_T (md_Q2 T cs1.1 r f N (1 - h) (cs, ws)) Y j c cs2 w2 nm ∧ (∀ a, a ≠ 117 → X'.1 a = Y.1 a ∧ X'.2.1 a = Y.2.1 a)) := by
  obtain ⟨X2, e2, X3, e3, X4, e4, X5, e5, w7, X6, r6, g⟩ := g
  obtain ⟨h0, hh⟩ := hM.1
  have i0 : (X3.1 117 0).toInt = (h : Int) := by rw [e3, fx_rIk (by decide), e2, fx_rIk (by decide)]; exact h0
  have f5 : fy [(117, 24), (117, 25), (117, 32), (117, 37)] [] [] X X5 := by
    rw [e5, e4, e3, e2]
    exact fy_f (fy_f (fy_f (fy_f fy_rf (by decide)) (by decide)) (by decide)) (by decide)
  have k5 : X5.1 138 = f := by rw [fy_ra f5 (by decide) (by decide)]; exact hf
  have n5 : (X5.1 117 23).toInt = (N : Int) := by rw [f5.2.2 117 23 (by decide) (by decide)]; exact hN.1
  have e1' : (Int32.ofInt 1).toInt = 1 := rfl
  have h5 : (X5.1 117 37).toInt = ((1 - h : Nat) : Int) := by
    rw [e5, fx_rIk (by decide), e4, fx_rIe, fx_sub (by omega) (by omega), i0, e1']
    omega
  have b5 : (X5.1 117 32).toInt = 0 := by rw [e5, fx_rIe]; rfl
  have c5 : (X5.1 117 24).toInt = 0 := by rw [e5, fx_rIk (by decide), e4, fx_rIk (by decide), e3, fx_rIk (by decide), e2, fx_rIe]; rfl
  have hM5 : rx_MH h U pt nl X5 := rx_MH_fy hM f5 (by decide) (by decide)
  obtain ⟨P1, hP1⟩ : ∃ P1, P1 = md_Q1 T [] r f N (1 - h) (cs, ws) := ⟨_, rfl⟩
  have hL1 : rx_L0 P1 := by rw [hP1]; exact ⟨L, hL, hT⟩
  have hb1 : rp_b P1 = false := by rw [hP1]; rfl
  have hRD1 : rx_RD P1 X5 := by rw [hP1]; exact ⟨k5, n5, hN.2, ⟨h5, by show 1 - h ≤ 1; omega⟩, b5, c5⟩
  have hR1 : md_R P1 [(130, 0), (1, 0)] 0 0 md_c0 [] (cs, ws) := by rw [hP1]; exact md_Q1_R ham
  have hTE := (rx_204 hRD1 hL1 (fun z => by (rw [hb1] at z; cases z)) hcs hws hR1 r6).1
  have hO1 := rx_204_7 b5 h5 (by omega) r6
  have f6 := gf_204 r6
  have hM6 : rx_MH h U pt nl X6 := rx_MH_O hM5 hO1 (f6.2.2 117 0 (by decide) (by decide))
  have f23 : ∀ {Y : fx_X} {z : Int32}, fy [(117, 23)] [] [] Y (fx_wI Y 117 23 z) := fun {Y z} => fy_f fy_rf (by decide)
  rw [← hP1]
  have bad : md_F P1 → (X6.1 117 24).toInt ≠ 0 → (v.toInt ≠ 0 ∧ rx_MH h U pt nl X' ∧ (rp_r P1 = some none ∨ ∃ cs1 w1, rp_r P1 = md_k (cs1, w1) ∧ rp_r (md_Q2 T cs1.1 r f N (1 - h) (cs, ws)) = some none)) := by
    intro hF h24
    have fin : ∀ {Y : fx_X}, Y = fx_wI X6 117 23 (Int32.ofInt 0) → v = Y.1 117 24 → X' = Y → (v.toInt ≠ 0 ∧ rx_MH h U pt nl X' ∧ (rp_r P1 = some none ∨ ∃ cs1 w1, rp_r P1 = md_k (cs1, w1) ∧ rp_r (md_Q2 T cs1.1 r f N (1 - h) (cs, ws)) = some none)) := by
      intro Y eY ev eX
      refine ⟨?_, ?_, Or.inl hF.2⟩
      · rw [ev, eY, fx_rIk (by decide)]; exact h24
      · rw [eX, eY]; exact rx_MH_fy hM6 f23 (by decide) (by decide)
    rcases fy_ifd g with ⟨z, g1⟩ | ⟨z, g1⟩
    · obtain ⟨X11, e11, e1, e2'⟩ := g1
      exact fin e11 e1 e2'
    · rw [if_neg h24] at g1
      obtain ⟨X16, e16, e1, e2'⟩ := g1
      exact fin e16 e1 e2'
  rcases hTE with (e | e) | ⟨-, hB⟩ | ⟨hw7, j1, c1, cs1, w1, nm1, hTx, hok, -⟩
  · exact Or.inl (bad e.2.1 e.2.2)
  · have := e.2.1.1
    rw [hb1] at this; cases this
  · exact Or.inl (bad hB.1 hB.2.1)
  have hG6 := hTx.1
  rw [if_neg (by rw [hw7]; decide), if_pos hG6.2.2.2.2.2.1] at g
  obtain ⟨X20, e20, w22, X21, r21, X24, e24, g1⟩ := g
  obtain ⟨P2, hP2⟩ : ∃ P2, P2 = md_Q2 T cs1.1 r f N (1 - h) (cs, ws) := ⟨_, rfl⟩
  have hL2 : rx_L0 P2 := by rw [hP2]; exact ⟨L, hL, hT⟩
  have hb2 : rp_b P2 = true := by rw [hP2]; rfl
  have f20 : fy [(117, 32)] [] [] X6 X20 := by rw [e20]; exact fy_f fy_rf (by decide)
  have hRD2 : rx_RD P2 X20 := by
    have hX6 := hG6
    obtain ⟨g1', g2', g3', ⟨g4', -⟩, g5', g6', -⟩ := hX6
    have z1 : X20.1 138 = f := by rw [fy_ra f20 (by decide) (by decide), g1', hP1]; rfl
    have z2 : (X20.1 117 23).toInt = (N : Int) := by rw [f20.2.2 117 23 (by decide) (by decide), g2', hP1]; rfl
    have z3 : (X20.1 117 37).toInt = ((1 - h : Nat) : Int) := by rw [f20.2.2 117 37 (by decide) (by decide), g4', hP1]; rfl
    have z4 : (X20.1 117 32).toInt = 1 := by rw [e20, fx_rIe]; rfl
    have z5 : (X20.1 117 24).toInt = 0 := by rw [e20, fx_rIk (by decide)]; exact g6'
    rw [hP2]
    exact ⟨z1, z2, hN.2, ⟨z3, by show 1 - h ≤ 1; omega⟩, z4, z5⟩
  have hU6 := hTx.2.1.1
  have hR2 : md_R P2 [(130, 0), (1, 0)] 0 0 md_c0 [] (cs, ws) := by
    rw [hP2]
    exact md_Q2_R (q' := (cs1, w1)) ham (by rw [md_Q1_U (U2 := [])]; rw [← hP1]; exact hok) rfl
  have hW2 : rp_b P2 = true → 1 ≤ rp_W P2 ∧ rp_W P2 ≤ 1024 := fun _ => by
    rw [hP2]
    exact hU6.2.2.2.1
  obtain ⟨hTE2, hO2⟩ := rx_204 hRD2 hL2 hW2 hcs hws hR2 r21
  have hO2 := hO2 hb2
  have hh2 : rp_h P2 = 1 - h := by rw [hP2]; rfl
  rw [hh2] at hO2
  have hM20 : rx_MH h U pt nl X20 := rx_MH_fy hM6 f20 (by decide) (by decide)
  have hM21 : rx_MH h U pt nl X21 := rx_MH_O hM20 (rx_O7_O hO2) ((gf_204 r21).2.2 117 0 (by decide) (by decide))
  rcases hTE2 with (e | e) | ⟨-, hB⟩ | ⟨hw22, j2, c2, cs2, w2, nm2, hT2, hok2, hU2⟩
  · have := e.2.1.1
    rw [hb2] at this; cases this
  · left
    rw [if_pos (by rw [e.1]; rfl)] at g1
    refine ⟨?_, ?_, Or.inr ⟨cs1, w1, hok, by rw [← hP2]; exact e.2.1.2⟩⟩
    · rw [g1.1, e24, fx_rIk (by decide)]; exact e.2.2
    · rw [g1.2, e24]; exact rx_MH_fy hM21 f23 (by decide) (by decide)
  · have := hB.1.1
    rw [hb2] at this; cases this
  right
  rw [if_neg (by rw [hw22]; decide)] at g1
  obtain ⟨X26, e26, X27, e27, X28, e28, e1, e2'⟩ := g1
  have hUf : cs2.1 = cs1.1 := by
    have := hU2 hb2
    rw [hP2] at this
    exact this
  have hG21 := hT2.1
  have hz := rx_204_z (h := 1 - h) (by rw [hRD2.2.2.2.1.1, hh2]) r21
  have k28 : ∀ a, a ≠ 117 → X'.1 a = X21.1 a ∧ X'.2.1 a = X21.2.1 a := fun a ha => by
    refine ⟨?_, ?_⟩
    · rw [e2', e28]
      show X27.1 a = _
      rw [e27, fx_rIn ha, e26, fx_rIn ha, e24, fx_rIn ha]
    · rw [e2', e28, fx_rLn ha, e27]
      show X26.2.1 a = _
      rw [e26]
      show X24.2.1 a = _
      rw [e24]; rfl
  refine ⟨by rw [e1]; rfl, cs1, w1, cs2, w2, X21, j2, c2, nm2, hok, by rw [← hP2]; exact hok2, hUf, ⟨⟨?_, by omega⟩, ?_, ?_, ?_, ?_⟩, by rw [← hP2]; exact hT2, k28⟩
  · rw [e2', e28]
    show (X27.1 117 0).toInt = _
    rw [e27, fx_rIk (by decide), e26, fx_rIe, e24, fx_rIk (by decide), hG21.2.2.2.1.1, hh2]
  · have := hT2.2.1.1
    unfold rx_U at this ⊢
    rw [hh2] at this
    rw [(k28 118 (by decide)).1, (k28 120 (by decide)).1, (k28 121 (by decide)).1, (k28 122 (by decide)).1, (k28 119 (by decide)).2]
    exact this
  · have := hT2.2.1.2.1
    rw [hP2] at this
    unfold rx_V at this ⊢
    rw [(k28 123 (by decide)).1]
    rw [hUf] at this ⊢
    exact this
  · have hpt := (hT2.2.1.2.2.2 hb2).2.2
    have hm : md_m P2 cs2.1 = 1 := by
      unfold md_m
      rw [hUf, hP2]
      show md_all cs1.1 / md_all cs1.1 = 1
      exact Nat.div_self (by have := hU6.2.2.2.1.1; omega)
    rw [hm] at hpt
    rw [hP2] at hpt
    unfold rx_pt at hpt ⊢
    rw [(k28 127 (by decide)).1, (k28 129 (by decide)).1, hUf]
    exact hpt
  · have h12 := hT2.2.2.2.2 hb2
    have h11 := hG21.2.2.2.2.2.2.2.2.2.2
    refine ⟨by rw [(k28 128 (by decide)).1]; exact hz, Nat.zero_le _, Nat.zero_le _, ?_⟩
    have := h12.2.2
    omega
end DD75
