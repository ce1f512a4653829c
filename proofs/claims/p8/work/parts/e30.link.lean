/-! CLASS AND REFERENCE: read leaves them alike -/
section XE30
variable {P : md_P} {X X' X0 X1 X2 : fx_X} {n d k j near l h N m nl : Nat} {v w y1 y2 : Int32} {c c' : md_C} {nm : md_Nm} {cs cs' : md_CS} {ws ws' : md_WS} {L : List (Int × Nat × Int64)} {T : md_T} {U U2 : md_U} {r : Option (List md_Ev)} {f : Nat → Int32} {pt : List (Nat → Bool)} {x : Nat → Bool} {q0 q' : md_S} {fr : Int64}
theorem rx_203w (hM : rx_MH h U pt nl X) (hf : X.1 138 = f) (hN : (X.1 117 23).toInt = (N : Int) ∧ N ≤ 4000) (hL : md_lst f N 0 0 L) (hT : ∀ i x, L[i]? = some x → T.1 i = x.1 ∧ T.2 i = x.2.2) (ham : md_am T m [(130, 0), (1, 0)] 0 0 md_c0 [] = some r) (hcs : cs = ([], none, [], (0, 0), [], [], fr)) (hws : ws.1 = [] ∧ ws.2.1 = [] ∧ md_tr ws = [] ∧ md_ptw ws = []) {cs0 : md_CS} {w0 : md_WS} (hq : rp_r (md_Q1 T [] r f N (1 - h) (cs, ws)) = md_k (cs0, w0)) (g : gx_203 X v X') : 1 ≤ md_all cs0.1 := by
  obtain ⟨X2, e2, X3, e3, X4, e4, X5, e5, w7, X6, r6, g⟩ := g
  obtain ⟨h0, hh⟩ := hM.1
  have i0 : (X3.1 117 0).toInt = (h : Int) := by rw [e3, fx_rIk (by decide), e2, fx_rIk (by decide)]; exact h0
  have f5 : fy [(117, 24), (117, 25), (117, 32), (117, 37)] [] [] X X5 := by
    rw [e5, e4, e3, e2]
    exact fy_f (fy_f (fy_f (fy_f fy_rf (by decide)) (by decide)) (by decide)) (by decide)
  have k5 : X5.1 138 = f := by rw [fy_ra f5 (by decide) (by decide)]; exact hf
  have n5 : (X5.1 117 23).toInt = (N : Int) := by rw [f5.2.2 117 23 (by decide) (by decide)]; exact hN.1
  have e1' : (Int32.ofInt 1).toInt = 1 := rfl
  have h5 : (X5.1 117 37).toInt = ((1 - h : Nat) : Int) := by
    rw [e5, fx_rIk (by decide), e4, fx_rIe, fx_sub (by omega) (by omega), i0, e1']
    omega
  have b5 : (X5.1 117 32).toInt = 0 := by rw [e5, fx_rIe]; rfl
  have c5 : (X5.1 117 24).toInt = 0 := by rw [e5, fx_rIk (by decide), e4, fx_rIk (by decide), e3, fx_rIk (by decide), e2, fx_rIe]; rfl
  have hM5 : rx_MH h U pt nl X5 := rx_MH_fy hM f5 (by decide) (by decide)
  obtain ⟨P1, hP1⟩ : ∃ P1, P1 = md_Q1 T [] r f N (1 - h) (cs, ws) := ⟨_, rfl⟩
  have hL1 : rx_L0 P1 := by rw [hP1]; exact ⟨L, hL, hT⟩
  have hb1 : rp_b P1 = false := by rw [hP1]; rfl
  have hRD1 : rx_RD P1 X5 := by rw [hP1]; exact ⟨k5, n5, hN.2, ⟨h5, by show 1 - h ≤ 1; omega⟩, b5, c5⟩
  have hR1 : md_R P1 [(130, 0), (1, 0)] 0 0 md_c0 [] (cs, ws) := by rw [hP1]; exact md_Q1_R ham
  have hTE := (rx_204 hRD1 hL1 (fun z => by (rw [hb1] at z; cases z)) hcs hws hR1 r6).1
  rw [← hP1] at hq
  rcases hTE with (e | e) | ⟨-, hB⟩ | ⟨hw7, j1, c1, cs1, w1, nm1, hTx, hok, -⟩
  · rw [e.2.1.2] at hq; cases hq
  · have := e.2.1.1
    rw [hb1] at this; cases this
  · rw [hB.1.2] at hq; cases hq
  · have e : (cs1, w1) = (cs0, w0) := md_k_inj (hok.symm.trans hq)
    have e1 : cs1 = cs0 := (Prod.mk.inj e).1
    subst e1
    exact hTx.2.1.1.2.2.2.1.1
theorem md_end_N {p : Int → Prop} {f : Nat → Int32} {N k e : Nat} (h : md_end p f N k e) (hk : k ≤ N) : e ≤ N := by
  by_cases z : e ≤ N
  · exact z
  · have := (h.2.1 N hk (by omega)).1
    omega
theorem md_one_N {f : Nat → Int32} {N k nx : Nat} {kd : Int} {w : Int64} (hk : k < N) (h : md_one f N k kd nx w) : nx ≤ N := by
  rcases h with ⟨-, e, a2, a3⟩ | ⟨-, e, a2, a3⟩ | ⟨-, -, a3⟩
  · have := md_end_N a2 (by omega)
    split at a3 <;> omega
  · have := md_end_N a2 (by omega)
    split at a3 <;> omega
  · by_cases z : k + 1 < N
    · repeat' split at a3
      all_goals omega
    · have e : md_bh f N k = 0 := if_neg z
      rw [e, if_neg (by omega), if_neg (by omega), if_neg (by omega)] at a3
      split at a3 <;> omega
theorem md_lst_by {f g : Nat → Int32} {N : Nat} (h : md_by f g N) : ∀ (L : List (Int × Nat × Int64)) (k m : Nat), k ≤ N → md_lst f N k m L → md_lst g N k m L
  | [], _, _, _, z => z.elim
  | t :: L, k, m, hk, z => by
    obtain ⟨b, z1, z2⟩ := z
    have hb := md_end_N z1 hk
    refine ⟨b, (md_end_by h md_bk_r).mp z1, ?_⟩
    by_cases c : b = N
    · rw [if_pos c] at z2 ⊢
      exact z2
    · rw [if_neg c] at z2 ⊢
      obtain ⟨nx, y1, y2, y3⟩ := z2
      refine ⟨nx, md_one_by h (by omega) y1, y2, ?_⟩
      by_cases d : nx ≤ b ∨ 1000 < m + 1
      · rw [if_pos d] at y3 ⊢
        exact y3
      · rw [if_neg d] at y3 ⊢
        exact md_lst_by h L nx (m + 1) (md_one_N (by omega) y1) y3
theorem xx_read {X X' Y Y' : fx_X} {v w : Int32} {U : md_U} {TB : md_TB} {pt : List (Nat → Bool)} {sr nl h N : Nat} (hX : cx_rX X) (hS : cx_S X) (hN : (X.1 52 1).toInt = (N : Int)) (hN4 : N ≤ 4000) (hM : cx_M2 sr U TB pt nl X) (g : gx_19 X v X') (hR : rx_MH h U pt nl Y) (hf : md_by (X.1 53) (Y.1 138) N) (hNr : (Y.1 117 23).toInt = (N : Int)) (g2 : gx_203 Y w Y') : ∃ sr' U' TB' pt' nl' h', cx_M2 sr' U' TB' pt' nl' X' ∧ rx_MH h' U' pt' nl' Y' ∧ (v.toInt = 0 ↔ w.toInt = 0) := by
  obtain ⟨L, T, m, r, fr, q1, q2, q3, ws0, hws, q4⟩ := cx_19 hX hS hN hN4 hM g
  have key := rx_203 (cs := ([], none, [], (0, 0), [], [], fr)) (ws := ws0) (f := Y.1 138) hR rfl ⟨hNr, hN4⟩ (md_lst_by hf L 0 0 (Nat.zero_le _) q1) q2 q3 rfl hws g2
  have keyw := fun {cs0 : md_CS} {w0 : md_WS} hq => rx_203w (cs0 := cs0) (w0 := w0) (cs := ([], none, [], (0, 0), [], [], fr)) (ws := ws0) (f := Y.1 138) hR rfl ⟨hNr, hN4⟩ (md_lst_by hf L 0 0 (Nat.zero_le _) q1) q2 q3 rfl hws hq g2
  rcases key with ⟨e1, e2, e3⟩ | ⟨e1, cs1, w1, cs2, w2, -, -, -, -, e2, e3, e4, e5, -⟩
  · rcases e3 with e3 | ⟨cs1, w1, e3, e4⟩
    · rcases md_Q1_bad e3 with z | ⟨es, z, z2⟩
      · subst z
        rcases q4 with ⟨es, y, -⟩ | ⟨-, y1, y2⟩ | ⟨es, s1, as, y, -⟩
        · cases y
        · exact ⟨sr, U, TB, pt, nl, h, y2, e2, ⟨fun z => absurd z y1, fun z => absurd z e1⟩⟩
        · cases y
      · subst z
        rcases q4 with ⟨es, y, y2⟩ | ⟨-, y1, y2⟩ | ⟨es, s1, as, y, y2, -⟩
        · cases y
          rw [z2] at y2; cases y2
        · exact ⟨sr, U, TB, pt, nl, h, y2, e2, ⟨fun z => absurd z y1, fun z => absurd z e1⟩⟩
        · cases y
          rw [z2] at y2; cases y2
    · obtain ⟨es, as, z, z2⟩ := md_Q1_ok e3
      have hW := keyw e3
      subst z
      rcases q4 with ⟨es, y, y2⟩ | ⟨y | ⟨es, y, y2⟩, -⟩ | ⟨es, s1, as, y, y2, y3⟩
      · cases y
        rw [z2] at y2; cases y2
      · cases y
      · cases y
        rw [z2] at y2; cases y2
      · cases y
        have e : (cs1, _) = (s1, _) := md_k_inj (z2.symm.trans y2)
        have e6 : cs1 = s1 := (Prod.mk.inj e).1
        subst e6
        have e4 : md_fd true (true, T, cs1.1, none, Y.1 138, N, 1 - h) (([], none, [], (0, 0), [], [], fr), ws0) es = some none := e4
        rcases y3 (true, T, cs1.1, none, Y.1 138, N, 1 - h) rfl rfl hW (fun z => by rw [e4] at z; cases z) with ⟨-, y4, y5⟩ | ⟨s2, w2, y4, -⟩
        · exact ⟨sr, U, TB, pt, nl, h, y5, e2, ⟨fun z => absurd z y4, fun z => absurd z e1⟩⟩
        · rw [e4] at y4; cases y4
  · obtain ⟨es, as, z, z2⟩ := md_Q1_ok e2
    have hW := keyw e2
    subst z
    rcases q4 with ⟨es, y, y2⟩ | ⟨y | ⟨es, y, y2⟩, -⟩ | ⟨es, s1, as, y, y2, y3⟩
    · cases y
      rw [z2] at y2; cases y2
    · cases y
    · cases y
      rw [z2] at y2; cases y2
    · cases y
      have e : (cs1, _) = (s1, _) := md_k_inj (z2.symm.trans y2)
      have e6 : cs1 = s1 := (Prod.mk.inj e).1
      subst e6
      have e3 : md_fd true (true, T, cs1.1, none, Y.1 138, N, 1 - h) (([], none, [], (0, 0), [], [], fr), ws0) es = md_k (cs2, w2) := e3
      rcases y3 (true, T, cs1.1, none, Y.1 138, N, 1 - h) rfl rfl hW (fun z => by rw [e3] at z; cases z) with ⟨y4, -⟩ | ⟨s2, w2', y4, y5, y6⟩
      · rw [e3] at y4; cases y4
      · have e7 : (cs2, w2) = (s2, w2') := md_k_inj (e3.symm.trans y4)
        have e8 : w2 = w2' := (Prod.mk.inj e7).2
        subst e8
        rw [e4] at e5
        exact ⟨120 - sr, cs1.1, cs1.2.2.1, md_ptw w2, 0, 1 - h, y6 (by have := e5.2.2.2.2.2.2.2; omega), e5, ⟨fun _ => e1, fun _ => y5⟩⟩
end XE30
