/-! READ, BY HAND (printed by wip/p2/cwalk/g89.py) -/
abbrev cw_nR : ak_Con := (19, [], some (.inl (-2147483648, 2147483647)), (ap_c2.2.2.2.1.1 ++ ap_c20a.2.2.2.1.1 ++ (cw_nW 97 none).2.2.2.1.1, ap_c2.2.2.2.1.2 ++ ap_c20a.2.2.2.1.2 ++ (cw_nW 97 none).2.2.2.1.2 ++ ap_c150.2.2.2.1.2 ++ [(10, 2), (10, 3), (10, 4)]), [], [], [], 0, 0, [], [], [])
section CW89
variable {Φ : List Nat → Option Value → aj_H → Prop} {tb : aj_T} {con : ak_Con} {d : Nat} {s s' s2 s0 : List Nat} {h h' h2 h0 h1 : aj_H} {i j p q x c k l l' a : Nat} {o o' o2 o0 : cw_O} {n nt iv y v t x1 : Int32} {w : Value} {f g : Nat → Int32} {N : Prop} {bb : Int}
theorem cw_Z_emp (k1 : cw_kp (fun a c k => a = x ∧ c = 7 ∧ k = 12) (fun _ => False) (cw_o h1) (cw_o h2)) (f12 : cw_F h2 x 7 12 (.int 0)) (hZ : cw_Z N x nt bb (cw_o h1)) : cw_Z False x 0 30 (cw_o h2) := by
  obtain ⟨a, f3, z0, z1, z2, z3, z4⟩ := hZ
  exact ⟨a, f3, ⟨z0.1, by decide⟩, (cw_fo_F (by decide)).mpr f12, k1.1 _ _ _ _ (fun z => absurd z.2.2 (by decide)) z2, k1.2 _ _ id z3, fun t ht => absurd ht (Nat.not_lt_zero _)⟩
theorem cw_I_cA {T : ak_TT} (h1 : T.1 = ak_ti) (h4 : T.2.1[4]? = ak_ft0[4]?) {X : Option Nat} (hT : ak_Ty T s h) (hI : cw_I X s h) {v w : Value} (fd : cw_F h x 10 k v) : cw_I X s (cw_sf h x k w) := by
  have k5 : cw_kp (fun a c k' => a = x ∧ c = 10 ∧ k' = k) (fun _ => False) (cw_o h) (cw_o (cw_sf h x k w)) := cw_kp_sf fd ⟨rfl, rfl, rfl⟩
  exact ⟨hI.1, cw_wds_kp k5 id hI.2.1, cw_dis_kp k5 id (fun z => absurd z.2.1 (by decide)) hI.2.2.1, cw_gd_kp (T := T) h1 h4 hT hI.1 k5 id ⟨fun z => absurd z.2.1 (by decide), fun z => absurd z.2.1 (by decide)⟩ hI.2.2.2.1, cw_H_sfo hI.2.2.2.2.1 fd (by decide), cw_rm_kp k5 (fun _ _ z => z) ⟨fun z => absurd z.2.1 (by decide), fun z => absurd z.2.1 (by decide)⟩ hI.2.2.2.2.2⟩
theorem cw_PU_0 (hP : cw_PU False 30 x s h) (hf : cw_F h 30 4 5 (.int v)) (hv : v.toInt = 0) : ∃ (n : Int32) (f : Nat → Int32) (nt : Int32) (g : Nat → Int32), n.toInt ≤ 2500 ∧ cw_A h 31 0 2500 (.inl f) ∧ cw_A h 34 0 2500 (.inl g) ∧ cw_F h 30 4 4 (.int n) ∧ cw_Z False x nt 30 (cw_o h) ∧ ∀ j : Nat, (j : Int) < n.toInt → (f j).toInt = 210 → 0 ≤ (g j).toInt ∧ (g j).toInt < nt.toInt := by
  have nb : ¬ cw_bado (cw_o h) := by
    rintro ⟨m, hm, hf2⟩
    cases (cw_F_u ((cw_fo_F (by decide)).mp hf2) hf).2
    exact hm hv
  obtain ⟨-, z | ⟨n, f, y, nt, g, ⟨q1, q2, q3, q4, q5, q6, q7, q8, q9, q10, q11⟩, L, hn⟩⟩ := hP
  · exact absurd z nb
  · exact ⟨n, f, nt, g, hn, q4, q5, q6, q8, fun j hj hf => (L j hj hf).resolve_left nb⟩
/-- a shelf, emptied -/
theorem cw_emptyS (htb : ak_tbOK ak_C0 tb) (hT : ak_Ty ak_C0 s h) (hI : cw_I cw_XB s h) (hd : 1 ≤ d) (qx : s[x]? = some 59) : cw_K ak_C0 (fun s' r h' => s' = s ∧ cw_I cw_XB s h' ∧ cw_Z False x 0 30 (cw_o h') ∧ cw_kp (fun a c k => a = x ∧ c = 7 ∧ k = 12) (fun _ => False) (cw_o h) (cw_o h')) tb d ap_c2 [.ref (52 + x)] s h := by
  obtain ⟨d, rfl⟩ : ∃ e, d = e + 1 := ⟨d - 1, by omega⟩
  have hB := hI.1
  obtain ⟨nt, hZ⟩ := cw_Z_ty hT hB qx
  refine cw_m (con := ap_c2) aj_m2_at (Nat.le_of_ble_eq_true rfl) ?_
  show cw_W _ _ _ _ _ _ _ _ _ _ 0 [(0, .ref (52 + x))] []
  refine cw_n aj_d2 rfl rfl ?_
  refine cw_n aj_d2 rfl rfl ?_
  refine cw_p (i := x) (t := 59) (c := 7) (k := 11) (v := .int (Int32.ofInt 0)) (y := (.inl (0, 8))) htb aj_d2 rfl rfl hT qx rfl rfl rfl (cw_gw (a := (0 : Int)) rfl (by omega) (by omega)) (by decide) rfl rfl (fun hT1001 => ?_)
  obtain ⟨v1002, f1002, g1002⟩ := cw_tyF (i := x) (t := 59) (c := 7) (k := 11) (y := (.inl (0, 8))) hT qx rfl rfl rfl
  obtain ⟨x1002, rfl, b1002⟩ := ak_gi g1002
  dsimp only [ak_win] at b1002
  have f1003 : cw_F (cw_sf h x 11 (.int (Int32.ofInt 0))) x 7 11 (.int (Int32.ofInt 0)) := cw_sf_same f1002
  refine cw_n aj_d2 rfl rfl ?_
  refine cw_n aj_d2 rfl rfl ?_
  obtain ⟨v1004, f1004, g1004⟩ := cw_tyF (i := x) (t := 59) (c := 7) (k := 12) (y := (.inl (0, 10))) hT1001 qx rfl rfl rfl
  obtain ⟨x1004, rfl, b1004⟩ := ak_gi g1004
  dsimp only [ak_win] at b1004
  refine cw_p (i := x) (t := 59) (c := 7) (k := 12) (v := .int (Int32.ofInt 0)) (y := (.inl (0, 10))) htb aj_d2 rfl rfl hT1001 qx rfl rfl rfl (cw_gw (a := (0 : Int)) rfl (by omega) (by omega)) (by decide) rfl rfl (fun hT1005 => ?_)
  have f1006 : cw_F (cw_sf (cw_sf h x 11 (.int (Int32.ofInt 0))) x 12 (.int (Int32.ofInt 0))) x 7 11 (.int (Int32.ofInt 0)) := cw_sf_ne f1003 (Or.inr (by decide))
  have f1007 : cw_F (cw_sf (cw_sf h x 11 (.int (Int32.ofInt 0))) x 12 (.int (Int32.ofInt 0))) x 7 12 (.int (Int32.ofInt 0)) := cw_sf_same f1004
  obtain ⟨I1, k1⟩ := cw_I_c7 (T := ak_C0) (w := .int (Int32.ofInt 0)) rfl rfl hT1001 (cw_I_eq ((cw_o_sf f1002 (by decide)).trans rfl) hI) f1004
  have Z1 := cw_Z_emp k1 f1007 (cw_Z_eq ((cw_o_sf f1002 (by decide)).trans rfl) hZ)
  have K1 : cw_kp (fun a c k => a = x ∧ c = 7 ∧ k = 12) (fun _ => False) (cw_o h) (cw_o (cw_sf (cw_sf h x 11 (.int (Int32.ofInt 0))) x 12 (.int (Int32.ofInt 0)))) := cw_kp_tr (cw_kp_eq ((cw_o_sf f1002 (by decide)).trans rfl)) k1
  refine cw_n aj_d2 rfl rfl ?_
  refine cw_n aj_d2 rfl rfl ?_
  refine cw_p (i := x) (t := 59) (c := 7) (k := 13) (v := .int (Int32.ofInt 1)) (y := (.inl (0, 1024))) htb aj_d2 rfl rfl hT1005 qx rfl rfl rfl (cw_gw (a := (1 : Int)) rfl (by omega) (by omega)) (by decide) rfl rfl (fun hT1008 => ?_)
  obtain ⟨v1009, f1009, g1009⟩ := cw_tyF (i := x) (t := 59) (c := 7) (k := 13) (y := (.inl (0, 1024))) hT1005 qx rfl rfl rfl
  obtain ⟨x1009, rfl, b1009⟩ := ak_gi g1009
  dsimp only [ak_win] at b1009
  have f1010 : cw_F (cw_sf (cw_sf (cw_sf h x 11 (.int (Int32.ofInt 0))) x 12 (.int (Int32.ofInt 0))) x 13 (.int (Int32.ofInt 1))) x 7 11 (.int (Int32.ofInt 0)) := cw_sf_ne f1006 (Or.inr (by decide))
  have f1011 : cw_F (cw_sf (cw_sf (cw_sf h x 11 (.int (Int32.ofInt 0))) x 12 (.int (Int32.ofInt 0))) x 13 (.int (Int32.ofInt 1))) x 7 12 (.int (Int32.ofInt 0)) := cw_sf_ne f1007 (Or.inr (by decide))
  have f1012 : cw_F (cw_sf (cw_sf (cw_sf h x 11 (.int (Int32.ofInt 0))) x 12 (.int (Int32.ofInt 0))) x 13 (.int (Int32.ofInt 1))) x 7 13 (.int (Int32.ofInt 1)) := cw_sf_same f1009
  refine cw_n aj_d2 rfl rfl ?_
  refine cw_n aj_d2 rfl rfl ?_
  refine cw_p (i := x) (t := 59) (c := 7) (k := 15) (v := .int (Int32.ofInt 0)) (y := (.inl ((-2147483648), 2147483647))) htb aj_d2 rfl rfl hT1008 qx rfl rfl rfl (cw_full _) (by decide) rfl rfl (fun hT1013 => ?_)
  obtain ⟨v1014, f1014, g1014⟩ := cw_tyF (i := x) (t := 59) (c := 7) (k := 15) (y := (.inl ((-2147483648), 2147483647))) hT1008 qx rfl rfl rfl
  obtain ⟨x1014, rfl, b1014⟩ := ak_gi g1014
  dsimp only [ak_win] at b1014
  have f1015 : cw_F (cw_sf (cw_sf (cw_sf (cw_sf h x 11 (.int (Int32.ofInt 0))) x 12 (.int (Int32.ofInt 0))) x 13 (.int (Int32.ofInt 1))) x 15 (.int (Int32.ofInt 0))) x 7 11 (.int (Int32.ofInt 0)) := cw_sf_ne f1010 (Or.inr (by decide))
  have f1016 : cw_F (cw_sf (cw_sf (cw_sf (cw_sf h x 11 (.int (Int32.ofInt 0))) x 12 (.int (Int32.ofInt 0))) x 13 (.int (Int32.ofInt 1))) x 15 (.int (Int32.ofInt 0))) x 7 12 (.int (Int32.ofInt 0)) := cw_sf_ne f1011 (Or.inr (by decide))
  have f1017 : cw_F (cw_sf (cw_sf (cw_sf (cw_sf h x 11 (.int (Int32.ofInt 0))) x 12 (.int (Int32.ofInt 0))) x 13 (.int (Int32.ofInt 1))) x 15 (.int (Int32.ofInt 0))) x 7 13 (.int (Int32.ofInt 1)) := cw_sf_ne f1012 (Or.inr (by decide))
  have f1018 : cw_F (cw_sf (cw_sf (cw_sf (cw_sf h x 11 (.int (Int32.ofInt 0))) x 12 (.int (Int32.ofInt 0))) x 13 (.int (Int32.ofInt 1))) x 15 (.int (Int32.ofInt 0))) x 7 15 (.int (Int32.ofInt 0)) := cw_sf_same f1014
  refine cw_n aj_d2 rfl rfl ?_
  refine cw_n aj_d2 rfl rfl ?_
  refine cw_p (i := x) (t := 59) (c := 7) (k := 16) (v := .int (Int32.ofInt 0)) (y := (.inl ((-2147483648), 2147483647))) htb aj_d2 rfl rfl hT1013 qx rfl rfl rfl (cw_full _) (by decide) rfl rfl (fun hT1019 => ?_)
  obtain ⟨v1020, f1020, g1020⟩ := cw_tyF (i := x) (t := 59) (c := 7) (k := 16) (y := (.inl ((-2147483648), 2147483647))) hT1013 qx rfl rfl rfl
  obtain ⟨x1020, rfl, b1020⟩ := ak_gi g1020
  dsimp only [ak_win] at b1020
  have f1021 : cw_F (cw_sf (cw_sf (cw_sf (cw_sf (cw_sf h x 11 (.int (Int32.ofInt 0))) x 12 (.int (Int32.ofInt 0))) x 13 (.int (Int32.ofInt 1))) x 15 (.int (Int32.ofInt 0))) x 16 (.int (Int32.ofInt 0))) x 7 11 (.int (Int32.ofInt 0)) := cw_sf_ne f1015 (Or.inr (by decide))
  have f1022 : cw_F (cw_sf (cw_sf (cw_sf (cw_sf (cw_sf h x 11 (.int (Int32.ofInt 0))) x 12 (.int (Int32.ofInt 0))) x 13 (.int (Int32.ofInt 1))) x 15 (.int (Int32.ofInt 0))) x 16 (.int (Int32.ofInt 0))) x 7 12 (.int (Int32.ofInt 0)) := cw_sf_ne f1016 (Or.inr (by decide))
  have f1023 : cw_F (cw_sf (cw_sf (cw_sf (cw_sf (cw_sf h x 11 (.int (Int32.ofInt 0))) x 12 (.int (Int32.ofInt 0))) x 13 (.int (Int32.ofInt 1))) x 15 (.int (Int32.ofInt 0))) x 16 (.int (Int32.ofInt 0))) x 7 13 (.int (Int32.ofInt 1)) := cw_sf_ne f1017 (Or.inr (by decide))
  have f1024 : cw_F (cw_sf (cw_sf (cw_sf (cw_sf (cw_sf h x 11 (.int (Int32.ofInt 0))) x 12 (.int (Int32.ofInt 0))) x 13 (.int (Int32.ofInt 1))) x 15 (.int (Int32.ofInt 0))) x 16 (.int (Int32.ofInt 0))) x 7 15 (.int (Int32.ofInt 0)) := cw_sf_ne f1018 (Or.inr (by decide))
  have f1025 : cw_F (cw_sf (cw_sf (cw_sf (cw_sf (cw_sf h x 11 (.int (Int32.ofInt 0))) x 12 (.int (Int32.ofInt 0))) x 13 (.int (Int32.ofInt 1))) x 15 (.int (Int32.ofInt 0))) x 16 (.int (Int32.ofInt 0))) x 7 16 (.int (Int32.ofInt 0)) := cw_sf_same f1020
  refine cw_n aj_d2 rfl rfl ?_
  refine cw_n aj_d2 rfl rfl ?_
  refine cw_p (i := x) (t := 59) (c := 7) (k := 17) (v := .int (Int32.ofInt 0)) (y := (.inl (0, 1))) htb aj_d2 rfl rfl hT1019 qx rfl rfl rfl (cw_gw (a := (0 : Int)) rfl (by omega) (by omega)) (by decide) rfl rfl (fun hT1026 => ?_)
  obtain ⟨v1027, f1027, g1027⟩ := cw_tyF (i := x) (t := 59) (c := 7) (k := 17) (y := (.inl (0, 1))) hT1019 qx rfl rfl rfl
  obtain ⟨x1027, rfl, b1027⟩ := ak_gi g1027
  dsimp only [ak_win] at b1027
  have f1028 : cw_F (cw_sf (cw_sf (cw_sf (cw_sf (cw_sf (cw_sf h x 11 (.int (Int32.ofInt 0))) x 12 (.int (Int32.ofInt 0))) x 13 (.int (Int32.ofInt 1))) x 15 (.int (Int32.ofInt 0))) x 16 (.int (Int32.ofInt 0))) x 17 (.int (Int32.ofInt 0))) x 7 11 (.int (Int32.ofInt 0)) := cw_sf_ne f1021 (Or.inr (by decide))
  have f1029 : cw_F (cw_sf (cw_sf (cw_sf (cw_sf (cw_sf (cw_sf h x 11 (.int (Int32.ofInt 0))) x 12 (.int (Int32.ofInt 0))) x 13 (.int (Int32.ofInt 1))) x 15 (.int (Int32.ofInt 0))) x 16 (.int (Int32.ofInt 0))) x 17 (.int (Int32.ofInt 0))) x 7 12 (.int (Int32.ofInt 0)) := cw_sf_ne f1022 (Or.inr (by decide))
  have f1030 : cw_F (cw_sf (cw_sf (cw_sf (cw_sf (cw_sf (cw_sf h x 11 (.int (Int32.ofInt 0))) x 12 (.int (Int32.ofInt 0))) x 13 (.int (Int32.ofInt 1))) x 15 (.int (Int32.ofInt 0))) x 16 (.int (Int32.ofInt 0))) x 17 (.int (Int32.ofInt 0))) x 7 13 (.int (Int32.ofInt 1)) := cw_sf_ne f1023 (Or.inr (by decide))
  have f1031 : cw_F (cw_sf (cw_sf (cw_sf (cw_sf (cw_sf (cw_sf h x 11 (.int (Int32.ofInt 0))) x 12 (.int (Int32.ofInt 0))) x 13 (.int (Int32.ofInt 1))) x 15 (.int (Int32.ofInt 0))) x 16 (.int (Int32.ofInt 0))) x 17 (.int (Int32.ofInt 0))) x 7 15 (.int (Int32.ofInt 0)) := cw_sf_ne f1024 (Or.inr (by decide))
  have f1032 : cw_F (cw_sf (cw_sf (cw_sf (cw_sf (cw_sf (cw_sf h x 11 (.int (Int32.ofInt 0))) x 12 (.int (Int32.ofInt 0))) x 13 (.int (Int32.ofInt 1))) x 15 (.int (Int32.ofInt 0))) x 16 (.int (Int32.ofInt 0))) x 17 (.int (Int32.ofInt 0))) x 7 16 (.int (Int32.ofInt 0)) := cw_sf_ne f1025 (Or.inr (by decide))
  have f1033 : cw_F (cw_sf (cw_sf (cw_sf (cw_sf (cw_sf (cw_sf h x 11 (.int (Int32.ofInt 0))) x 12 (.int (Int32.ofInt 0))) x 13 (.int (Int32.ofInt 1))) x 15 (.int (Int32.ofInt 0))) x 16 (.int (Int32.ofInt 0))) x 17 (.int (Int32.ofInt 0))) x 7 17 (.int (Int32.ofInt 0)) := cw_sf_same f1027
  refine cw_Wr aj_d2 rfl rfl hT1026 ?_ ?_
  · exact ⟨rfl, cw_I_eq ((cw_o_sf f1027 (by decide)).trans ((cw_o_sf f1020 (by decide)).trans ((cw_o_sf f1014 (by decide)).trans ((cw_o_sf f1009 (by decide)).trans rfl)))) I1, cw_Z_eq ((cw_o_sf f1027 (by decide)).trans ((cw_o_sf f1020 (by decide)).trans ((cw_o_sf f1014 (by decide)).trans ((cw_o_sf f1009 (by decide)).trans rfl)))) Z1, cw_kp_tr K1 (cw_kp_eq ((cw_o_sf f1027 (by decide)).trans ((cw_o_sf f1020 (by decide)).trans ((cw_o_sf f1014 (by decide)).trans ((cw_o_sf f1009 (by decide)).trans rfl)))))⟩
  · trivial
/-- read -/
theorem cw_read (htb : ak_tbOK ak_C0 tb) (htG : cw_tbG tb) (hT : ak_Ty ak_C0 s h) (hI : cw_I cw_XB s h) (hd : 9 ≤ d) : cw_K ak_C0 (fun s' _ h' => cw_I cw_XB s' h') tb d cw_nR [.ref (52 + 0)] s h := by
  obtain ⟨d, rfl⟩ : ∃ e, d = e + 1 := ⟨d - 1, by omega⟩
  have hB := hI.1
  refine cw_m (con := cw_nR) aj_m19_at (Nat.le_of_ble_eq_true rfl) ?_
  show cw_W _ _ _ _ _ _ _ _ _ _ 0 [(0, .ref (52 + 0))] []
  refine cw_n aj_d19 rfl rfl ?_
  obtain ⟨v1034, f1034, g1034⟩ := cw_tyF (i := 0) (t := 62) (c := 10) (k := 4) (y := (.inr (some ([59], false)))) hT (cw_s0 hB rfl) rfl rfl rfl
  obtain ⟨i1034, rfl, q1034⟩ := cw_gr g1034 (by decide)
  refine cw_g (i := 0) (v := .ref (52 + i1034)) htb.1 aj_d19 rfl rfl (by decide) f1034 ?_
  have hx := cw_cell59 hB q1034
  refine cw_k0 (i := i1034) (t := 59) (con' := ap_c2) aj_d19 htb hT rfl rfl [] rfl rfl q1034 rfl (Nat.le_of_ble_eq_true rfl) ⟨by decide, by decide⟩ (cw_emptyS htb hT hI (by omega) q1034) ?_
  rintro r1 h1 hT1 ⟨I1, Z1, k1⟩ hR1
  obtain rfl := cw_rN hR1
  have s1 : cw_F h1 0 10 4 (.ref (52 + i1034)) := cw_kp_F k1 (fun z => absurd z.2.1 (by decide)) (by decide) f1034
  show cw_W _ _ _ _ _ _ _ _ _ _ 7 [(0, .ref (52 + 0))] []
  refine cw_n aj_d19 rfl rfl ?_
  refine cw_n aj_d19 rfl rfl ?_
  refine cw_n aj_d19 rfl rfl ?_
  refine cw_g (i := 0) (v := .ref (52 + i1034)) htb.1 aj_d19 rfl rfl (by decide) s1 ?_
  refine cw_k (i := 0) (con' := cw_nU 20 none) aj_d19 htb hT1 rfl rfl [_, _] rfl rfl (cw_cls hT1 (cw_s0 hB rfl) rfl) (Nat.le_of_ble_eq_true rfl) ⟨by decide, by decide⟩ (cw_und (N := False) (bb := 30) (nt := 0) htb htG hT1 I1 (by omega) hx q1034 (Or.inl rfl) Z1) ?_
  rintro u1 ru1 hu1 hTu1 Pu1 hRu1 Eu1
  obtain rfl := cw_rN hRu1
  obtain ⟨Su1, eSu1⟩ : ∃ z, z = s ++ u1 := ⟨_, rfl⟩
  rw [← eSu1] at Pu1 hTu1 ⊢
  have hBu1 := Pu1.1.1
  have qxu1 : Su1[i1034]? = some 59 := by
    rw [eSu1]
    exact cw_sapp q1034
  have s2 : cw_F hu1 0 10 4 (.ref (52 + i1034)) := cw_EvF Eu1 (by decide) s1
  show cw_W _ _ _ _ _ _ _ _ _ _ 18 [(0, .ref (52 + 0))] []
  refine cw_n aj_d19 rfl rfl ?_
  obtain ⟨v1035, f1035, g1035⟩ := cw_tyF (i := 0) (t := 62) (c := 10) (k := 6) (y := (.inr (some ([56], false)))) hTu1 (cw_s0 hBu1 rfl) rfl rfl rfl
  obtain rfl := cw_gu (i := 30) hBu1 g1035 (by decide) (by decide) (by decide)
  refine cw_g (i := 0) (v := .ref (52 + 30)) htb.1 aj_d19 rfl rfl (by decide) f1035 ?_
  obtain ⟨v1036, f1036, g1036⟩ := cw_tyF (i := 30) (t := 56) (c := 4) (k := 5) (y := (.inl ((-2147483648), 2147483647))) hTu1 (cw_s0 hBu1 rfl) rfl rfl rfl
  obtain ⟨x1036, rfl, b1036⟩ := ak_gi g1036
  dsimp only [ak_win] at b1036
  refine cw_g (i := 30) (v := .int x1036) htb.1 aj_d19 rfl rfl (by decide) f1036 ?_
  refine cw_z (tgt := 39) aj_d19 rfl rfl (fun q1037 => ?_) (fun q1037 => ?_)
  · have q1037 : x1036.toInt ≠ (0 : Int) := aw_t_ne (a := x1036.toInt) (b := (0 : Int)) rfl rfl q1037
    refine cw_n aj_d19 rfl rfl ?_
    refine cw_n aj_d19 rfl rfl ?_
    refine cw_g (i := 0) (v := .ref (52 + 30)) htb.1 aj_d19 rfl rfl (by decide) f1035 ?_
    refine cw_g (i := 30) (v := .int x1036) htb.1 aj_d19 rfl rfl (by decide) f1036 ?_
    refine cw_z (tgt := 54) aj_d19 rfl rfl (fun q1038 => ?_) (fun q1038 => ?_)
    · have q1038 : x1036.toInt ≠ (0 : Int) := aw_t_ne (a := x1036.toInt) (b := (0 : Int)) rfl rfl q1038
      refine cw_n aj_d19 rfl rfl ?_
      refine cw_g (i := 0) (v := .ref (52 + 30)) htb.1 aj_d19 rfl rfl (by decide) f1035 ?_
      obtain ⟨v1039, f1039, g1039⟩ := cw_tyF (i := 30) (t := 56) (c := 4) (k := 6) (y := (.inl ((-2147483648), 2147483647))) hTu1 (cw_s0 hBu1 rfl) rfl rfl rfl
      obtain ⟨x1039, rfl, b1039⟩ := ak_gi g1039
      dsimp only [ak_win] at b1039
      refine cw_g (i := 30) (v := .int x1039) htb.1 aj_d19 rfl rfl (by decide) f1039 ?_
      refine cw_p (i := 0) (t := 62) (c := 10) (k := 2) (v := .int x1039) (y := (.inl ((-2147483648), 2147483647))) htb aj_d19 rfl rfl hTu1 (cw_s0 hBu1 rfl) rfl rfl rfl (cw_full _) (by decide) rfl rfl (fun hT1040 => ?_)
      obtain ⟨v1041, f1041, g1041⟩ := cw_tyF (i := 0) (t := 62) (c := 10) (k := 2) (y := (.inl ((-2147483648), 2147483647))) hTu1 (cw_s0 hBu1 rfl) rfl rfl rfl
      obtain ⟨x1041, rfl, b1041⟩ := ak_gi g1041
      dsimp only [ak_win] at b1041
      have f1042 : cw_F (cw_sf hu1 0 2 (.int x1039)) 0 10 4 (.ref (52 + i1034)) := cw_sf_ne s2 (Or.inr (by decide))
      have f1043 : cw_F (cw_sf hu1 0 2 (.int x1039)) 0 10 6 (.ref (52 + 30)) := cw_sf_ne f1035 (Or.inr (by decide))
      have f1044 : cw_F (cw_sf hu1 0 2 (.int x1039)) 30 4 5 (.int x1036) := cw_sf_ne f1036 (Or.inr (by decide))
      have f1045 : cw_F (cw_sf hu1 0 2 (.int x1039)) 30 4 6 (.int x1039) := cw_sf_ne f1039 (Or.inr (by decide))
      have f1046 : cw_F (cw_sf hu1 0 2 (.int x1039)) 0 10 2 (.int x1039) := cw_sf_same f1041
      refine cw_n aj_d19 rfl rfl ?_
      refine cw_g (i := 0) (v := .ref (52 + 30)) htb.1 aj_d19 rfl rfl (by decide) f1043 ?_
      refine cw_g (i := 30) (v := .int x1036) htb.1 aj_d19 rfl rfl (by decide) f1044 ?_
      refine cw_z (tgt := 96) aj_d19 rfl rfl (fun q1047 => ?_) (fun q1047 => ?_)
      · have q1047 : x1036.toInt ≠ (0 : Int) := aw_t_ne (a := x1036.toInt) (b := (0 : Int)) rfl rfl q1047
        refine cw_n aj_d19 rfl rfl ?_
        refine cw_g (i := 0) (v := .ref (52 + 30)) htb.1 aj_d19 rfl rfl (by decide) f1043 ?_
        refine cw_g (i := 30) (v := .int x1036) htb.1 aj_d19 rfl rfl (by decide) f1044 ?_
        refine cw_Wr aj_d19 rfl rfl hT1040 ?_ ?_
        · exact (cw_I_eq ((cw_o_sf f1041 (by decide)).trans rfl) Pu1.1)
        · exact cw_full _
      · have q1047 : x1036.toInt = (0 : Int) := aw_t_ne (a := x1036.toInt) (b := (0 : Int)) rfl rfl q1047
        refine cw_n aj_d19 rfl rfl ?_
        obtain ⟨v1048, f1048, g1048⟩ := cw_tyF (i := 0) (t := 62) (c := 10) (k := 3) (y := (.inr (some ([59], false)))) hT1040 (cw_s0 hBu1 rfl) rfl rfl rfl
        obtain ⟨i1048, rfl, q1048⟩ := cw_gr g1048 (by decide)
        refine cw_g (i := 0) (v := .ref (52 + i1048)) htb.1 aj_d19 rfl rfl (by decide) f1048 ?_
        refine cw_n aj_d19 rfl rfl ?_
        show cw_W _ _ _ _ _ _ _ _ _ _ 79 [(1, .ref (52 + i1048)), (0, .ref (52 + 0))] []
        refine cw_n aj_d19 rfl rfl ?_
        refine cw_n aj_d19 rfl rfl ?_
        refine cw_g (i := 0) (v := .ref (52 + i1034)) htb.1 aj_d19 rfl rfl (by decide) f1042 ?_
        refine cw_p (i := 0) (t := 62) (c := 10) (k := 3) (v := .ref (52 + i1034)) (y := (.inr (some ([59], false)))) htb aj_d19 rfl rfl hT1040 (cw_s0 hBu1 rfl) rfl rfl rfl (cw_gR qxu1 (by decide) (by decide)) (by decide) rfl rfl (fun hT1049 => ?_)
        have f1050 : cw_F (cw_sf (cw_sf hu1 0 2 (.int x1039)) 0 3 (.ref (52 + i1034))) 0 10 4 (.ref (52 + i1034)) := cw_sf_ne f1042 (Or.inr (by decide))
        have f1051 : cw_F (cw_sf (cw_sf hu1 0 2 (.int x1039)) 0 3 (.ref (52 + i1034))) 0 10 6 (.ref (52 + 30)) := cw_sf_ne f1043 (Or.inr (by decide))
        have f1052 : cw_F (cw_sf (cw_sf hu1 0 2 (.int x1039)) 0 3 (.ref (52 + i1034))) 30 4 5 (.int x1036) := cw_sf_ne f1044 (Or.inr (by decide))
        have f1053 : cw_F (cw_sf (cw_sf hu1 0 2 (.int x1039)) 0 3 (.ref (52 + i1034))) 30 4 6 (.int x1039) := cw_sf_ne f1045 (Or.inr (by decide))
        have f1054 : cw_F (cw_sf (cw_sf hu1 0 2 (.int x1039)) 0 3 (.ref (52 + i1034))) 0 10 2 (.int x1039) := cw_sf_ne f1046 (Or.inr (by decide))
        have f1055 : cw_F (cw_sf (cw_sf hu1 0 2 (.int x1039)) 0 3 (.ref (52 + i1034))) 0 10 3 (.ref (52 + i1034)) := cw_sf_same f1048
        have I87 := cw_I_cA (T := ak_C0) (w := .ref (52 + i1034)) rfl rfl hT1040 (cw_I_eq ((cw_o_sf f1041 (by decide)).trans rfl) Pu1.1) f1048
        refine cw_n aj_d19 rfl rfl ?_
        refine cw_n aj_d19 rfl rfl ?_
        refine cw_p (i := 0) (t := 62) (c := 10) (k := 4) (v := .ref (52 + i1048)) (y := (.inr (some ([59], false)))) htb aj_d19 rfl rfl hT1049 (cw_s0 hBu1 rfl) rfl rfl rfl (cw_gR q1048 (by decide) (by decide)) (by decide) rfl rfl (fun hT1056 => ?_)
        have f1057 : cw_F (cw_sf (cw_sf (cw_sf hu1 0 2 (.int x1039)) 0 3 (.ref (52 + i1034))) 0 4 (.ref (52 + i1048))) 0 10 6 (.ref (52 + 30)) := cw_sf_ne f1051 (Or.inr (by decide))
        have f1058 : cw_F (cw_sf (cw_sf (cw_sf hu1 0 2 (.int x1039)) 0 3 (.ref (52 + i1034))) 0 4 (.ref (52 + i1048))) 30 4 5 (.int x1036) := cw_sf_ne f1052 (Or.inr (by decide))
        have f1059 : cw_F (cw_sf (cw_sf (cw_sf hu1 0 2 (.int x1039)) 0 3 (.ref (52 + i1034))) 0 4 (.ref (52 + i1048))) 30 4 6 (.int x1039) := cw_sf_ne f1053 (Or.inr (by decide))
        have f1060 : cw_F (cw_sf (cw_sf (cw_sf hu1 0 2 (.int x1039)) 0 3 (.ref (52 + i1034))) 0 4 (.ref (52 + i1048))) 0 10 2 (.int x1039) := cw_sf_ne f1054 (Or.inr (by decide))
        have f1061 : cw_F (cw_sf (cw_sf (cw_sf hu1 0 2 (.int x1039)) 0 3 (.ref (52 + i1034))) 0 4 (.ref (52 + i1048))) 0 10 3 (.ref (52 + i1034)) := cw_sf_ne f1055 (Or.inr (by decide))
        have f1062 : cw_F (cw_sf (cw_sf (cw_sf hu1 0 2 (.int x1039)) 0 3 (.ref (52 + i1034))) 0 4 (.ref (52 + i1048))) 0 10 4 (.ref (52 + i1048)) := cw_sf_same f1050
        have I92 := cw_I_cA (T := ak_C0) (w := .ref (52 + i1048)) rfl rfl hT1049 I87 f1050
        refine cw_n aj_d19 rfl rfl ?_
        refine cw_k0 (i := 0) (t := 62) (con' := ap_c150) aj_d19 htb hT1056 rfl rfl [] rfl rfl (cw_s0 hBu1 rfl) rfl (Nat.le_of_ble_eq_true rfl) ⟨by decide, by decide⟩ (cw_a1 (by omega) (ap_0_150 htb (cw_SP1c _ _ rfl rfl) cw_hK) hT1056 hBu1 rfl ⟨(cw_gR (cw_s0 hBu1 rfl) (by decide) (by decide)), trivial⟩) ?_
        rintro ru1063 h1063 hT1063 ho1063 hRu1063
        have f1064 : cw_F h1063 30 4 5 (.int x1036) := cw_trF ho1063 (by decide) f1058
        have f1065 : cw_F h1063 30 4 6 (.int x1039) := cw_trF ho1063 (by decide) f1059
        have f1066 : cw_F h1063 0 10 3 (.ref (52 + i1034)) := cw_trF ho1063 (by decide) f1061
        have f1067 : cw_F h1063 0 10 4 (.ref (52 + i1048)) := cw_trF ho1063 (by decide) f1062
        obtain rfl := cw_rN hRu1063
        show cw_W _ _ _ _ _ _ _ _ _ _ 96 [(1, .ref (52 + i1048)), (0, .ref (52 + 0))] []
        refine cw_n aj_d19 rfl rfl ?_
        obtain ⟨v1068, f1068, g1068⟩ := cw_tyF (i := 0) (t := 62) (c := 10) (k := 6) (y := (.inr (some ([56], false)))) hT1063 (cw_s0 hBu1 rfl) rfl rfl rfl
        obtain rfl := cw_gu (i := 30) hBu1 g1068 (by decide) (by decide) (by decide)
        refine cw_g (i := 0) (v := .ref (52 + 30)) htb.1 aj_d19 rfl rfl (by decide) f1068 ?_
        refine cw_g (i := 30) (v := .int x1036) htb.1 aj_d19 rfl rfl (by decide) f1064 ?_
        refine cw_Wr aj_d19 rfl rfl hT1063 ?_ ?_
        · exact (cw_I_eq (ho1063.trans rfl) I92)
        · exact cw_full _
    · have q1038 : x1036.toInt = (0 : Int) := aw_t_ne (a := x1036.toInt) (b := (0 : Int)) rfl rfl q1038
      refine cw_n aj_d19 rfl rfl ?_
      refine cw_n aj_d19 rfl rfl ?_
      refine cw_p (i := 0) (t := 62) (c := 10) (k := 2) (v := .int (Int32.ofInt (-1))) (y := (.inl ((-2147483648), 2147483647))) htb aj_d19 rfl rfl hTu1 (cw_s0 hBu1 rfl) rfl rfl rfl (cw_full _) (by decide) rfl rfl (fun hT1069 => ?_)
      obtain ⟨v1070, f1070, g1070⟩ := cw_tyF (i := 0) (t := 62) (c := 10) (k := 2) (y := (.inl ((-2147483648), 2147483647))) hTu1 (cw_s0 hBu1 rfl) rfl rfl rfl
      obtain ⟨x1070, rfl, b1070⟩ := ak_gi g1070
      dsimp only [ak_win] at b1070
      have f1071 : cw_F (cw_sf hu1 0 2 (.int (Int32.ofInt (-1)))) 0 10 4 (.ref (52 + i1034)) := cw_sf_ne s2 (Or.inr (by decide))
      have f1072 : cw_F (cw_sf hu1 0 2 (.int (Int32.ofInt (-1)))) 0 10 6 (.ref (52 + 30)) := cw_sf_ne f1035 (Or.inr (by decide))
      have f1073 : cw_F (cw_sf hu1 0 2 (.int (Int32.ofInt (-1)))) 30 4 5 (.int x1036) := cw_sf_ne f1036 (Or.inr (by decide))
      have f1074 : cw_F (cw_sf hu1 0 2 (.int (Int32.ofInt (-1)))) 0 10 2 (.int (Int32.ofInt (-1))) := cw_sf_same f1070
      refine cw_n aj_d19 rfl rfl ?_
      refine cw_g (i := 0) (v := .ref (52 + 30)) htb.1 aj_d19 rfl rfl (by decide) f1072 ?_
      refine cw_g (i := 30) (v := .int x1036) htb.1 aj_d19 rfl rfl (by decide) f1073 ?_
      refine cw_z (tgt := 96) aj_d19 rfl rfl (fun q1075 => ?_) (fun q1075 => ?_)
      · have q1075 : x1036.toInt ≠ (0 : Int) := aw_t_ne (a := x1036.toInt) (b := (0 : Int)) rfl rfl q1075
        refine cw_n aj_d19 rfl rfl ?_
        refine cw_g (i := 0) (v := .ref (52 + 30)) htb.1 aj_d19 rfl rfl (by decide) f1072 ?_
        refine cw_g (i := 30) (v := .int x1036) htb.1 aj_d19 rfl rfl (by decide) f1073 ?_
        refine cw_Wr aj_d19 rfl rfl hT1069 ?_ ?_
        · exact (cw_I_eq ((cw_o_sf f1070 (by decide)).trans rfl) Pu1.1)
        · exact cw_full _
      · have q1075 : x1036.toInt = (0 : Int) := aw_t_ne (a := x1036.toInt) (b := (0 : Int)) rfl rfl q1075
        refine cw_n aj_d19 rfl rfl ?_
        obtain ⟨v1076, f1076, g1076⟩ := cw_tyF (i := 0) (t := 62) (c := 10) (k := 3) (y := (.inr (some ([59], false)))) hT1069 (cw_s0 hBu1 rfl) rfl rfl rfl
        obtain ⟨i1076, rfl, q1076⟩ := cw_gr g1076 (by decide)
        refine cw_g (i := 0) (v := .ref (52 + i1076)) htb.1 aj_d19 rfl rfl (by decide) f1076 ?_
        refine cw_n aj_d19 rfl rfl ?_
        show cw_W _ _ _ _ _ _ _ _ _ _ 79 [(1, .ref (52 + i1076)), (0, .ref (52 + 0))] []
        refine cw_n aj_d19 rfl rfl ?_
        refine cw_n aj_d19 rfl rfl ?_
        refine cw_g (i := 0) (v := .ref (52 + i1034)) htb.1 aj_d19 rfl rfl (by decide) f1071 ?_
        refine cw_p (i := 0) (t := 62) (c := 10) (k := 3) (v := .ref (52 + i1034)) (y := (.inr (some ([59], false)))) htb aj_d19 rfl rfl hT1069 (cw_s0 hBu1 rfl) rfl rfl rfl (cw_gR qxu1 (by decide) (by decide)) (by decide) rfl rfl (fun hT1077 => ?_)
        have f1078 : cw_F (cw_sf (cw_sf hu1 0 2 (.int (Int32.ofInt (-1)))) 0 3 (.ref (52 + i1034))) 0 10 4 (.ref (52 + i1034)) := cw_sf_ne f1071 (Or.inr (by decide))
        have f1079 : cw_F (cw_sf (cw_sf hu1 0 2 (.int (Int32.ofInt (-1)))) 0 3 (.ref (52 + i1034))) 0 10 6 (.ref (52 + 30)) := cw_sf_ne f1072 (Or.inr (by decide))
        have f1080 : cw_F (cw_sf (cw_sf hu1 0 2 (.int (Int32.ofInt (-1)))) 0 3 (.ref (52 + i1034))) 30 4 5 (.int x1036) := cw_sf_ne f1073 (Or.inr (by decide))
        have f1081 : cw_F (cw_sf (cw_sf hu1 0 2 (.int (Int32.ofInt (-1)))) 0 3 (.ref (52 + i1034))) 0 10 2 (.int (Int32.ofInt (-1))) := cw_sf_ne f1074 (Or.inr (by decide))
        have f1082 : cw_F (cw_sf (cw_sf hu1 0 2 (.int (Int32.ofInt (-1)))) 0 3 (.ref (52 + i1034))) 0 10 3 (.ref (52 + i1034)) := cw_sf_same f1076
        have I87 := cw_I_cA (T := ak_C0) (w := .ref (52 + i1034)) rfl rfl hT1069 (cw_I_eq ((cw_o_sf f1070 (by decide)).trans rfl) Pu1.1) f1076
        refine cw_n aj_d19 rfl rfl ?_
        refine cw_n aj_d19 rfl rfl ?_
        refine cw_p (i := 0) (t := 62) (c := 10) (k := 4) (v := .ref (52 + i1076)) (y := (.inr (some ([59], false)))) htb aj_d19 rfl rfl hT1077 (cw_s0 hBu1 rfl) rfl rfl rfl (cw_gR q1076 (by decide) (by decide)) (by decide) rfl rfl (fun hT1083 => ?_)
        have f1084 : cw_F (cw_sf (cw_sf (cw_sf hu1 0 2 (.int (Int32.ofInt (-1)))) 0 3 (.ref (52 + i1034))) 0 4 (.ref (52 + i1076))) 0 10 6 (.ref (52 + 30)) := cw_sf_ne f1079 (Or.inr (by decide))
        have f1085 : cw_F (cw_sf (cw_sf (cw_sf hu1 0 2 (.int (Int32.ofInt (-1)))) 0 3 (.ref (52 + i1034))) 0 4 (.ref (52 + i1076))) 30 4 5 (.int x1036) := cw_sf_ne f1080 (Or.inr (by decide))
        have f1086 : cw_F (cw_sf (cw_sf (cw_sf hu1 0 2 (.int (Int32.ofInt (-1)))) 0 3 (.ref (52 + i1034))) 0 4 (.ref (52 + i1076))) 0 10 2 (.int (Int32.ofInt (-1))) := cw_sf_ne f1081 (Or.inr (by decide))
        have f1087 : cw_F (cw_sf (cw_sf (cw_sf hu1 0 2 (.int (Int32.ofInt (-1)))) 0 3 (.ref (52 + i1034))) 0 4 (.ref (52 + i1076))) 0 10 3 (.ref (52 + i1034)) := cw_sf_ne f1082 (Or.inr (by decide))
        have f1088 : cw_F (cw_sf (cw_sf (cw_sf hu1 0 2 (.int (Int32.ofInt (-1)))) 0 3 (.ref (52 + i1034))) 0 4 (.ref (52 + i1076))) 0 10 4 (.ref (52 + i1076)) := cw_sf_same f1078
        have I92 := cw_I_cA (T := ak_C0) (w := .ref (52 + i1076)) rfl rfl hT1077 I87 f1078
        refine cw_n aj_d19 rfl rfl ?_
        refine cw_k0 (i := 0) (t := 62) (con' := ap_c150) aj_d19 htb hT1083 rfl rfl [] rfl rfl (cw_s0 hBu1 rfl) rfl (Nat.le_of_ble_eq_true rfl) ⟨by decide, by decide⟩ (cw_a1 (by omega) (ap_0_150 htb (cw_SP1c _ _ rfl rfl) cw_hK) hT1083 hBu1 rfl ⟨(cw_gR (cw_s0 hBu1 rfl) (by decide) (by decide)), trivial⟩) ?_
        rintro ru1089 h1089 hT1089 ho1089 hRu1089
        have f1090 : cw_F h1089 30 4 5 (.int x1036) := cw_trF ho1089 (by decide) f1085
        have f1091 : cw_F h1089 0 10 3 (.ref (52 + i1034)) := cw_trF ho1089 (by decide) f1087
        have f1092 : cw_F h1089 0 10 4 (.ref (52 + i1076)) := cw_trF ho1089 (by decide) f1088
        obtain rfl := cw_rN hRu1089
        show cw_W _ _ _ _ _ _ _ _ _ _ 96 [(1, .ref (52 + i1076)), (0, .ref (52 + 0))] []
        refine cw_n aj_d19 rfl rfl ?_
        obtain ⟨v1093, f1093, g1093⟩ := cw_tyF (i := 0) (t := 62) (c := 10) (k := 6) (y := (.inr (some ([56], false)))) hT1089 (cw_s0 hBu1 rfl) rfl rfl rfl
        obtain rfl := cw_gu (i := 30) hBu1 g1093 (by decide) (by decide) (by decide)
        refine cw_g (i := 0) (v := .ref (52 + 30)) htb.1 aj_d19 rfl rfl (by decide) f1093 ?_
        refine cw_g (i := 30) (v := .int x1036) htb.1 aj_d19 rfl rfl (by decide) f1090 ?_
        refine cw_Wr aj_d19 rfl rfl hT1089 ?_ ?_
        · exact (cw_I_eq (ho1089.trans rfl) I92)
        · exact cw_full _
  · have q1037 : x1036.toInt = (0 : Int) := aw_t_ne (a := x1036.toInt) (b := (0 : Int)) rfl rfl q1037
    refine cw_n aj_d19 rfl rfl ?_
    obtain ⟨v1094, f1094, g1094⟩ := cw_tyF (i := 0) (t := 62) (c := 10) (k := 9) (y := (.inr (some ([61], false)))) hTu1 (cw_s0 hBu1 rfl) rfl rfl rfl
    obtain rfl := cw_gu (i := 43) hBu1 g1094 (by decide) (by decide) (by decide)
    refine cw_g (i := 0) (v := .ref (52 + 43)) htb.1 aj_d19 rfl rfl (by decide) f1094 ?_
    refine cw_n aj_d19 rfl rfl ?_
    refine cw_g (i := 0) (v := .ref (52 + i1034)) htb.1 aj_d19 rfl rfl (by decide) s2 ?_
    obtain ⟨n9, f9, nt9, g9, hn9, a31, a34, f49, Z9, G9⟩ := cw_PU_0 Pu1 f1036 (by omega)
    refine cw_k (i := 43) (con' := cw_nW 97 none) aj_d19 htb hTu1 rfl rfl [_] rfl rfl (cw_cls hTu1 (cw_s0 hBu1 rfl) rfl) (Nat.le_of_ble_eq_true rfl) ⟨by decide, by decide⟩ (cw_work htb hTu1 Pu1.1 (by omega) hx qxu1 hn9 a31 a34 f49 Z9 G9) ?_
    rintro u2 ru2 hu2 hTu2 Pu2 hRu2 Eu2
    obtain rfl := cw_rN hRu2
    obtain ⟨Su2, eSu2⟩ : ∃ z, z = Su1 ++ u2 := ⟨_, rfl⟩
    rw [← eSu2] at Pu2 hTu2 ⊢
    have hBu2 := Pu2.2.1
    have s3 : cw_F hu2 0 10 4 (.ref (52 + i1034)) := cw_EvF Eu2 (by decide) s2
    have qxu2 : Su2[i1034]? = some 59 := by
      rw [eSu2]
      exact cw_sapp qxu1
    show cw_W _ _ _ _ _ _ _ _ _ _ 39 [(0, .ref (52 + 0))] []
    refine cw_n aj_d19 rfl rfl ?_
    refine cw_n aj_d19 rfl rfl ?_
    obtain ⟨v1095, f1095, g1095⟩ := cw_tyF (i := 0) (t := 62) (c := 10) (k := 6) (y := (.inr (some ([56], false)))) hTu2 (cw_s0 hBu2 rfl) rfl rfl rfl
    obtain rfl := cw_gu (i := 30) hBu2 g1095 (by decide) (by decide) (by decide)
    refine cw_g (i := 0) (v := .ref (52 + 30)) htb.1 aj_d19 rfl rfl (by decide) f1095 ?_
    obtain ⟨v1096, f1096, g1096⟩ := cw_tyF (i := 30) (t := 56) (c := 4) (k := 5) (y := (.inl ((-2147483648), 2147483647))) hTu2 (cw_s0 hBu2 rfl) rfl rfl rfl
    obtain ⟨x1096, rfl, b1096⟩ := ak_gi g1096
    dsimp only [ak_win] at b1096
    refine cw_g (i := 30) (v := .int x1096) htb.1 aj_d19 rfl rfl (by decide) f1096 ?_
    refine cw_z (tgt := 54) aj_d19 rfl rfl (fun q1097 => ?_) (fun q1097 => ?_)
    · have q1097 : x1096.toInt ≠ (0 : Int) := aw_t_ne (a := x1096.toInt) (b := (0 : Int)) rfl rfl q1097
      refine cw_n aj_d19 rfl rfl ?_
      refine cw_g (i := 0) (v := .ref (52 + 30)) htb.1 aj_d19 rfl rfl (by decide) f1095 ?_
      obtain ⟨v1098, f1098, g1098⟩ := cw_tyF (i := 30) (t := 56) (c := 4) (k := 6) (y := (.inl ((-2147483648), 2147483647))) hTu2 (cw_s0 hBu2 rfl) rfl rfl rfl
      obtain ⟨x1098, rfl, b1098⟩ := ak_gi g1098
      dsimp only [ak_win] at b1098
      refine cw_g (i := 30) (v := .int x1098) htb.1 aj_d19 rfl rfl (by decide) f1098 ?_
      refine cw_p (i := 0) (t := 62) (c := 10) (k := 2) (v := .int x1098) (y := (.inl ((-2147483648), 2147483647))) htb aj_d19 rfl rfl hTu2 (cw_s0 hBu2 rfl) rfl rfl rfl (cw_full _) (by decide) rfl rfl (fun hT1099 => ?_)
      obtain ⟨v1100, f1100, g1100⟩ := cw_tyF (i := 0) (t := 62) (c := 10) (k := 2) (y := (.inl ((-2147483648), 2147483647))) hTu2 (cw_s0 hBu2 rfl) rfl rfl rfl
      obtain ⟨x1100, rfl, b1100⟩ := ak_gi g1100
      dsimp only [ak_win] at b1100
      have f1101 : cw_F (cw_sf hu2 0 2 (.int x1098)) 0 10 4 (.ref (52 + i1034)) := cw_sf_ne s3 (Or.inr (by decide))
      have f1102 : cw_F (cw_sf hu2 0 2 (.int x1098)) 0 10 6 (.ref (52 + 30)) := cw_sf_ne f1095 (Or.inr (by decide))
      have f1103 : cw_F (cw_sf hu2 0 2 (.int x1098)) 30 4 5 (.int x1096) := cw_sf_ne f1096 (Or.inr (by decide))
      have f1104 : cw_F (cw_sf hu2 0 2 (.int x1098)) 30 4 6 (.int x1098) := cw_sf_ne f1098 (Or.inr (by decide))
      have f1105 : cw_F (cw_sf hu2 0 2 (.int x1098)) 0 10 2 (.int x1098) := cw_sf_same f1100
      refine cw_n aj_d19 rfl rfl ?_
      refine cw_g (i := 0) (v := .ref (52 + 30)) htb.1 aj_d19 rfl rfl (by decide) f1102 ?_
      refine cw_g (i := 30) (v := .int x1096) htb.1 aj_d19 rfl rfl (by decide) f1103 ?_
      refine cw_z (tgt := 96) aj_d19 rfl rfl (fun q1106 => ?_) (fun q1106 => ?_)
      · have q1106 : x1096.toInt ≠ (0 : Int) := aw_t_ne (a := x1096.toInt) (b := (0 : Int)) rfl rfl q1106
        refine cw_n aj_d19 rfl rfl ?_
        refine cw_g (i := 0) (v := .ref (52 + 30)) htb.1 aj_d19 rfl rfl (by decide) f1102 ?_
        refine cw_g (i := 30) (v := .int x1096) htb.1 aj_d19 rfl rfl (by decide) f1103 ?_
        refine cw_Wr aj_d19 rfl rfl hT1099 ?_ ?_
        · exact (cw_I_eq ((cw_o_sf f1100 (by decide)).trans rfl) Pu2.2)
        · exact cw_full _
      · have q1106 : x1096.toInt = (0 : Int) := aw_t_ne (a := x1096.toInt) (b := (0 : Int)) rfl rfl q1106
        refine cw_n aj_d19 rfl rfl ?_
        obtain ⟨v1107, f1107, g1107⟩ := cw_tyF (i := 0) (t := 62) (c := 10) (k := 3) (y := (.inr (some ([59], false)))) hT1099 (cw_s0 hBu2 rfl) rfl rfl rfl
        obtain ⟨i1107, rfl, q1107⟩ := cw_gr g1107 (by decide)
        refine cw_g (i := 0) (v := .ref (52 + i1107)) htb.1 aj_d19 rfl rfl (by decide) f1107 ?_
        refine cw_n aj_d19 rfl rfl ?_
        show cw_W _ _ _ _ _ _ _ _ _ _ 79 [(1, .ref (52 + i1107)), (0, .ref (52 + 0))] []
        refine cw_n aj_d19 rfl rfl ?_
        refine cw_n aj_d19 rfl rfl ?_
        refine cw_g (i := 0) (v := .ref (52 + i1034)) htb.1 aj_d19 rfl rfl (by decide) f1101 ?_
        refine cw_p (i := 0) (t := 62) (c := 10) (k := 3) (v := .ref (52 + i1034)) (y := (.inr (some ([59], false)))) htb aj_d19 rfl rfl hT1099 (cw_s0 hBu2 rfl) rfl rfl rfl (cw_gR qxu2 (by decide) (by decide)) (by decide) rfl rfl (fun hT1108 => ?_)
        have f1109 : cw_F (cw_sf (cw_sf hu2 0 2 (.int x1098)) 0 3 (.ref (52 + i1034))) 0 10 4 (.ref (52 + i1034)) := cw_sf_ne f1101 (Or.inr (by decide))
        have f1110 : cw_F (cw_sf (cw_sf hu2 0 2 (.int x1098)) 0 3 (.ref (52 + i1034))) 0 10 6 (.ref (52 + 30)) := cw_sf_ne f1102 (Or.inr (by decide))
        have f1111 : cw_F (cw_sf (cw_sf hu2 0 2 (.int x1098)) 0 3 (.ref (52 + i1034))) 30 4 5 (.int x1096) := cw_sf_ne f1103 (Or.inr (by decide))
        have f1112 : cw_F (cw_sf (cw_sf hu2 0 2 (.int x1098)) 0 3 (.ref (52 + i1034))) 30 4 6 (.int x1098) := cw_sf_ne f1104 (Or.inr (by decide))
        have f1113 : cw_F (cw_sf (cw_sf hu2 0 2 (.int x1098)) 0 3 (.ref (52 + i1034))) 0 10 2 (.int x1098) := cw_sf_ne f1105 (Or.inr (by decide))
        have f1114 : cw_F (cw_sf (cw_sf hu2 0 2 (.int x1098)) 0 3 (.ref (52 + i1034))) 0 10 3 (.ref (52 + i1034)) := cw_sf_same f1107
        have I87 := cw_I_cA (T := ak_C0) (w := .ref (52 + i1034)) rfl rfl hT1099 (cw_I_eq ((cw_o_sf f1100 (by decide)).trans rfl) Pu2.2) f1107
        refine cw_n aj_d19 rfl rfl ?_
        refine cw_n aj_d19 rfl rfl ?_
        refine cw_p (i := 0) (t := 62) (c := 10) (k := 4) (v := .ref (52 + i1107)) (y := (.inr (some ([59], false)))) htb aj_d19 rfl rfl hT1108 (cw_s0 hBu2 rfl) rfl rfl rfl (cw_gR q1107 (by decide) (by decide)) (by decide) rfl rfl (fun hT1115 => ?_)
        have f1116 : cw_F (cw_sf (cw_sf (cw_sf hu2 0 2 (.int x1098)) 0 3 (.ref (52 + i1034))) 0 4 (.ref (52 + i1107))) 0 10 6 (.ref (52 + 30)) := cw_sf_ne f1110 (Or.inr (by decide))
        have f1117 : cw_F (cw_sf (cw_sf (cw_sf hu2 0 2 (.int x1098)) 0 3 (.ref (52 + i1034))) 0 4 (.ref (52 + i1107))) 30 4 5 (.int x1096) := cw_sf_ne f1111 (Or.inr (by decide))
        have f1118 : cw_F (cw_sf (cw_sf (cw_sf hu2 0 2 (.int x1098)) 0 3 (.ref (52 + i1034))) 0 4 (.ref (52 + i1107))) 30 4 6 (.int x1098) := cw_sf_ne f1112 (Or.inr (by decide))
        have f1119 : cw_F (cw_sf (cw_sf (cw_sf hu2 0 2 (.int x1098)) 0 3 (.ref (52 + i1034))) 0 4 (.ref (52 + i1107))) 0 10 2 (.int x1098) := cw_sf_ne f1113 (Or.inr (by decide))
        have f1120 : cw_F (cw_sf (cw_sf (cw_sf hu2 0 2 (.int x1098)) 0 3 (.ref (52 + i1034))) 0 4 (.ref (52 + i1107))) 0 10 3 (.ref (52 + i1034)) := cw_sf_ne f1114 (Or.inr (by decide))
        have f1121 : cw_F (cw_sf (cw_sf (cw_sf hu2 0 2 (.int x1098)) 0 3 (.ref (52 + i1034))) 0 4 (.ref (52 + i1107))) 0 10 4 (.ref (52 + i1107)) := cw_sf_same f1109
        have I92 := cw_I_cA (T := ak_C0) (w := .ref (52 + i1107)) rfl rfl hT1108 I87 f1109
        refine cw_n aj_d19 rfl rfl ?_
        refine cw_k0 (i := 0) (t := 62) (con' := ap_c150) aj_d19 htb hT1115 rfl rfl [] rfl rfl (cw_s0 hBu2 rfl) rfl (Nat.le_of_ble_eq_true rfl) ⟨by decide, by decide⟩ (cw_a1 (by omega) (ap_0_150 htb (cw_SP1c _ _ rfl rfl) cw_hK) hT1115 hBu2 rfl ⟨(cw_gR (cw_s0 hBu2 rfl) (by decide) (by decide)), trivial⟩) ?_
        rintro ru1122 h1122 hT1122 ho1122 hRu1122
        have f1123 : cw_F h1122 30 4 5 (.int x1096) := cw_trF ho1122 (by decide) f1117
        have f1124 : cw_F h1122 30 4 6 (.int x1098) := cw_trF ho1122 (by decide) f1118
        have f1125 : cw_F h1122 0 10 3 (.ref (52 + i1034)) := cw_trF ho1122 (by decide) f1120
        have f1126 : cw_F h1122 0 10 4 (.ref (52 + i1107)) := cw_trF ho1122 (by decide) f1121
        obtain rfl := cw_rN hRu1122
        show cw_W _ _ _ _ _ _ _ _ _ _ 96 [(1, .ref (52 + i1107)), (0, .ref (52 + 0))] []
        refine cw_n aj_d19 rfl rfl ?_
        obtain ⟨v1127, f1127, g1127⟩ := cw_tyF (i := 0) (t := 62) (c := 10) (k := 6) (y := (.inr (some ([56], false)))) hT1122 (cw_s0 hBu2 rfl) rfl rfl rfl
        obtain rfl := cw_gu (i := 30) hBu2 g1127 (by decide) (by decide) (by decide)
        refine cw_g (i := 0) (v := .ref (52 + 30)) htb.1 aj_d19 rfl rfl (by decide) f1127 ?_
        refine cw_g (i := 30) (v := .int x1096) htb.1 aj_d19 rfl rfl (by decide) f1123 ?_
        refine cw_Wr aj_d19 rfl rfl hT1122 ?_ ?_
        · exact (cw_I_eq (ho1122.trans rfl) I92)
        · exact cw_full _
    · have q1097 : x1096.toInt = (0 : Int) := aw_t_ne (a := x1096.toInt) (b := (0 : Int)) rfl rfl q1097
      refine cw_n aj_d19 rfl rfl ?_
      refine cw_n aj_d19 rfl rfl ?_
      refine cw_p (i := 0) (t := 62) (c := 10) (k := 2) (v := .int (Int32.ofInt (-1))) (y := (.inl ((-2147483648), 2147483647))) htb aj_d19 rfl rfl hTu2 (cw_s0 hBu2 rfl) rfl rfl rfl (cw_full _) (by decide) rfl rfl (fun hT1128 => ?_)
      obtain ⟨v1129, f1129, g1129⟩ := cw_tyF (i := 0) (t := 62) (c := 10) (k := 2) (y := (.inl ((-2147483648), 2147483647))) hTu2 (cw_s0 hBu2 rfl) rfl rfl rfl
      obtain ⟨x1129, rfl, b1129⟩ := ak_gi g1129
      dsimp only [ak_win] at b1129
      have f1130 : cw_F (cw_sf hu2 0 2 (.int (Int32.ofInt (-1)))) 0 10 4 (.ref (52 + i1034)) := cw_sf_ne s3 (Or.inr (by decide))
      have f1131 : cw_F (cw_sf hu2 0 2 (.int (Int32.ofInt (-1)))) 0 10 6 (.ref (52 + 30)) := cw_sf_ne f1095 (Or.inr (by decide))
      have f1132 : cw_F (cw_sf hu2 0 2 (.int (Int32.ofInt (-1)))) 30 4 5 (.int x1096) := cw_sf_ne f1096 (Or.inr (by decide))
      have f1133 : cw_F (cw_sf hu2 0 2 (.int (Int32.ofInt (-1)))) 0 10 2 (.int (Int32.ofInt (-1))) := cw_sf_same f1129
      refine cw_n aj_d19 rfl rfl ?_
      refine cw_g (i := 0) (v := .ref (52 + 30)) htb.1 aj_d19 rfl rfl (by decide) f1131 ?_
      refine cw_g (i := 30) (v := .int x1096) htb.1 aj_d19 rfl rfl (by decide) f1132 ?_
      refine cw_z (tgt := 96) aj_d19 rfl rfl (fun q1134 => ?_) (fun q1134 => ?_)
      · have q1134 : x1096.toInt ≠ (0 : Int) := aw_t_ne (a := x1096.toInt) (b := (0 : Int)) rfl rfl q1134
        refine cw_n aj_d19 rfl rfl ?_
        refine cw_g (i := 0) (v := .ref (52 + 30)) htb.1 aj_d19 rfl rfl (by decide) f1131 ?_
        refine cw_g (i := 30) (v := .int x1096) htb.1 aj_d19 rfl rfl (by decide) f1132 ?_
        refine cw_Wr aj_d19 rfl rfl hT1128 ?_ ?_
        · exact (cw_I_eq ((cw_o_sf f1129 (by decide)).trans rfl) Pu2.2)
        · exact cw_full _
      · have q1134 : x1096.toInt = (0 : Int) := aw_t_ne (a := x1096.toInt) (b := (0 : Int)) rfl rfl q1134
        refine cw_n aj_d19 rfl rfl ?_
        obtain ⟨v1135, f1135, g1135⟩ := cw_tyF (i := 0) (t := 62) (c := 10) (k := 3) (y := (.inr (some ([59], false)))) hT1128 (cw_s0 hBu2 rfl) rfl rfl rfl
        obtain ⟨i1135, rfl, q1135⟩ := cw_gr g1135 (by decide)
        refine cw_g (i := 0) (v := .ref (52 + i1135)) htb.1 aj_d19 rfl rfl (by decide) f1135 ?_
        refine cw_n aj_d19 rfl rfl ?_
        show cw_W _ _ _ _ _ _ _ _ _ _ 79 [(1, .ref (52 + i1135)), (0, .ref (52 + 0))] []
        refine cw_n aj_d19 rfl rfl ?_
        refine cw_n aj_d19 rfl rfl ?_
        refine cw_g (i := 0) (v := .ref (52 + i1034)) htb.1 aj_d19 rfl rfl (by decide) f1130 ?_
        refine cw_p (i := 0) (t := 62) (c := 10) (k := 3) (v := .ref (52 + i1034)) (y := (.inr (some ([59], false)))) htb aj_d19 rfl rfl hT1128 (cw_s0 hBu2 rfl) rfl rfl rfl (cw_gR qxu2 (by decide) (by decide)) (by decide) rfl rfl (fun hT1136 => ?_)
        have f1137 : cw_F (cw_sf (cw_sf hu2 0 2 (.int (Int32.ofInt (-1)))) 0 3 (.ref (52 + i1034))) 0 10 4 (.ref (52 + i1034)) := cw_sf_ne f1130 (Or.inr (by decide))
        have f1138 : cw_F (cw_sf (cw_sf hu2 0 2 (.int (Int32.ofInt (-1)))) 0 3 (.ref (52 + i1034))) 0 10 6 (.ref (52 + 30)) := cw_sf_ne f1131 (Or.inr (by decide))
        have f1139 : cw_F (cw_sf (cw_sf hu2 0 2 (.int (Int32.ofInt (-1)))) 0 3 (.ref (52 + i1034))) 30 4 5 (.int x1096) := cw_sf_ne f1132 (Or.inr (by decide))
        have f1140 : cw_F (cw_sf (cw_sf hu2 0 2 (.int (Int32.ofInt (-1)))) 0 3 (.ref (52 + i1034))) 0 10 2 (.int (Int32.ofInt (-1))) := cw_sf_ne f1133 (Or.inr (by decide))
        have f1141 : cw_F (cw_sf (cw_sf hu2 0 2 (.int (Int32.ofInt (-1)))) 0 3 (.ref (52 + i1034))) 0 10 3 (.ref (52 + i1034)) := cw_sf_same f1135
        have I87 := cw_I_cA (T := ak_C0) (w := .ref (52 + i1034)) rfl rfl hT1128 (cw_I_eq ((cw_o_sf f1129 (by decide)).trans rfl) Pu2.2) f1135
        refine cw_n aj_d19 rfl rfl ?_
        refine cw_n aj_d19 rfl rfl ?_
        refine cw_p (i := 0) (t := 62) (c := 10) (k := 4) (v := .ref (52 + i1135)) (y := (.inr (some ([59], false)))) htb aj_d19 rfl rfl hT1136 (cw_s0 hBu2 rfl) rfl rfl rfl (cw_gR q1135 (by decide) (by decide)) (by decide) rfl rfl (fun hT1142 => ?_)
        have f1143 : cw_F (cw_sf (cw_sf (cw_sf hu2 0 2 (.int (Int32.ofInt (-1)))) 0 3 (.ref (52 + i1034))) 0 4 (.ref (52 + i1135))) 0 10 6 (.ref (52 + 30)) := cw_sf_ne f1138 (Or.inr (by decide))
        have f1144 : cw_F (cw_sf (cw_sf (cw_sf hu2 0 2 (.int (Int32.ofInt (-1)))) 0 3 (.ref (52 + i1034))) 0 4 (.ref (52 + i1135))) 30 4 5 (.int x1096) := cw_sf_ne f1139 (Or.inr (by decide))
        have f1145 : cw_F (cw_sf (cw_sf (cw_sf hu2 0 2 (.int (Int32.ofInt (-1)))) 0 3 (.ref (52 + i1034))) 0 4 (.ref (52 + i1135))) 0 10 2 (.int (Int32.ofInt (-1))) := cw_sf_ne f1140 (Or.inr (by decide))
        have f1146 : cw_F (cw_sf (cw_sf (cw_sf hu2 0 2 (.int (Int32.ofInt (-1)))) 0 3 (.ref (52 + i1034))) 0 4 (.ref (52 + i1135))) 0 10 3 (.ref (52 + i1034)) := cw_sf_ne f1141 (Or.inr (by decide))
        have f1147 : cw_F (cw_sf (cw_sf (cw_sf hu2 0 2 (.int (Int32.ofInt (-1)))) 0 3 (.ref (52 + i1034))) 0 4 (.ref (52 + i1135))) 0 10 4 (.ref (52 + i1135)) := cw_sf_same f1137
        have I92 := cw_I_cA (T := ak_C0) (w := .ref (52 + i1135)) rfl rfl hT1136 I87 f1137
        refine cw_n aj_d19 rfl rfl ?_
        refine cw_k0 (i := 0) (t := 62) (con' := ap_c150) aj_d19 htb hT1142 rfl rfl [] rfl rfl (cw_s0 hBu2 rfl) rfl (Nat.le_of_ble_eq_true rfl) ⟨by decide, by decide⟩ (cw_a1 (by omega) (ap_0_150 htb (cw_SP1c _ _ rfl rfl) cw_hK) hT1142 hBu2 rfl ⟨(cw_gR (cw_s0 hBu2 rfl) (by decide) (by decide)), trivial⟩) ?_
        rintro ru1148 h1148 hT1148 ho1148 hRu1148
        have f1149 : cw_F h1148 30 4 5 (.int x1096) := cw_trF ho1148 (by decide) f1144
        have f1150 : cw_F h1148 0 10 3 (.ref (52 + i1034)) := cw_trF ho1148 (by decide) f1146
        have f1151 : cw_F h1148 0 10 4 (.ref (52 + i1135)) := cw_trF ho1148 (by decide) f1147
        obtain rfl := cw_rN hRu1148
        show cw_W _ _ _ _ _ _ _ _ _ _ 96 [(1, .ref (52 + i1135)), (0, .ref (52 + 0))] []
        refine cw_n aj_d19 rfl rfl ?_
        obtain ⟨v1152, f1152, g1152⟩ := cw_tyF (i := 0) (t := 62) (c := 10) (k := 6) (y := (.inr (some ([56], false)))) hT1148 (cw_s0 hBu2 rfl) rfl rfl rfl
        obtain rfl := cw_gu (i := 30) hBu2 g1152 (by decide) (by decide) (by decide)
        refine cw_g (i := 0) (v := .ref (52 + 30)) htb.1 aj_d19 rfl rfl (by decide) f1152 ?_
        refine cw_g (i := 30) (v := .int x1096) htb.1 aj_d19 rfl rfl (by decide) f1149 ?_
        refine cw_Wr aj_d19 rfl rfl hT1148 ?_ ?_
        · exact (cw_I_eq (ho1148.trans rfl) I92)
        · exact cw_full _
end CW89
