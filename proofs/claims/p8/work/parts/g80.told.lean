/-! A NOTE OF WHAT IS TOLD, BY HAND (printed by wip/p2/cwalk/g80.py) -/
section CW80
variable {Φ : List Nat → Option Value → aj_H → Prop} {tb : aj_T} {d : Nat} {s s' s2 s0 : List Nat} {h h' h2 h0 : aj_H} {i j p q x c k l l' D D' D2 : Nat} {b b' b2 : Int} {o o' o2 o0 : cw_O} {EF : Nat → Nat → Nat → Prop} {EA : Nat → Prop} {n nt iv dp v w : Int32} {f g : Nat → Int32}
theorem cw_Z_eq (e : o' = o) {N : Prop} (hZ : cw_Z N x n b o) : cw_Z N x n b o' := by
  subst e
  exact hZ
theorem cw_k0W (hk : cw_kp EF EA o o') (hF : ∀ i c k, EF i c k → cw_EW i c k) (hA : ∀ i, EA i → cw_A49 i) : cw_kp cw_EW cw_A49 o o' := cw_kp_sub hk hF hA
theorem cw_kpE {EF : Nat → Nat → Nat → Prop} {EA : Nat → Prop} (e : o' = o) (h0 : cw_kp EF EA o o2) : cw_kp EF EA o' o2 := by
  subst e
  exact h0
theorem cw_syE (e : o' = o) (h0 : cw_sy b b' o o2) : cw_sy b b' o' o2 := by
  subst e
  exact h0
theorem cw_t186 (htb : ak_tbOK ak_CW tb) (hT : ak_Ty ak_CW s h) (hI : cw_I cw_XB s h) (hd : 7 ≤ d) (hx : x = 2 ∨ x = 14) (qx : s[x]? = some 59) (hb : 30 ≤ b ∧ b ≤ 40000) (hi : 0 ≤ iv.toInt ∧ iv.toInt ≤ 2499) (fs7 : cw_F h 43 9 7 (.ref (52 + x))) (fd : cw_F h 43 9 4 (.int dp)) (hdp : dp.toInt = (D : Int)) (hD20 : D ≤ 20) (lv : cw_Lv D b (cw_o h)) (hZ : cw_Z False x nt b (cw_o h))  : cw_K ak_CW (fun s' r h' => r = none ∧ cw_WQ (D) b s h s' h') tb d (cw_nW 143 none) [.ref (52 + 43), .int 186, .int iv] s h := by
  obtain ⟨d, rfl⟩ : ∃ e, d = e + 1 := ⟨d - 1, by omega⟩
  have hB := hI.1
  refine cw_m (con := cw_nW 143 none) aj_m143_at (Nat.le_of_ble_eq_true rfl) ?_
  show cw_W _ _ _ _ _ _ _ _ _ _ 0 [(0, .ref (52 + 43)), (1, .int 186), (2, .int iv)] []
  refine cw_n aj_d143 rfl rfl ?_
  refine cw_tsw (tgt := 44) (a := (186 : Int)) aj_d143 rfl rfl ⟨by decide, by decide⟩ rfl rfl ?_
  refine cw_n aj_d143 rfl rfl ?_
  refine cw_n aj_d143 rfl rfl ?_
  obtain ⟨v1001, f1001, g1001⟩ := cw_tyF (i := 43) (t := 61) (c := 9) (k := 1) (y := (.inr (some ([56], false)))) hT (cw_s0 hB rfl) rfl rfl rfl
  obtain rfl := cw_gu (i := 30) hB g1001 (by decide) (by decide) (by decide)
  refine cw_g (i := 43) (v := .ref (52 + 30)) htb.1 aj_d143 rfl rfl (by decide) f1001 ?_
  refine cw_n aj_d143 rfl rfl ?_
  refine cw_k0 (i := 30) (t := 56) (con' := ap_c40) aj_d143 htb hT rfl rfl [_] rfl rfl (cw_s0 hB rfl) rfl (Nat.le_of_ble_eq_true rfl) ⟨by decide, by decide⟩ (cw_a1 (by omega) (ap_W_40 htb (cw_SP1c _ _ rfl rfl) cw_hK) hT hB rfl ⟨(cw_gR (cw_s0 hB rfl) (by decide) (by decide)), (cw_full _), trivial⟩) ?_
  rintro ru1002 h1002 hT1002 ho1002 hRu1002
  have f1003 : cw_F h1002 43 9 7 (.ref (52 + x)) := cw_trF ho1002 (by decide) fs7
  have f1004 : cw_F h1002 43 9 4 (.int dp) := cw_trF ho1002 (by decide) fd
  obtain ⟨x1005, rfl, bx1005⟩ := cw_rI hRu1002
  show cw_W _ _ _ _ _ _ _ _ _ _ 53 [(0, .ref (52 + 43)), (1, .int 186), (2, .int iv)] [.int x1005, .ref (52 + 43)]
  refine cw_p (i := 43) (t := 61) (c := 9) (k := 13) (v := .int x1005) (y := (.inl ((-2147483648), 2147483647))) htb aj_d143 rfl rfl hT1002 (cw_s0 hB rfl) rfl rfl rfl (cw_full _) (by decide) rfl rfl (fun hT1006 => ?_)
  obtain ⟨v1007, f1007, g1007⟩ := cw_tyF (i := 43) (t := 61) (c := 9) (k := 13) (y := (.inl ((-2147483648), 2147483647))) hT1002 (cw_s0 hB rfl) rfl rfl rfl
  obtain ⟨x1007, rfl, b1007⟩ := ak_gi g1007
  dsimp only [ak_win] at b1007
  have f1008 : cw_F (cw_sf h1002 43 13 (.int x1005)) 43 9 7 (.ref (52 + x)) := cw_sf_ne f1003 (Or.inr (by decide))
  have f1009 : cw_F (cw_sf h1002 43 13 (.int x1005)) 43 9 4 (.int dp) := cw_sf_ne f1004 (Or.inr (by decide))
  have f1010 : cw_F (cw_sf h1002 43 13 (.int x1005)) 43 9 13 (.int x1005) := cw_sf_same f1007
  refine cw_n aj_d143 rfl rfl ?_
  refine cw_n aj_d143 rfl rfl ?_
  refine cw_p (i := 43) (t := 61) (c := 9) (k := 14) (v := .int (Int32.ofInt 0)) (y := (.inl ((-2147483648), 2147483647))) htb aj_d143 rfl rfl hT1006 (cw_s0 hB rfl) rfl rfl rfl (cw_full _) (by decide) rfl rfl (fun hT1011 => ?_)
  obtain ⟨v1012, f1012, g1012⟩ := cw_tyF (i := 43) (t := 61) (c := 9) (k := 14) (y := (.inl ((-2147483648), 2147483647))) hT1006 (cw_s0 hB rfl) rfl rfl rfl
  obtain ⟨x1012, rfl, b1012⟩ := ak_gi g1012
  dsimp only [ak_win] at b1012
  have f1013 : cw_F (cw_sf (cw_sf h1002 43 13 (.int x1005)) 43 14 (.int (Int32.ofInt 0))) 43 9 7 (.ref (52 + x)) := cw_sf_ne f1008 (Or.inr (by decide))
  have f1014 : cw_F (cw_sf (cw_sf h1002 43 13 (.int x1005)) 43 14 (.int (Int32.ofInt 0))) 43 9 4 (.int dp) := cw_sf_ne f1009 (Or.inr (by decide))
  have f1015 : cw_F (cw_sf (cw_sf h1002 43 13 (.int x1005)) 43 14 (.int (Int32.ofInt 0))) 43 9 13 (.int x1005) := cw_sf_ne f1010 (Or.inr (by decide))
  have f1016 : cw_F (cw_sf (cw_sf h1002 43 13 (.int x1005)) 43 14 (.int (Int32.ofInt 0))) 43 9 14 (.int (Int32.ofInt 0)) := cw_sf_same f1012
  refine cw_n aj_d143 rfl rfl ?_
  refine cw_n aj_d143 rfl rfl ?_
  refine cw_g (i := 43) (v := .ref (52 + x)) htb.1 aj_d143 rfl rfl (by decide) f1013 ?_
  refine cw_n aj_d143 rfl rfl ?_
  refine cw_g (i := 43) (v := .int x1005) htb.1 aj_d143 rfl rfl (by decide) f1015 ?_
  refine cw_k0 (i := x) (t := 59) (con' := cw_nW 63 (some (.inr (some ([58], true))))) aj_d143 htb hT1011 rfl rfl [_] rfl rfl qx rfl (Nat.le_of_ble_eq_true rfl) ⟨by decide, by decide⟩ (cw_rowsOf (x := x1005) htb hT1011 hB (by omega) hx (cw_Z_eq ((cw_o_sf f1012 (by decide)).trans ((cw_o_sf f1007 (by decide)).trans (ho1002.trans rfl))) hZ)) ?_
  rintro ru1017 hu1017 hTu1017 ⟨eu1017, zu1017⟩ -
  obtain rfl := eu1017.symm
  rcases zu1017 with ⟨-, rfl⟩ | ⟨-, j, rfl, qj, okj⟩
  · skip
    show cw_W _ _ _ _ _ _ _ _ _ _ 73 [(0, .ref (52 + 43)), (1, .int 186), (2, .int iv)] [.null, .ref (52 + 43)]
    refine cw_k0 (i := 43) (t := 61) (con' := cw_nW 144 none) aj_d143 htb hTu1017 rfl rfl [_] rfl rfl (cw_s0 hB rfl) rfl (Nat.le_of_ble_eq_true rfl) ⟨by decide, by decide⟩ (cw_startRow0 htb hTu1017 (cw_I_eq ((cw_o_sf f1012 (by decide)).trans ((cw_o_sf f1007 (by decide)).trans (ho1002.trans rfl))) hI) (by omega)) ?_
    rintro ru1018 hu1018 hTu1018 eu1018 hRu1018
    obtain rfl := cw_rN hRu1018
    obtain rfl := eu1018.symm
    show cw_W _ _ _ _ _ _ _ _ _ _ 76 [(0, .ref (52 + 43)), (1, .int 186), (2, .int iv)] []
    refine cw_n aj_d143 rfl rfl ?_
    refine cw_Wr aj_d143 rfl rfl hTu1018 ?_ ?_
    · exact ⟨rfl, cw_s00, cw_I_eq ((cw_o_sf f1012 (by decide)).trans ((cw_o_sf f1007 (by decide)).trans (ho1002.trans rfl))) hI, cw_kp_eq ((cw_o_sf f1012 (by decide)).trans ((cw_o_sf f1007 (by decide)).trans (ho1002.trans rfl))), (fun a z => cw_ok_mono (by omega) (cw_ok_eq ((cw_o_sf f1012 (by decide)).trans ((cw_o_sf f1007 (by decide)).trans (ho1002.trans rfl))) z)), ⟨dp, hdp, f1014⟩, cw_Lv_kp (fun l r z => cw_sk_kp (cw_kp_eq (EF := fun _ _ _ => False) (EA := fun _ => False) ((cw_o_sf f1012 (by decide)).trans ((cw_o_sf f1007 (by decide)).trans (ho1002.trans rfl)))) id z) (fun a z => cw_ok_mono (by omega) (cw_ok_eq ((cw_o_sf f1012 (by decide)).trans ((cw_o_sf f1007 (by decide)).trans (ho1002.trans rfl))) z)) lv⟩
    · trivial
  · skip
    show cw_W _ _ _ _ _ _ _ _ _ _ 73 [(0, .ref (52 + 43)), (1, .int 186), (2, .int iv)] [.ref (52 + j), .ref (52 + 43)]
    obtain ⟨v1019, f1019, g1019⟩ := cw_tyF (i := j) (t := 58) (c := 6) (k := 4) (y := (.inl (0, 20000000))) hTu1017 qj rfl rfl rfl
    obtain ⟨x1019, rfl, b1019⟩ := ak_gi g1019
    dsimp only [ak_win] at b1019
    obtain ⟨v1020, f1020, g1020⟩ := cw_tyF (i := j) (t := 58) (c := 6) (k := 3) (y := (.inl (0, 20000000))) hTu1017 qj rfl rfl rfl
    obtain ⟨x1020, rfl, b1020⟩ := ak_gi g1020
    dsimp only [ak_win] at b1020
    have k4 := cw_ok_4 okj f1019
    have k3 := cw_ok_3 okj f1020
    refine cw_k0 (i := 43) (t := 61) (con' := cw_nW 144 none) aj_d143 htb hTu1017 rfl rfl [_] rfl rfl (cw_s0 hB rfl) rfl (Nat.le_of_ble_eq_true rfl) ⟨by decide, by decide⟩ (cw_startRow htb hTu1017 (cw_I_eq ((cw_o_sf f1012 (by decide)).trans ((cw_o_sf f1007 (by decide)).trans (ho1002.trans rfl))) hI) (by omega) qj f1019 ⟨by omega, by omega⟩) ?_
    rintro rs hs hTs ⟨rfl, Is, ks, y, ey, fy⟩ -
    have okj2 : cw_ok (b + 8) (cw_o hs) j := cw_ok_F fy (cw_kp_F ks (fun z => absurd z.2.2 (by decide)) (by decide) f1020) (by omega) (by omega)
    have ss : cw_sy b (b + 8) (cw_o h) (cw_o hs) := cw_sy_tr (fun a z => cw_ok_mono (by omega) (cw_ok_eq ((cw_o_sf f1012 (by decide)).trans ((cw_o_sf f1007 (by decide)).trans (ho1002.trans rfl))) z)) (cw_sy_kp (i := j) (cw_kp_sub ks (fun _ _ _ z => ⟨z.1, z.2.1⟩) (fun _ z => z)) okj2)
    have kw : cw_kp cw_EW cw_A49 (cw_o h) (cw_o hs) := cw_kp_tr (cw_kp_eq ((cw_o_sf f1012 (by decide)).trans ((cw_o_sf f1007 (by decide)).trans (ho1002.trans rfl)))) (cw_kp_sub ks (fun _ _ _ z => Or.inl z.2.1) (fun _ z => z.elim))
    show cw_W _ _ _ _ _ _ _ _ _ _ 76 [(0, .ref (52 + 43)), (1, .int 186), (2, .int iv)] []
    refine cw_n aj_d143 rfl rfl ?_
    refine cw_Wr aj_d143 rfl rfl hTs ?_ ?_
    · exact ⟨rfl, cw_s00, Is, kw, ss, ⟨dp, hdp, cw_kp_F ks (fun z => absurd z.2.1 (by decide)) (by decide) f1014⟩, cw_Lv_kp (fun l r z => cw_sk_kp ks id (cw_sk_kp (cw_kp_eq (EF := fun _ _ _ => False) (EA := fun _ => False) ((cw_o_sf f1012 (by decide)).trans ((cw_o_sf f1007 (by decide)).trans (ho1002.trans rfl)))) id z)) ss lv⟩
    · trivial
theorem cw_t187 (htb : ak_tbOK ak_CW tb) (hT : ak_Ty ak_CW s h) (hI : cw_I cw_XB s h) (hd : 7 ≤ d) (hx : x = 2 ∨ x = 14) (qx : s[x]? = some 59) (hb : 30 ≤ b ∧ b ≤ 40000) (hi : 0 ≤ iv.toInt ∧ iv.toInt ≤ 2499) (fs7 : cw_F h 43 9 7 (.ref (52 + x))) (fd : cw_F h 43 9 4 (.int dp)) (hdp : dp.toInt = (D : Int)) (hD20 : D ≤ 20) (lv : cw_Lv D b (cw_o h)) (hZ : cw_Z False x nt b (cw_o h))  : cw_K ak_CW (fun s' r h' => r = none ∧ cw_WQ (D) b s h s' h') tb d (cw_nW 143 none) [.ref (52 + 43), .int 187, .int iv] s h := by
  obtain ⟨d, rfl⟩ : ∃ e, d = e + 1 := ⟨d - 1, by omega⟩
  have hB := hI.1
  refine cw_m (con := cw_nW 143 none) aj_m143_at (Nat.le_of_ble_eq_true rfl) ?_
  show cw_W _ _ _ _ _ _ _ _ _ _ 0 [(0, .ref (52 + 43)), (1, .int 187), (2, .int iv)] []
  refine cw_n aj_d143 rfl rfl ?_
  refine cw_tsw (tgt := 79) (a := (187 : Int)) aj_d143 rfl rfl ⟨by decide, by decide⟩ rfl rfl ?_
  refine cw_n aj_d143 rfl rfl ?_
  refine cw_n aj_d143 rfl rfl ?_
  refine cw_g (i := 43) (v := .ref (52 + x)) htb.1 aj_d143 rfl rfl (by decide) fs7 ?_
  refine cw_n aj_d143 rfl rfl ?_
  obtain ⟨v1021, f1021, g1021⟩ := cw_tyF (i := 43) (t := 61) (c := 9) (k := 13) (y := (.inl ((-2147483648), 2147483647))) hT (cw_s0 hB rfl) rfl rfl rfl
  obtain ⟨x1021, rfl, b1021⟩ := ak_gi g1021
  dsimp only [ak_win] at b1021
  refine cw_g (i := 43) (v := .int x1021) htb.1 aj_d143 rfl rfl (by decide) f1021 ?_
  refine cw_k0 (i := x) (t := 59) (con' := cw_nW 63 (some (.inr (some ([58], true))))) aj_d143 htb hT rfl rfl [_] rfl rfl qx rfl (Nat.le_of_ble_eq_true rfl) ⟨by decide, by decide⟩ (cw_rowsOf (x := x1021) htb hT hB (by omega) hx (cw_Z_eq rfl hZ)) ?_
  rintro ru1022 hu1022 hTu1022 ⟨eu1022, zu1022⟩ -
  obtain rfl := eu1022.symm
  rcases zu1022 with ⟨-, rfl⟩ | ⟨-, j, rfl, qj, okj⟩
  · skip
    show cw_W _ _ _ _ _ _ _ _ _ _ 91 [(0, .ref (52 + 43)), (1, .int 187), (2, .int iv)] [.null, .ref (52 + 43)]
    refine cw_k0 (i := 43) (t := 61) (con' := ap_c145) aj_d143 htb hTu1022 rfl rfl [_] rfl rfl (cw_s0 hB rfl) rfl (Nat.le_of_ble_eq_true rfl) ⟨by decide, by decide⟩ (cw_a1 (by omega) (ap_W_145 htb (cw_SP1c _ _ rfl rfl) cw_hK) hTu1022 hB rfl ⟨(cw_gR (cw_s0 hB rfl) (by decide) (by decide)), rfl, trivial⟩) ?_
    rintro ru1023 h1023 hT1023 ho1023 hRu1023
    have f1024 : cw_F h1023 43 9 7 (.ref (52 + x)) := cw_trF ho1023 (by decide) fs7
    have f1025 : cw_F h1023 43 9 4 (.int dp) := cw_trF ho1023 (by decide) fd
    obtain rfl := cw_rN hRu1023
    show cw_W _ _ _ _ _ _ _ _ _ _ 94 [(0, .ref (52 + 43)), (1, .int 187), (2, .int iv)] []
    refine cw_n aj_d143 rfl rfl ?_
    refine cw_Wr aj_d143 rfl rfl hT1023 ?_ ?_
    · exact ⟨rfl, cw_s00, cw_I_eq (ho1023.trans rfl) hI, cw_kp_eq (ho1023.trans rfl), (fun a z => cw_ok_mono (by omega) (cw_ok_eq (ho1023.trans rfl) z)), ⟨dp, hdp, f1025⟩, cw_Lv_kp (fun l r z => cw_sk_kp (cw_kp_eq (EF := fun _ _ _ => False) (EA := fun _ => False) (ho1023.trans rfl)) id z) (fun a z => cw_ok_mono (by omega) (cw_ok_eq (ho1023.trans rfl) z)) lv⟩
    · trivial
  · skip
    show cw_W _ _ _ _ _ _ _ _ _ _ 91 [(0, .ref (52 + 43)), (1, .int 187), (2, .int iv)] [.ref (52 + j), .ref (52 + 43)]
    refine cw_k0 (i := 43) (t := 61) (con' := ap_c145) aj_d143 htb hTu1022 rfl rfl [_] rfl rfl (cw_s0 hB rfl) rfl (Nat.le_of_ble_eq_true rfl) ⟨by decide, by decide⟩ (cw_a1 (by omega) (ap_W_145 htb (cw_SP1c _ _ rfl rfl) cw_hK) hTu1022 hB rfl ⟨(cw_gR (cw_s0 hB rfl) (by decide) (by decide)), (cw_gR qj (by decide) (by decide)), trivial⟩) ?_
    rintro ru1026 h1026 hT1026 ho1026 hRu1026
    have f1027 : cw_F h1026 43 9 7 (.ref (52 + x)) := cw_trF ho1026 (by decide) fs7
    have f1028 : cw_F h1026 43 9 4 (.int dp) := cw_trF ho1026 (by decide) fd
    obtain rfl := cw_rN hRu1026
    show cw_W _ _ _ _ _ _ _ _ _ _ 94 [(0, .ref (52 + 43)), (1, .int 187), (2, .int iv)] []
    refine cw_n aj_d143 rfl rfl ?_
    refine cw_Wr aj_d143 rfl rfl hT1026 ?_ ?_
    · exact ⟨rfl, cw_s00, cw_I_eq (ho1026.trans rfl) hI, cw_kp_eq (ho1026.trans rfl), (fun a z => cw_ok_mono (by omega) (cw_ok_eq (ho1026.trans rfl) z)), ⟨dp, hdp, f1028⟩, cw_Lv_kp (fun l r z => cw_sk_kp (cw_kp_eq (EF := fun _ _ _ => False) (EA := fun _ => False) (ho1026.trans rfl)) id z) (fun a z => cw_ok_mono (by omega) (cw_ok_eq (ho1026.trans rfl) z)) lv⟩
    · trivial
theorem cw_t188 (htb : ak_tbOK ak_CW tb) (hT : ak_Ty ak_CW s h) (hI : cw_I cw_XB s h) (hd : 7 ≤ d) (hx : x = 2 ∨ x = 14) (qx : s[x]? = some 59) (hb : 30 ≤ b ∧ b ≤ 40000) (hi : 0 ≤ iv.toInt ∧ iv.toInt ≤ 2499) (fs7 : cw_F h 43 9 7 (.ref (52 + x))) (fd : cw_F h 43 9 4 (.int dp)) (hdp : dp.toInt = (D : Int)) (hD20 : D ≤ 20) (lv : cw_Lv D b (cw_o h)) (hZ : cw_Z False x nt b (cw_o h))  : cw_K ak_CW (fun s' r h' => r = none ∧ cw_WQ (D) b s h s' h') tb d (cw_nW 143 none) [.ref (52 + 43), .int 188, .int iv] s h := by
  obtain ⟨d, rfl⟩ : ∃ e, d = e + 1 := ⟨d - 1, by omega⟩
  have hB := hI.1
  refine cw_m (con := cw_nW 143 none) aj_m143_at (Nat.le_of_ble_eq_true rfl) ?_
  show cw_W _ _ _ _ _ _ _ _ _ _ 0 [(0, .ref (52 + 43)), (1, .int 188), (2, .int iv)] []
  refine cw_n aj_d143 rfl rfl ?_
  refine cw_tsw (tgt := 97) (a := (188 : Int)) aj_d143 rfl rfl ⟨by decide, by decide⟩ rfl rfl ?_
  refine cw_n aj_d143 rfl rfl ?_
  refine cw_n aj_d143 rfl rfl ?_
  refine cw_g (i := 43) (v := .ref (52 + x)) htb.1 aj_d143 rfl rfl (by decide) fs7 ?_
  refine cw_n aj_d143 rfl rfl ?_
  obtain ⟨v1029, f1029, g1029⟩ := cw_tyF (i := 43) (t := 61) (c := 9) (k := 13) (y := (.inl ((-2147483648), 2147483647))) hT (cw_s0 hB rfl) rfl rfl rfl
  obtain ⟨x1029, rfl, b1029⟩ := ak_gi g1029
  dsimp only [ak_win] at b1029
  refine cw_g (i := 43) (v := .int x1029) htb.1 aj_d143 rfl rfl (by decide) f1029 ?_
  refine cw_k0 (i := x) (t := 59) (con' := cw_nW 63 (some (.inr (some ([58], true))))) aj_d143 htb hT rfl rfl [_] rfl rfl qx rfl (Nat.le_of_ble_eq_true rfl) ⟨by decide, by decide⟩ (cw_rowsOf (x := x1029) htb hT hB (by omega) hx (cw_Z_eq rfl hZ)) ?_
  rintro ru1030 hu1030 hTu1030 ⟨eu1030, zu1030⟩ -
  obtain rfl := eu1030.symm
  rcases zu1030 with ⟨-, rfl⟩ | ⟨-, j, rfl, qj, okj⟩
  · skip
    show cw_W _ _ _ _ _ _ _ _ _ _ 109 [(0, .ref (52 + 43)), (1, .int 188), (2, .int iv)] [.null, .ref (52 + 43)]
    refine cw_k0 (i := 43) (t := 61) (con' := ap_c146) aj_d143 htb hTu1030 rfl rfl [_] rfl rfl (cw_s0 hB rfl) rfl (Nat.le_of_ble_eq_true rfl) ⟨by decide, by decide⟩ (cw_a1 (by omega) (ap_W_146 htb (cw_SP1c _ _ rfl rfl) cw_hK) hTu1030 hB rfl ⟨(cw_gR (cw_s0 hB rfl) (by decide) (by decide)), rfl, trivial⟩) ?_
    rintro ru1031 h1031 hT1031 ho1031 hRu1031
    have f1032 : cw_F h1031 43 9 7 (.ref (52 + x)) := cw_trF ho1031 (by decide) fs7
    have f1033 : cw_F h1031 43 9 4 (.int dp) := cw_trF ho1031 (by decide) fd
    obtain rfl := cw_rN hRu1031
    show cw_W _ _ _ _ _ _ _ _ _ _ 112 [(0, .ref (52 + 43)), (1, .int 188), (2, .int iv)] []
    refine cw_n aj_d143 rfl rfl ?_
    refine cw_Wr aj_d143 rfl rfl hT1031 ?_ ?_
    · exact ⟨rfl, cw_s00, cw_I_eq (ho1031.trans rfl) hI, cw_kp_eq (ho1031.trans rfl), (fun a z => cw_ok_mono (by omega) (cw_ok_eq (ho1031.trans rfl) z)), ⟨dp, hdp, f1033⟩, cw_Lv_kp (fun l r z => cw_sk_kp (cw_kp_eq (EF := fun _ _ _ => False) (EA := fun _ => False) (ho1031.trans rfl)) id z) (fun a z => cw_ok_mono (by omega) (cw_ok_eq (ho1031.trans rfl) z)) lv⟩
    · trivial
  · skip
    show cw_W _ _ _ _ _ _ _ _ _ _ 109 [(0, .ref (52 + 43)), (1, .int 188), (2, .int iv)] [.ref (52 + j), .ref (52 + 43)]
    refine cw_k0 (i := 43) (t := 61) (con' := ap_c146) aj_d143 htb hTu1030 rfl rfl [_] rfl rfl (cw_s0 hB rfl) rfl (Nat.le_of_ble_eq_true rfl) ⟨by decide, by decide⟩ (cw_a1 (by omega) (ap_W_146 htb (cw_SP1c _ _ rfl rfl) cw_hK) hTu1030 hB rfl ⟨(cw_gR (cw_s0 hB rfl) (by decide) (by decide)), (cw_gR qj (by decide) (by decide)), trivial⟩) ?_
    rintro ru1034 h1034 hT1034 ho1034 hRu1034
    have f1035 : cw_F h1034 43 9 7 (.ref (52 + x)) := cw_trF ho1034 (by decide) fs7
    have f1036 : cw_F h1034 43 9 4 (.int dp) := cw_trF ho1034 (by decide) fd
    obtain rfl := cw_rN hRu1034
    show cw_W _ _ _ _ _ _ _ _ _ _ 112 [(0, .ref (52 + 43)), (1, .int 188), (2, .int iv)] []
    refine cw_n aj_d143 rfl rfl ?_
    refine cw_Wr aj_d143 rfl rfl hT1034 ?_ ?_
    · exact ⟨rfl, cw_s00, cw_I_eq (ho1034.trans rfl) hI, cw_kp_eq (ho1034.trans rfl), (fun a z => cw_ok_mono (by omega) (cw_ok_eq (ho1034.trans rfl) z)), ⟨dp, hdp, f1036⟩, cw_Lv_kp (fun l r z => cw_sk_kp (cw_kp_eq (EF := fun _ _ _ => False) (EA := fun _ => False) (ho1034.trans rfl)) id z) (fun a z => cw_ok_mono (by omega) (cw_ok_eq (ho1034.trans rfl) z)) lv⟩
    · trivial
theorem cw_t189 (htb : ak_tbOK ak_CW tb) (hT : ak_Ty ak_CW s h) (hI : cw_I cw_XB s h) (hd : 7 ≤ d) (hx : x = 2 ∨ x = 14) (qx : s[x]? = some 59) (hb : 30 ≤ b ∧ b ≤ 40000) (hi : 0 ≤ iv.toInt ∧ iv.toInt ≤ 2499) (fs7 : cw_F h 43 9 7 (.ref (52 + x))) (fd : cw_F h 43 9 4 (.int dp)) (hdp : dp.toInt = (D : Int)) (hD20 : D ≤ 20) (lv : cw_Lv D b (cw_o h)) (hZ : cw_Z False x nt b (cw_o h))  : cw_K ak_CW (fun s' r h' => r = none ∧ cw_WQ (D) b s h s' h') tb d (cw_nW 143 none) [.ref (52 + 43), .int 189, .int iv] s h := by
  obtain ⟨d, rfl⟩ : ∃ e, d = e + 1 := ⟨d - 1, by omega⟩
  have hB := hI.1
  refine cw_m (con := cw_nW 143 none) aj_m143_at (Nat.le_of_ble_eq_true rfl) ?_
  show cw_W _ _ _ _ _ _ _ _ _ _ 0 [(0, .ref (52 + 43)), (1, .int 189), (2, .int iv)] []
  refine cw_n aj_d143 rfl rfl ?_
  refine cw_tsw (tgt := 200) (a := (189 : Int)) aj_d143 rfl rfl ⟨by decide, by decide⟩ rfl rfl ?_
  refine cw_Wr aj_d143 rfl rfl hT ?_ ?_
  · exact ⟨rfl, cw_s00, cw_I_eq rfl hI, cw_kp_eq rfl, (fun a z => cw_ok_mono (by omega) (cw_ok_eq rfl z)), ⟨dp, hdp, fd⟩, cw_Lv_kp (fun l r z => cw_sk_kp (cw_kp_eq (EF := fun _ _ _ => False) (EA := fun _ => False) rfl) id z) (fun a z => cw_ok_mono (by omega) (cw_ok_eq rfl z)) lv⟩
  · trivial
theorem cw_t191 (htb : ak_tbOK ak_CW tb) (hT : ak_Ty ak_CW s h) (hI : cw_I cw_XB s h) (hd : 7 ≤ d) (hx : x = 2 ∨ x = 14) (qx : s[x]? = some 59) (hb : 30 ≤ b ∧ b ≤ 40000) (hi : 0 ≤ iv.toInt ∧ iv.toInt ≤ 2499) (fs7 : cw_F h 43 9 7 (.ref (52 + x))) (fd : cw_F h 43 9 4 (.int dp)) (hdp : dp.toInt = (D : Int)) (hD20 : D ≤ 20) (lv : cw_Lv D b (cw_o h)) (hZ : cw_Z False x nt b (cw_o h))  : cw_K ak_CW (fun s' r h' => r = none ∧ cw_WQ (D) b s h s' h') tb d (cw_nW 143 none) [.ref (52 + 43), .int 191, .int iv] s h := by
  obtain ⟨d, rfl⟩ : ∃ e, d = e + 1 := ⟨d - 1, by omega⟩
  have hB := hI.1
  refine cw_m (con := cw_nW 143 none) aj_m143_at (Nat.le_of_ble_eq_true rfl) ?_
  show cw_W _ _ _ _ _ _ _ _ _ _ 0 [(0, .ref (52 + 43)), (1, .int 191), (2, .int iv)] []
  refine cw_n aj_d143 rfl rfl ?_
  refine cw_tsw (tgt := 200) (a := (191 : Int)) aj_d143 rfl rfl ⟨by decide, by decide⟩ rfl rfl ?_
  refine cw_Wr aj_d143 rfl rfl hT ?_ ?_
  · exact ⟨rfl, cw_s00, cw_I_eq rfl hI, cw_kp_eq rfl, (fun a z => cw_ok_mono (by omega) (cw_ok_eq rfl z)), ⟨dp, hdp, fd⟩, cw_Lv_kp (fun l r z => cw_sk_kp (cw_kp_eq (EF := fun _ _ _ => False) (EA := fun _ => False) rfl) id z) (fun a z => cw_ok_mono (by omega) (cw_ok_eq rfl z)) lv⟩
  · trivial
theorem cw_t190 (htb : ak_tbOK ak_CW tb) (hT : ak_Ty ak_CW s h) (hI : cw_I cw_XB s h) (hd : 7 ≤ d) (hx : x = 2 ∨ x = 14) (qx : s[x]? = some 59) (hb : 30 ≤ b ∧ b ≤ 40000) (hi : 0 ≤ iv.toInt ∧ iv.toInt ≤ 2499) (fs7 : cw_F h 43 9 7 (.ref (52 + x))) (fd : cw_F h 43 9 4 (.int dp)) (hdp : dp.toInt = (D : Int)) (hD20 : D ≤ 20) (lv : cw_Lv D b (cw_o h)) (hZ : cw_Z False x nt b (cw_o h))  : cw_K ak_CW (fun s' r h' => r = none ∧ cw_WQ (D) b s h s' h') tb d (cw_nW 143 none) [.ref (52 + 43), .int 190, .int iv] s h := by
  obtain ⟨d, rfl⟩ : ∃ e, d = e + 1 := ⟨d - 1, by omega⟩
  have hB := hI.1
  refine cw_m (con := cw_nW 143 none) aj_m143_at (Nat.le_of_ble_eq_true rfl) ?_
  show cw_W _ _ _ _ _ _ _ _ _ _ 0 [(0, .ref (52 + 43)), (1, .int 190), (2, .int iv)] []
  refine cw_n aj_d143 rfl rfl ?_
  refine cw_tsw (tgt := 115) (a := (190 : Int)) aj_d143 rfl rfl ⟨by decide, by decide⟩ rfl rfl ?_
  refine cw_n aj_d143 rfl rfl ?_
  refine cw_g (i := 43) (v := .ref (52 + x)) htb.1 aj_d143 rfl rfl (by decide) fs7 ?_
  refine cw_n aj_d143 rfl rfl ?_
  refine cw_k0 (i := x) (t := 59) (con' := ap_c148) aj_d143 htb hT rfl rfl [_] rfl rfl qx rfl (Nat.le_of_ble_eq_true rfl) ⟨by decide, by decide⟩ (cw_a1 (by omega) (ap_W_148 htb (cw_SP1c _ _ rfl rfl) cw_hK) hT hB rfl ⟨(cw_gR qx (by decide) (by decide)), (cw_gR (cw_s0 hB rfl) (by decide) (by decide)), trivial⟩) ?_
  rintro ru1037 h1037 hT1037 ho1037 hRu1037
  have f1038 : cw_F h1037 43 9 7 (.ref (52 + x)) := cw_trF ho1037 (by decide) fs7
  have f1039 : cw_F h1037 43 9 4 (.int dp) := cw_trF ho1037 (by decide) fd
  obtain rfl := cw_rN hRu1037
  show cw_W _ _ _ _ _ _ _ _ _ _ 123 [(0, .ref (52 + 43)), (1, .int 190), (2, .int iv)] []
  refine cw_n aj_d143 rfl rfl ?_
  refine cw_g (i := 43) (v := .ref (52 + x)) htb.1 aj_d143 rfl rfl (by decide) f1038 ?_
  obtain ⟨v1040, f1040, g1040⟩ := cw_tyF (i := x) (t := 59) (c := 7) (k := 14) (y := (.inl (0, 1024))) hT1037 qx rfl rfl rfl
  obtain ⟨x1040, rfl, b1040⟩ := ak_gi g1040
  dsimp only [ak_win] at b1040
  refine cw_g (i := x) (v := .int x1040) htb.1 aj_d143 rfl rfl (by decide) f1040 ?_
  refine cw_z (tgt := 200) aj_d143 rfl rfl (fun q1041 => ?_) (fun q1041 => ?_)
  · have q1041 : x1040.toInt ≠ (0 : Int) := aw_t_ne (a := x1040.toInt) (b := (0 : Int)) rfl rfl q1041
    refine cw_Wr aj_d143 rfl rfl hT1037 ?_ ?_
    · exact ⟨rfl, cw_s00, cw_I_eq (ho1037.trans rfl) hI, cw_kp_eq (ho1037.trans rfl), (fun a z => cw_ok_mono (by omega) (cw_ok_eq (ho1037.trans rfl) z)), ⟨dp, hdp, f1039⟩, cw_Lv_kp (fun l r z => cw_sk_kp (cw_kp_eq (EF := fun _ _ _ => False) (EA := fun _ => False) (ho1037.trans rfl)) id z) (fun a z => cw_ok_mono (by omega) (cw_ok_eq (ho1037.trans rfl) z)) lv⟩
    · trivial
  · have q1041 : x1040.toInt = (0 : Int) := aw_t_ne (a := x1040.toInt) (b := (0 : Int)) rfl rfl q1041
    refine cw_n aj_d143 rfl rfl ?_
    obtain ⟨v1042, f1042, g1042⟩ := cw_tyF (i := 43) (t := 61) (c := 9) (k := 1) (y := (.inr (some ([56], false)))) hT1037 (cw_s0 hB rfl) rfl rfl rfl
    obtain rfl := cw_gu (i := 30) hB g1042 (by decide) (by decide) (by decide)
    refine cw_g (i := 43) (v := .ref (52 + 30)) htb.1 aj_d143 rfl rfl (by decide) f1042 ?_
    refine cw_n aj_d143 rfl rfl ?_
    refine cw_n aj_d143 rfl rfl ?_
    obtain ⟨v1043, f1043, g1043⟩ := cw_tyF (i := 43) (t := 61) (c := 9) (k := 0) (y := (.inr (some ([60], false)))) hT1037 (cw_s0 hB rfl) rfl rfl rfl
    obtain rfl := cw_gu (i := 26) hB g1043 (by decide) (by decide) (by decide)
    refine cw_g (i := 43) (v := .ref (52 + 26)) htb.1 aj_d143 rfl rfl (by decide) f1043 ?_
    refine cw_n aj_d143 rfl rfl ?_
    refine cw_g (i := 43) (v := .ref (52 + 30)) htb.1 aj_d143 rfl rfl (by decide) f1042 ?_
    refine cw_n aj_d143 rfl rfl ?_
    refine cw_k0 (i := 30) (t := 56) (con' := ap_c72) aj_d143 htb hT1037 rfl rfl [_] rfl rfl (cw_s0 hB rfl) rfl (Nat.le_of_ble_eq_true rfl) ⟨by decide, by decide⟩ (cw_a1 (by omega) (ap_W_72 htb (cw_SP1c _ _ rfl rfl) cw_hK) hT1037 hB rfl ⟨(cw_gR (cw_s0 hB rfl) (by decide) (by decide)), (cw_gw (a := iv.toInt) rfl (by omega) (by omega)), trivial⟩) ?_
    rintro ru1044 h1044 hT1044 ho1044 hRu1044
    have f1045 : cw_F h1044 43 9 7 (.ref (52 + x)) := cw_trF ho1044 (by decide) f1038
    have f1046 : cw_F h1044 43 9 4 (.int dp) := cw_trF ho1044 (by decide) f1039
    obtain ⟨x1047, rfl, bx1047⟩ := cw_rI hRu1044
    show cw_W _ _ _ _ _ _ _ _ _ _ 151 [(0, .ref (52 + 43)), (1, .int 190), (2, .int iv)] [.int x1047, .ref (52 + 26), .int (Int8.ofInt 7).toInt32, .ref (52 + 30)]
    refine cw_k0 (i := 26) (t := 60) (con' := ap_c43) aj_d143 htb hT1044 rfl rfl [_] rfl rfl (cw_s0 hB rfl) rfl (Nat.le_of_ble_eq_true rfl) ⟨by decide, by decide⟩ (cw_a1 (by omega) (ap_W_43 htb (cw_SP1c _ _ rfl rfl) cw_hK) hT1044 hB rfl ⟨(cw_gR (cw_s0 hB rfl) (by decide) (by decide)), (cw_full _), trivial⟩) ?_
    rintro ru1048 h1048 hT1048 ho1048 hRu1048
    have f1049 : cw_F h1048 43 9 7 (.ref (52 + x)) := cw_trF ho1048 (by decide) f1045
    have f1050 : cw_F h1048 43 9 4 (.int dp) := cw_trF ho1048 (by decide) f1046
    obtain ⟨x1051, rfl, bx1051⟩ := cw_rI hRu1048
    show cw_W _ _ _ _ _ _ _ _ _ _ 154 [(0, .ref (52 + 43)), (1, .int 190), (2, .int iv)] [.int x1051, .int (Int8.ofInt 7).toInt32, .ref (52 + 30)]
    obtain ⟨v1052, f1052, g1052⟩ := cw_tyF (i := 30) (t := 56) (c := 4) (k := 5) (y := (.inl ((-2147483648), 2147483647))) hT1048 (cw_s0 hB rfl) rfl rfl rfl
    obtain ⟨x1052, rfl, b1052⟩ := ak_gi g1052
    dsimp only [ak_win] at b1052
    obtain ⟨v1053, f1053, g1053⟩ := cw_tyF (i := 30) (t := 56) (c := 4) (k := 6) (y := (.inl ((-2147483648), 2147483647))) hT1048 (cw_s0 hB rfl) rfl rfl rfl
    obtain ⟨x1053, rfl, b1053⟩ := ak_gi g1053
    dsimp only [ak_win] at b1053
    refine cw_k0 (i := 30) (t := 56) (con' := ap_c44) aj_d143 htb hT1048 rfl rfl [_, _] rfl rfl (cw_s0 hB rfl) rfl (Nat.le_of_ble_eq_true rfl) ⟨by decide, by decide⟩ (cw_failW htb hT1048 hB (by omega) (Int8.ofInt 7).toInt32 x1051) ?_
    rintro rf hf hTf ⟨rfl, qf⟩ hRf
    have If := cw_failI f1052 f1053 (by decide) qf (cw_I_eq (ho1048.trans (ho1044.trans (ho1037.trans rfl))) hI)
    have kf : cw_kp (fun _ c k => c = 4 ∧ k ≠ 4) cw_E0 (cw_o h) (cw_o hf) := by
      rcases qf with rfl | rfl
      · exact cw_kp_eq (ho1048.trans (ho1044.trans (ho1037.trans rfl)))
      · exact cw_kp_tr (cw_kp_eq (ho1048.trans (ho1044.trans (ho1037.trans rfl)))) (cw_kp_tr (cw_kp_sf f1052 ⟨rfl, by decide⟩) (cw_kp_sf (cw_sf_ne f1053 (Or.inr (by decide))) ⟨rfl, by decide⟩))
    show cw_W _ _ _ _ _ _ _ _ _ _ 157 [(0, .ref (52 + 43)), (1, .int 190), (2, .int iv)] []
    refine cw_n aj_d143 rfl rfl ?_
    refine cw_Wr aj_d143 rfl rfl hTf ?_ ?_
    · exact ⟨rfl, cw_s00, If, cw_kf kf, cw_sy_mono (cw_sy_n kf (fun _ _ z => absurd z.1 (by decide))) (by omega), ⟨dp, hdp, cw_kp_F kf (by decide) (by decide) fd⟩, cw_Lv_kp (fun l r z => cw_sk_kp kf id z) (cw_sy_mono (cw_sy_n kf (fun _ _ z => absurd z.1 (by decide))) (by omega)) lv⟩
    · trivial
theorem cw_t192 (htb : ak_tbOK ak_CW tb) (hT : ak_Ty ak_CW s h) (hI : cw_I cw_XB s h) (hd : 7 ≤ d) (hx : x = 2 ∨ x = 14) (qx : s[x]? = some 59) (hb : 30 ≤ b ∧ b ≤ 40000) (hi : 0 ≤ iv.toInt ∧ iv.toInt ≤ 2499) (fs7 : cw_F h 43 9 7 (.ref (52 + x))) (fd : cw_F h 43 9 4 (.int dp)) (hdp : dp.toInt = (D : Int)) (hD20 : D ≤ 20) (lv : cw_Lv D b (cw_o h)) (hZ : cw_Z False x nt b (cw_o h)) (hD : 1 ≤ D) : cw_K ak_CW (fun s' r h' => r = none ∧ cw_WQ (D - 1) b s h s' h') tb d (cw_nW 143 none) [.ref (52 + 43), .int 192, .int iv] s h := by
  obtain ⟨d, rfl⟩ : ∃ e, d = e + 1 := ⟨d - 1, by omega⟩
  have hB := hI.1
  refine cw_m (con := cw_nW 143 none) aj_m143_at (Nat.le_of_ble_eq_true rfl) ?_
  show cw_W _ _ _ _ _ _ _ _ _ _ 0 [(0, .ref (52 + 43)), (1, .int 192), (2, .int iv)] []
  refine cw_n aj_d143 rfl rfl ?_
  refine cw_tsw (tgt := 160) (a := (192 : Int)) aj_d143 rfl rfl ⟨by decide, by decide⟩ rfl rfl ?_
  refine cw_n aj_d143 rfl rfl ?_
  refine cw_n aj_d143 rfl rfl ?_
  refine cw_g (i := 43) (v := .int dp) htb.1 aj_d143 rfl rfl (by decide) fd ?_
  refine cw_n aj_d143 rfl rfl ?_
  refine cw_sub aj_d143 rfl (a := dp.toInt) (b := (1 : Int)) rfl rfl (by omega) (by omega) (fun x1054 ex1054 => ?_)
  refine cw_p (i := 43) (t := 61) (c := 9) (k := 4) (v := .int x1054) (y := (.inl ((-3000), 3000))) htb aj_d143 rfl rfl hT (cw_s0 hB rfl) rfl rfl rfl (cw_gw (a := x1054.toInt) rfl (by omega) (by omega)) (by decide) rfl rfl (fun hT1055 => ?_)
  have f1056 : cw_F (cw_sf h 43 4 (.int x1054)) 43 9 7 (.ref (52 + x)) := cw_sf_ne fs7 (Or.inr (by decide))
  have f1057 : cw_F (cw_sf h 43 4 (.int x1054)) 43 9 4 (.int x1054) := cw_sf_same fd
  obtain ⟨I5, k5⟩ := cw_I_w9 (w := .int x1054) hT hI (Or.inl rfl) fd
  have s5 : cw_sy b b (cw_o h) (cw_o (cw_sf h 43 4 (.int x1054))) := cw_sy_n k5 (fun _ _ z => absurd z.2.1 (by decide))
  have lv5 : cw_Lv D b (cw_o (cw_sf h 43 4 (.int x1054))) := cw_Lv_kp (fun l r z => cw_sk_kp k5 id z) s5 lv
  have Z5 : cw_Z False x nt b (cw_o (cw_sf h 43 4 (.int x1054))) := cw_Z_kp k5 (fun z => absurd z.2.1 (by decide)) (fun z => absurd z.2.1 (by decide)) (fun _ _ => id) s5 hZ
  obtain ⟨j, skj, okj⟩ := lv5 (D - 1) (by omega)
  have qj := cw_sk_q hT1055 hB (by omega) skj
  refine cw_n aj_d143 rfl rfl ?_
  refine cw_n aj_d143 rfl rfl ?_
  refine cw_g (i := 43) (v := .ref (52 + x)) htb.1 aj_d143 rfl rfl (by decide) f1056 ?_
  refine cw_n aj_d143 rfl rfl ?_
  obtain ⟨v1058, f1058, g1058⟩ := cw_tyF (i := 43) (t := 61) (c := 9) (k := 1) (y := (.inr (some ([56], false)))) hT1055 (cw_s0 hB rfl) rfl rfl rfl
  obtain rfl := cw_gu (i := 30) hB g1058 (by decide) (by decide) (by decide)
  refine cw_g (i := 43) (v := .ref (52 + 30)) htb.1 aj_d143 rfl rfl (by decide) f1058 ?_
  refine cw_n aj_d143 rfl rfl ?_
  refine cw_k0 (i := 30) (t := 56) (con' := ap_c40) aj_d143 htb hT1055 rfl rfl [_] rfl rfl (cw_s0 hB rfl) rfl (Nat.le_of_ble_eq_true rfl) ⟨by decide, by decide⟩ (cw_a1 (by omega) (ap_W_40 htb (cw_SP1c _ _ rfl rfl) cw_hK) hT1055 hB rfl ⟨(cw_gR (cw_s0 hB rfl) (by decide) (by decide)), (cw_full _), trivial⟩) ?_
  rintro ru1059 h1059 hT1059 ho1059 hRu1059
  have f1060 : cw_F h1059 43 9 7 (.ref (52 + x)) := cw_trF ho1059 (by decide) f1056
  have f1061 : cw_F h1059 43 9 4 (.int x1054) := cw_trF ho1059 (by decide) f1057
  obtain ⟨x1062, rfl, bx1062⟩ := cw_rI hRu1059
  show cw_W _ _ _ _ _ _ _ _ _ _ 183 [(0, .ref (52 + 43)), (1, .int 192), (2, .int iv)] [.int x1062, .ref (52 + x), .ref (52 + 43)]
  refine cw_k0 (i := x) (t := 59) (con' := cw_nW 63 (some (.inr (some ([58], true))))) aj_d143 htb hT1059 rfl rfl [_] rfl rfl qx rfl (Nat.le_of_ble_eq_true rfl) ⟨by decide, by decide⟩ (cw_rowsOf (x := x1062) htb hT1059 hB (by omega) hx (cw_Z_eq (ho1059.trans rfl) Z5)) ?_
  rintro ru1063 hu1063 hTu1063 ⟨eu1063, zu1063⟩ -
  obtain rfl := eu1063.symm
  rcases zu1063 with ⟨-, rfl⟩ | ⟨-, a, rfl, qa, oka⟩
  · skip
    show cw_W _ _ _ _ _ _ _ _ _ _ 186 [(0, .ref (52 + 43)), (1, .int 192), (2, .int iv)] [.null, .ref (52 + 43)]
    refine cw_n aj_d143 rfl rfl ?_
    refine cw_n aj_d143 rfl rfl ?_
    refine cw_g (i := 43) (v := .int x1054) htb.1 aj_d143 rfl rfl (by decide) f1061 ?_
    refine cw_k0 (i := 43) (t := 61) (con' := cw_nW 100 (some (.inr (some ([58], false))))) aj_d143 htb hTu1063 rfl rfl [_] rfl rfl (cw_s0 hB rfl) rfl (Nat.le_of_ble_eq_true rfl) ⟨by decide, by decide⟩ (cw_rowsE htb hTu1063 (cw_I_eq (ho1059.trans rfl) I5) (by omega) (x := x1054) ⟨by omega, by omega⟩ qj (by rw [show x1054.toInt.toNat = D - 1 from by omega]; exact (cw_sk_kp (cw_kp_eq (EF := fun _ _ _ => False) (EA := fun _ => False) (ho1059.trans rfl)) id skj))) ?_
    rintro rhT1064 hhT1064 hT1064 ⟨ehhT1064, erhT1064⟩ -
    subst erhT1064
    obtain rfl := ehhT1064.symm
    show cw_W _ _ _ _ _ _ _ _ _ _ 194 [(0, .ref (52 + 43)), (1, .int 192), (2, .int iv)] [.ref (52 + j), .null, .ref (52 + 43)]
    refine cw_k0 (i := 43) (t := 61) (con' := cw_nW 149 none) aj_d143 htb hT1064 rfl rfl [_, _] rfl rfl (cw_s0 hB rfl) rfl (Nat.le_of_ble_eq_true rfl) ⟨by decide, by decide⟩ (cw_endA0 (b := b) htb hT1064 (cw_I_eq (ho1059.trans rfl) I5) (by omega)) ?_
    rintro re he hTe ⟨rfl, Ie, ke, se⟩ -
    have ke := cw_kpE ((ho1059.trans rfl)).symm ke
    have se := cw_syE ((ho1059.trans rfl)).symm se
    show cw_W _ _ _ _ _ _ _ _ _ _ 197 [(0, .ref (52 + 43)), (1, .int 192), (2, .int iv)] []
    refine cw_n aj_d143 rfl rfl ?_
    refine cw_Wr aj_d143 rfl rfl hTe ?_ ?_
    · exact ⟨rfl, cw_s00, Ie, cw_kp_tr (cw_k5 k5) (cw_k6 ke), cw_sy_mono (cw_sy_tr s5 se) (by omega), ⟨x1054, by omega, cw_kp_F ke (by decide) (by decide) f1057⟩, cw_Lv_le (cw_Lv_kp (fun l r z => cw_sk_kp ke id z) (cw_sy_mono se (by omega)) lv5) (by omega)⟩
    · trivial
  · skip
    show cw_W _ _ _ _ _ _ _ _ _ _ 186 [(0, .ref (52 + 43)), (1, .int 192), (2, .int iv)] [.ref (52 + a), .ref (52 + 43)]
    refine cw_n aj_d143 rfl rfl ?_
    refine cw_n aj_d143 rfl rfl ?_
    refine cw_g (i := 43) (v := .int x1054) htb.1 aj_d143 rfl rfl (by decide) f1061 ?_
    refine cw_k0 (i := 43) (t := 61) (con' := cw_nW 100 (some (.inr (some ([58], false))))) aj_d143 htb hTu1063 rfl rfl [_] rfl rfl (cw_s0 hB rfl) rfl (Nat.le_of_ble_eq_true rfl) ⟨by decide, by decide⟩ (cw_rowsE htb hTu1063 (cw_I_eq (ho1059.trans rfl) I5) (by omega) (x := x1054) ⟨by omega, by omega⟩ qj (by rw [show x1054.toInt.toNat = D - 1 from by omega]; exact (cw_sk_kp (cw_kp_eq (EF := fun _ _ _ => False) (EA := fun _ => False) (ho1059.trans rfl)) id skj))) ?_
    rintro rhT1065 hhT1065 hT1065 ⟨ehhT1065, erhT1065⟩ -
    subst erhT1065
    obtain rfl := ehhT1065.symm
    show cw_W _ _ _ _ _ _ _ _ _ _ 194 [(0, .ref (52 + 43)), (1, .int 192), (2, .int iv)] [.ref (52 + j), .ref (52 + a), .ref (52 + 43)]
    refine cw_k0 (i := 43) (t := 61) (con' := cw_nW 149 none) aj_d143 htb hT1065 rfl rfl [_, _] rfl rfl (cw_s0 hB rfl) rfl (Nat.le_of_ble_eq_true rfl) ⟨by decide, by decide⟩ (cw_endA (b := b) htb hT1065 (cw_I_eq (ho1059.trans rfl) I5) (by omega) qa qj ⟨by omega, by omega⟩ (cw_ok_eq (ho1059.trans rfl) okj)) ?_
    rintro re he hTe ⟨rfl, Ie, ke, se⟩ -
    have ke := cw_kpE ((ho1059.trans rfl)).symm ke
    have se := cw_syE ((ho1059.trans rfl)).symm se
    show cw_W _ _ _ _ _ _ _ _ _ _ 197 [(0, .ref (52 + 43)), (1, .int 192), (2, .int iv)] []
    refine cw_n aj_d143 rfl rfl ?_
    refine cw_Wr aj_d143 rfl rfl hTe ?_ ?_
    · exact ⟨rfl, cw_s00, Ie, cw_kp_tr (cw_k5 k5) (cw_k6 ke), cw_sy_mono (cw_sy_tr s5 se) (by omega), ⟨x1054, by omega, cw_kp_F ke (by decide) (by decide) f1057⟩, cw_Lv_le (cw_Lv_kp (fun l r z => cw_sk_kp ke id z) (cw_sy_mono se (by omega)) lv5) (by omega)⟩
    · trivial
theorem cw_tO (htb : ak_tbOK ak_CW tb) (hT : ak_Ty ak_CW s h) (hI : cw_I cw_XB s h) (hd : 7 ≤ d) {v : Int32} (hv : v.toInt < 186 ∨ 193 ≤ v.toInt) (hx : x = 2 ∨ x = 14) (qx : s[x]? = some 59) (hb : 30 ≤ b ∧ b ≤ 40000) (hi : 0 ≤ iv.toInt ∧ iv.toInt ≤ 2499) (fs7 : cw_F h 43 9 7 (.ref (52 + x))) (fd : cw_F h 43 9 4 (.int dp)) (hdp : dp.toInt = (D : Int)) (hD20 : D ≤ 20) (lv : cw_Lv D b (cw_o h)) (hZ : cw_Z False x nt b (cw_o h))  : cw_K ak_CW (fun s' r h' => r = none ∧ cw_WQ (D) b s h s' h') tb d (cw_nW 143 none) [.ref (52 + 43), .int v, .int iv] s h := by
  obtain ⟨d, rfl⟩ : ∃ e, d = e + 1 := ⟨d - 1, by omega⟩
  have hB := hI.1
  refine cw_m (con := cw_nW 143 none) aj_m143_at (Nat.le_of_ble_eq_true rfl) ?_
  show cw_W _ _ _ _ _ _ _ _ _ _ 0 [(0, .ref (52 + 43)), (1, .int v), (2, .int iv)] []
  refine cw_n aj_d143 rfl rfl ?_
  refine cw_tsd (tgt := 200) (a := v.toInt) aj_d143 rfl rfl (by omega) rfl ?_
  refine cw_Wr aj_d143 rfl rfl hT ?_ ?_
  · exact ⟨rfl, cw_s00, cw_I_eq rfl hI, cw_kp_eq rfl, (fun a z => cw_ok_mono (by omega) (cw_ok_eq rfl z)), ⟨dp, hdp, fd⟩, cw_Lv_kp (fun l r z => cw_sk_kp (cw_kp_eq (EF := fun _ _ _ => False) (EA := fun _ => False) rfl) id z) (fun a z => cw_ok_mono (by omega) (cw_ok_eq rfl z)) lv⟩
  · trivial
/-- a note of what is told -/
theorem cw_told (htb : ak_tbOK ak_CW tb) (hT : ak_Ty ak_CW s h) (hI : cw_I cw_XB s h) (hd : 7 ≤ d) {v : Int32} (hv : v.toInt < 200) (hx : x = 2 ∨ x = 14) (qx : s[x]? = some 59) (hb : 30 ≤ b ∧ b ≤ 40000) (hi : 0 ≤ iv.toInt ∧ iv.toInt ≤ 2499) (fs7 : cw_F h 43 9 7 (.ref (52 + x))) (fd : cw_F h 43 9 4 (.int dp)) (hdp : dp.toInt = (D : Int)) (hD20 : D ≤ 20) (lv : cw_Lv D b (cw_o h)) (hZ : cw_Z False x nt b (cw_o h)) (hn : cw_nst D v.toInt = some D') : cw_K ak_CW (fun s' r h' => r = none ∧ cw_WQ D' b s h s' h') tb d (cw_nW 143 none) [.ref (52 + 43), .int v, .int iv] s h := by
  by_cases h0 : v.toInt < 186 ∨ 193 ≤ v.toInt
  · rw [cw_nst_o (by omega)] at hn
    cases hn
    exact cw_tO htb hT hI hd h0 hx qx hb hi fs7 fd hdp hD20 lv hZ
  · have : v.toInt = 186 ∨ v.toInt = 187 ∨ v.toInt = 188 ∨ v.toInt = 189 ∨ v.toInt = 190 ∨ v.toInt = 191 ∨ v.toInt = 192 := by omega
    rcases this with e | e | e | e | e | e | e
    · rw [e, cw_nst_o (by omega)] at hn
      cases hn
      obtain rfl := cw_lit (n := 186) e rfl
      exact cw_t186 htb hT hI hd hx qx hb hi fs7 fd hdp hD20 lv hZ
    · rw [e, cw_nst_o (by omega)] at hn
      cases hn
      obtain rfl := cw_lit (n := 187) e rfl
      exact cw_t187 htb hT hI hd hx qx hb hi fs7 fd hdp hD20 lv hZ
    · rw [e, cw_nst_o (by omega)] at hn
      cases hn
      obtain rfl := cw_lit (n := 188) e rfl
      exact cw_t188 htb hT hI hd hx qx hb hi fs7 fd hdp hD20 lv hZ
    · rw [e, cw_nst_o (by omega)] at hn
      cases hn
      obtain rfl := cw_lit (n := 189) e rfl
      exact cw_t189 htb hT hI hd hx qx hb hi fs7 fd hdp hD20 lv hZ
    · rw [e, cw_nst_o (by omega)] at hn
      cases hn
      obtain rfl := cw_lit (n := 190) e rfl
      exact cw_t190 htb hT hI hd hx qx hb hi fs7 fd hdp hD20 lv hZ
    · rw [e, cw_nst_o (by omega)] at hn
      cases hn
      obtain rfl := cw_lit (n := 191) e rfl
      exact cw_t191 htb hT hI hd hx qx hb hi fs7 fd hdp hD20 lv hZ
    · have hD : 1 ≤ D := by
        rw [e] at hn
        by_cases z : 1 ≤ D
        · exact z
        · unfold cw_nst at hn
          rw [if_neg (by decide), if_neg (by decide), if_pos rfl, if_neg z] at hn
          cases hn
      rw [e, cw_nst_e hD] at hn
      cases hn
      obtain rfl := cw_lit (n := 192) e rfl
      exact cw_t192 htb hT hI hd hx qx hb hi fs7 fd hdp hD20 lv hZ hD
/-- a note of a Q -/
theorem cw_query (htb : ak_tbOK ak_CW tb) (hT : ak_Ty ak_CW s h) (hI : cw_I cw_XB s h) (hd : 7 ≤ d) {v : Int32} (hv : 210 ≤ v.toInt) (hx : x = 2 ∨ x = 14) (qx : s[x]? = some 59) (hb : 30 ≤ b ∧ b ≤ 40000) (hi : 0 ≤ iv.toInt ∧ iv.toInt ≤ 2499) (fs7 : cw_F h 43 9 7 (.ref (52 + x))) (fd : cw_F h 43 9 4 (.int dp)) (hdp : dp.toInt = (D : Int)) (hD20 : D ≤ 20) (lv : cw_Lv D b (cw_o h)) (hZ : cw_Z False x nt b (cw_o h)) (a34 : cw_A h 34 0 2500 (.inl g)) (hg : v.toInt = 210 → 0 ≤ (g iv.toInt.toNat).toInt ∧ (g iv.toInt.toNat).toInt < nt.toInt) (hn : cw_nst D v.toInt = some D') : cw_K ak_CW (fun s' r h' => r = none ∧ cw_WQ D' b s h s' h') tb d (cw_nW 98 none) [.ref (52 + 43), .int v, .int iv] s h := by
  have n2 : (v.toInt = 211 ∨ v.toInt = 212 ∨ v.toInt = 213) → 2 ≤ D ∧ D' = D - 1 := by
    intro e
    by_cases z : 2 ≤ D
    · rw [cw_nst_2 e z] at hn
      cases hn
      exact ⟨z, rfl⟩
    · unfold cw_nst at hn
      rw [if_neg (by omega), if_pos e, if_neg z] at hn
      cases hn
  have n1 : (v.toInt = 214 ∨ v.toInt = 217 ∨ v.toInt = 223) → 1 ≤ D ∧ D' = D := by
    intro e
    by_cases z : 1 ≤ D
    · rw [cw_nst_k e z] at hn
      cases hn
      exact ⟨z, rfl⟩
    · unfold cw_nst at hn
      rw [if_neg (by omega), if_neg (by omega), if_neg (by omega), if_pos e, if_neg z] at hn
      cases hn
  have n0 : (v.toInt = 215 ∨ v.toInt = 216 ∨ 218 ≤ v.toInt ∧ v.toInt < 223 ∨ 224 ≤ v.toInt) → D' = D := by
    intro e
    unfold cw_nst at hn
    rw [if_neg (by omega), if_neg (by omega), if_neg (by omega), if_neg (by omega)] at hn
    cases hn
    rfl
  by_cases h0 : 224 ≤ v.toInt
  · obtain rfl := n0 (by omega)
    exact cw_q224 htb hT hI hd hx qx hb hi fs7 fd hdp hD20 lv h0
  · have : v.toInt = 210 ∨ v.toInt = 211 ∨ v.toInt = 212 ∨ v.toInt = 213 ∨ v.toInt = 214 ∨ v.toInt = 215 ∨ v.toInt = 216 ∨ v.toInt = 217 ∨ v.toInt = 218 ∨ v.toInt = 219 ∨ v.toInt = 220 ∨ v.toInt = 221 ∨ v.toInt = 222 ∨ v.toInt = 223 := by omega
    rcases this with e | e | e | e | e | e | e | e | e | e | e | e | e | e
    · have z : D ≤ 19 ∧ D' = D + 1 := by
        rw [e] at hn
        by_cases z : D ≤ 19
        · rw [cw_nst_l z] at hn
          cases hn
          exact ⟨z, rfl⟩
        · unfold cw_nst at hn
          rw [if_pos rfl, if_neg z] at hn
          cases hn
      obtain ⟨z, rfl⟩ := z
      have hg2 := hg e
      obtain rfl := cw_lit (n := 210) e rfl
      exact cw_q210 htb hT hI hd hx qx hb hi fs7 fd hdp hD20 lv z hZ a34 hg2
    · obtain ⟨z, rfl⟩ := n2 (by omega)
      obtain rfl := cw_lit (n := 211) e rfl
      exact cw_q211 htb hT hI hd hx qx hb hi fs7 fd hdp hD20 lv z
    · obtain ⟨z, rfl⟩ := n2 (by omega)
      obtain rfl := cw_lit (n := 212) e rfl
      exact cw_q212 htb hT hI hd hx qx hb hi fs7 fd hdp hD20 lv z
    · obtain ⟨z, rfl⟩ := n2 (by omega)
      obtain rfl := cw_lit (n := 213) e rfl
      exact cw_q213 htb hT hI hd hx qx hb hi fs7 fd hdp hD20 lv z
    · obtain ⟨z, rfl⟩ := n1 (by omega)
      obtain rfl := cw_lit (n := 214) e rfl
      exact cw_q214 htb hT hI hd hx qx hb hi fs7 fd hdp hD20 lv z
    · obtain rfl := n0 (by omega)
      obtain rfl := cw_lit (n := 215) e rfl
      exact cw_q215 htb hT hI hd hx qx hb hi fs7 fd hdp hD20 lv
    · obtain rfl := n0 (by omega)
      obtain rfl := cw_lit (n := 216) e rfl
      exact cw_q216 htb hT hI hd hx qx hb hi fs7 fd hdp hD20 lv
    · obtain ⟨z, rfl⟩ := n1 (by omega)
      obtain rfl := cw_lit (n := 217) e rfl
      exact cw_q217 htb hT hI hd hx qx hb hi fs7 fd hdp hD20 lv z
    · obtain rfl := n0 (by omega)
      obtain rfl := cw_lit (n := 218) e rfl
      exact cw_q218 htb hT hI hd hx qx hb hi fs7 fd hdp hD20 lv
    · obtain rfl := n0 (by omega)
      obtain rfl := cw_lit (n := 219) e rfl
      exact cw_q219 htb hT hI hd hx qx hb hi fs7 fd hdp hD20 lv
    · obtain rfl := n0 (by omega)
      obtain rfl := cw_lit (n := 220) e rfl
      exact cw_q220 htb hT hI hd hx qx hb hi fs7 fd hdp hD20 lv
    · obtain rfl := n0 (by omega)
      obtain rfl := cw_lit (n := 221) e rfl
      exact cw_q221 htb hT hI hd hx qx hb hi fs7 fd hdp hD20 lv
    · obtain rfl := n0 (by omega)
      obtain rfl := cw_lit (n := 222) e rfl
      exact cw_q222 htb hT hI hd hx qx hb hi fs7 fd hdp hD20 lv
    · obtain ⟨z, rfl⟩ := n1 (by omega)
      obtain rfl := cw_lit (n := 223) e rfl
      exact cw_q223 htb hT hI hd hx qx hb hi fs7 fd hdp hD20 lv z
end CW80
