/-! THE CHECK OF A Q, BY HAND (printed by wip/p2/cwalk/g83.py) -/
section CW83
variable {T : ak_TT} {Φ : List Nat → Option Value → aj_H → Prop} {tb : aj_T} {con : ak_Con} {d : Nat} {s s' s2 s0 : List Nat} {h h' h2 h0 h1 : aj_H} {i j p q x c k l l' : Nat} {b b' b2 : Int} {o o' o2 o0 : cw_O} {EF : Nat → Nat → Nat → Prop} {EA : Nat → Prop} {n nt n0 iv y y' v w t wd : Int32} {f g g0 : Nat → Int32} {B N : Prop} {bb : Int}
theorem cw_failB {m p : Int32} (htb : ak_tbOK ak_C1 tb) (hT : ak_Ty ak_C1 s h) (hB : cw_B s) (hd : 1 ≤ d) (hm : m.toInt ≠ 0) : cw_K ak_C1 (fun s' r h' => s' = s ∧ (h' = h ∨ h' = cw_sf (cw_sf h 30 5 (.int m)) 30 6 (.int p)) ∧ cw_bado (cw_o h')) tb d (cw_nC 44 none) [.ref (52 + 30), .int m, .int p] s h := by
  obtain ⟨d, rfl⟩ : ∃ e, d = e + 1 := ⟨d - 1, by omega⟩
  refine cw_m (con := cw_nC 44 none) aj_m44_at (Nat.le_of_ble_eq_true rfl) ?_
  show cw_W _ _ _ _ _ _ _ _ _ _ 0 [(0, .ref (52 + 30)), (1, .int m), (2, .int p)] []
  refine cw_n aj_d44 rfl rfl ?_
  obtain ⟨v1001, f1001, g1001⟩ := cw_tyF (i := 30) (t := 56) (c := 4) (k := 5) (y := (.inl ((-2147483648), 2147483647))) hT (cw_s0 hB rfl) rfl rfl rfl
  obtain ⟨x1001, rfl, b1001⟩ := ak_gi g1001
  dsimp only [ak_win] at b1001
  refine cw_g (i := 30) (v := .int x1001) htb.1 aj_d44 rfl rfl (by decide) f1001 ?_
  refine cw_z (tgt := 31) aj_d44 rfl rfl (fun q1002 => ?_) (fun q1002 => ?_)
  · have q1002 : x1001.toInt = (0 : Int) := aw_t_eq (a := x1001.toInt) (b := (0 : Int)) rfl rfl q1002
    refine cw_n aj_d44 rfl rfl ?_
    refine cw_n aj_d44 rfl rfl ?_
    refine cw_p (i := 30) (t := 56) (c := 4) (k := 5) (v := .int m) (y := (.inl ((-2147483648), 2147483647))) htb aj_d44 rfl rfl hT (cw_s0 hB rfl) rfl rfl rfl (cw_full _) (by decide) rfl rfl (fun hT1003 => ?_)
    have f1004 : cw_F (cw_sf h 30 5 (.int m)) 30 4 5 (.int m) := cw_sf_same f1001
    refine cw_n aj_d44 rfl rfl ?_
    refine cw_n aj_d44 rfl rfl ?_
    refine cw_p (i := 30) (t := 56) (c := 4) (k := 6) (v := .int p) (y := (.inl ((-2147483648), 2147483647))) htb aj_d44 rfl rfl hT1003 (cw_s0 hB rfl) rfl rfl rfl (cw_full _) (by decide) rfl rfl (fun hT1005 => ?_)
    obtain ⟨v1006, f1006, g1006⟩ := cw_tyF (i := 30) (t := 56) (c := 4) (k := 6) (y := (.inl ((-2147483648), 2147483647))) hT1003 (cw_s0 hB rfl) rfl rfl rfl
    obtain ⟨x1006, rfl, b1006⟩ := ak_gi g1006
    dsimp only [ak_win] at b1006
    have f1007 : cw_F (cw_sf (cw_sf h 30 5 (.int m)) 30 6 (.int p)) 30 4 5 (.int m) := cw_sf_ne f1004 (Or.inr (by decide))
    have f1008 : cw_F (cw_sf (cw_sf h 30 5 (.int m)) 30 6 (.int p)) 30 4 6 (.int p) := cw_sf_same f1006
    refine cw_Wr aj_d44 rfl rfl hT1005 ?_ ?_
    · exact ⟨rfl, Or.inr rfl, ⟨m, by omega, (cw_fo_F (by decide)).mpr f1007⟩⟩
    · trivial
  · have q1002 : x1001.toInt ≠ (0 : Int) := aw_t_eq (a := x1001.toInt) (b := (0 : Int)) rfl rfl q1002
    refine cw_n aj_d44 rfl rfl ?_
    refine cw_n aj_d44 rfl rfl ?_
    obtain ⟨v1009, f1009, g1009⟩ := cw_tyF (i := 30) (t := 56) (c := 4) (k := 6) (y := (.inl ((-2147483648), 2147483647))) hT (cw_s0 hB rfl) rfl rfl rfl
    obtain ⟨x1009, rfl, b1009⟩ := ak_gi g1009
    dsimp only [ak_win] at b1009
    refine cw_g (i := 30) (v := .int x1009) htb.1 aj_d44 rfl rfl (by decide) f1009 ?_
    refine cw_c (tgt := 31) aj_d44 rfl rfl (fun q1010 => ?_) (fun q1010 => ?_)
    · have q1010 : p.toInt < x1009.toInt := aw_t_lt (a := p.toInt) (b := x1009.toInt) rfl rfl q1010
      refine cw_n aj_d44 rfl rfl ?_
      refine cw_n aj_d44 rfl rfl ?_
      refine cw_p (i := 30) (t := 56) (c := 4) (k := 5) (v := .int m) (y := (.inl ((-2147483648), 2147483647))) htb aj_d44 rfl rfl hT (cw_s0 hB rfl) rfl rfl rfl (cw_full _) (by decide) rfl rfl (fun hT1011 => ?_)
      have f1012 : cw_F (cw_sf h 30 5 (.int m)) 30 4 6 (.int x1009) := cw_sf_ne f1009 (Or.inr (by decide))
      have f1013 : cw_F (cw_sf h 30 5 (.int m)) 30 4 5 (.int m) := cw_sf_same f1001
      refine cw_n aj_d44 rfl rfl ?_
      refine cw_n aj_d44 rfl rfl ?_
      refine cw_p (i := 30) (t := 56) (c := 4) (k := 6) (v := .int p) (y := (.inl ((-2147483648), 2147483647))) htb aj_d44 rfl rfl hT1011 (cw_s0 hB rfl) rfl rfl rfl (cw_full _) (by decide) rfl rfl (fun hT1014 => ?_)
      have f1015 : cw_F (cw_sf (cw_sf h 30 5 (.int m)) 30 6 (.int p)) 30 4 5 (.int m) := cw_sf_ne f1013 (Or.inr (by decide))
      have f1016 : cw_F (cw_sf (cw_sf h 30 5 (.int m)) 30 6 (.int p)) 30 4 6 (.int p) := cw_sf_same f1012
      refine cw_Wr aj_d44 rfl rfl hT1014 ?_ ?_
      · exact ⟨rfl, Or.inr rfl, ⟨m, by omega, (cw_fo_F (by decide)).mpr f1015⟩⟩
      · trivial
    · have q1010 : p.toInt ≥ x1009.toInt := aw_t_lt (a := p.toInt) (b := x1009.toInt) rfl rfl q1010
      refine cw_n aj_d44 rfl rfl ?_
      refine cw_n aj_d44 rfl rfl ?_
      refine cw_g (i := 30) (v := .int x1009) htb.1 aj_d44 rfl rfl (by decide) f1009 ?_
      refine cw_c (tgt := 41) aj_d44 rfl rfl (fun q1017 => ?_) (fun q1017 => ?_)
      · have q1017 : p.toInt ≠ x1009.toInt := aw_t_ne (a := p.toInt) (b := x1009.toInt) rfl rfl q1017
        refine cw_Wr aj_d44 rfl rfl hT ?_ ?_
        · exact ⟨rfl, Or.inl rfl, ⟨x1001, by omega, (cw_fo_F (by decide)).mpr f1001⟩⟩
        · trivial
      · have q1017 : p.toInt = x1009.toInt := aw_t_ne (a := p.toInt) (b := x1009.toInt) rfl rfl q1017
        refine cw_n aj_d44 rfl rfl ?_
        refine cw_n aj_d44 rfl rfl ?_
        refine cw_g (i := 30) (v := .int x1001) htb.1 aj_d44 rfl rfl (by decide) f1001 ?_
        refine cw_c (tgt := 41) aj_d44 rfl rfl (fun q1018 => ?_) (fun q1018 => ?_)
        · have q1018 : m.toInt ≥ x1001.toInt := aw_t_ge (a := m.toInt) (b := x1001.toInt) rfl rfl q1018
          refine cw_Wr aj_d44 rfl rfl hT ?_ ?_
          · exact ⟨rfl, Or.inl rfl, ⟨x1001, by omega, (cw_fo_F (by decide)).mpr f1001⟩⟩
          · trivial
        · have q1018 : m.toInt < x1001.toInt := aw_t_ge (a := m.toInt) (b := x1001.toInt) rfl rfl q1018
          refine cw_n aj_d44 rfl rfl ?_
          refine cw_n aj_d44 rfl rfl ?_
          refine cw_p (i := 30) (t := 56) (c := 4) (k := 5) (v := .int m) (y := (.inl ((-2147483648), 2147483647))) htb aj_d44 rfl rfl hT (cw_s0 hB rfl) rfl rfl rfl (cw_full _) (by decide) rfl rfl (fun hT1019 => ?_)
          have f1020 : cw_F (cw_sf h 30 5 (.int m)) 30 4 6 (.int x1009) := cw_sf_ne f1009 (Or.inr (by decide))
          have f1021 : cw_F (cw_sf h 30 5 (.int m)) 30 4 5 (.int m) := cw_sf_same f1001
          refine cw_n aj_d44 rfl rfl ?_
          refine cw_n aj_d44 rfl rfl ?_
          refine cw_p (i := 30) (t := 56) (c := 4) (k := 6) (v := .int p) (y := (.inl ((-2147483648), 2147483647))) htb aj_d44 rfl rfl hT1019 (cw_s0 hB rfl) rfl rfl rfl (cw_full _) (by decide) rfl rfl (fun hT1022 => ?_)
          have f1023 : cw_F (cw_sf (cw_sf h 30 5 (.int m)) 30 6 (.int p)) 30 4 5 (.int m) := cw_sf_ne f1021 (Or.inr (by decide))
          have f1024 : cw_F (cw_sf (cw_sf h 30 5 (.int m)) 30 6 (.int p)) 30 4 6 (.int p) := cw_sf_same f1020
          refine cw_Wr aj_d44 rfl rfl hT1022 ?_ ?_
          · exact ⟨rfl, Or.inr rfl, ⟨m, by omega, (cw_fo_F (by decide)).mpr f1023⟩⟩
          · trivial
theorem cw_failNB (htb : ak_tbOK ak_C1 tb) (hT : ak_Ty ak_C1 s h) (hd : 2 ≤ d) {m : Int32} (hm : m.toInt ≠ 0) (hx : x = 2 ∨ x = 14) (hi : 0 ≤ iv.toInt ∧ iv.toInt ≤ 2499) (hy : -2600 ≤ y.toInt ∧ y.toInt ≤ 2600) (hQ : cw_CQ N bb x n f iv g0 n0 B y nt g s h) : cw_K ak_C1 (fun s' r h' => s' = s ∧ ∃ (y' nt' : Int32) (g' : Nat → Int32), cw_CQ N bb x n f iv g0 n0 B y' nt' g' s' h' ∧ y'.toInt = y.toInt ∧ cw_bado (cw_o h')) tb d (cw_nC 64 none) [.ref (52 + 39), .int m, .int iv] s h := by
  obtain ⟨d, rfl⟩ : ∃ e, d = e + 1 := ⟨d - 1, by omega⟩
  obtain ⟨Ih, qx, f2, a31, a34, f4, f5, Zh, nh, gh, bh⟩ := id hQ
  have hB := Ih.1
  refine cw_m (con := cw_nC 64 none) aj_m64_at (Nat.le_of_ble_eq_true rfl) ?_
  show cw_W _ _ _ _ _ _ _ _ _ _ 0 [(0, .ref (52 + 39)), (1, .int m), (2, .int iv)] []
  refine cw_n aj_d64 rfl rfl ?_
  obtain ⟨v1025, f1025, g1025⟩ := cw_tyF (i := 39) (t := 52) (c := 0) (k := 1) (y := (.inr (some ([56], false)))) hT (cw_s0 hB rfl) rfl rfl rfl
  obtain rfl := cw_gu (i := 30) hB g1025 (by decide) (by decide) (by decide)
  refine cw_g (i := 39) (v := .ref (52 + 30)) htb.1 aj_d64 rfl rfl (by decide) f1025 ?_
  refine cw_n aj_d64 rfl rfl ?_
  refine cw_n aj_d64 rfl rfl ?_
  obtain ⟨v1026, f1026, g1026⟩ := cw_tyF (i := 39) (t := 52) (c := 0) (k := 0) (y := (.inr (some ([60], false)))) hT (cw_s0 hB rfl) rfl rfl rfl
  obtain rfl := cw_gu (i := 26) hB g1026 (by decide) (by decide) (by decide)
  refine cw_g (i := 39) (v := .ref (52 + 26)) htb.1 aj_d64 rfl rfl (by decide) f1026 ?_
  refine cw_n aj_d64 rfl rfl ?_
  refine cw_g (i := 39) (v := .ref (52 + 30)) htb.1 aj_d64 rfl rfl (by decide) f1025 ?_
  refine cw_n aj_d64 rfl rfl ?_
  refine cw_k0 (i := 30) (t := 56) (con' := ap_c61) aj_d64 htb hT rfl rfl [_] rfl rfl (cw_s0 hB rfl) rfl (Nat.le_of_ble_eq_true rfl) ⟨by decide, by decide⟩ (cw_a1 (by omega) (ap_1_61 htb (cw_SP1c _ _ rfl rfl) cw_hK) hT hB rfl ⟨(cw_gR (cw_s0 hB rfl) (by decide) (by decide)), (cw_gw (a := iv.toInt) rfl (by omega) (by omega)), trivial⟩) ?_
  rintro ru1027 h1027 hT1027 ho1027 hRu1027
  have f1028 : cw_F h1027 39 0 2 (.ref (52 + x)) := cw_trF ho1027 (by decide) f2
  have f1029 : cw_F h1027 39 0 5 (.int y) := cw_trF ho1027 (by decide) f5
  have f1030 : cw_F h1027 30 4 4 (.int n) := cw_trF ho1027 (by decide) f4
  have a1031 : cw_A h1027 31 0 2500 (.inl f) := cw_trA ho1027 (by decide) a31
  have a1032 : cw_A h1027 34 0 2500 (.inl g) := cw_trA ho1027 (by decide) a34
  obtain ⟨x1033, rfl, bx1033⟩ := cw_rI hRu1027
  show cw_W _ _ _ _ _ _ _ _ _ _ 17 [(0, .ref (52 + 39)), (1, .int m), (2, .int iv)] [.int x1033, .ref (52 + 26), .int m, .ref (52 + 30)]
  refine cw_k0 (i := 26) (t := 60) (con' := ap_c43) aj_d64 htb hT1027 rfl rfl [_] rfl rfl (cw_s0 hB rfl) rfl (Nat.le_of_ble_eq_true rfl) ⟨by decide, by decide⟩ (cw_a1 (by omega) (ap_1_43 htb (cw_SP1c _ _ rfl rfl) cw_hK) hT1027 hB rfl ⟨(cw_gR (cw_s0 hB rfl) (by decide) (by decide)), (cw_full _), trivial⟩) ?_
  rintro ru1034 h1034 hT1034 ho1034 hRu1034
  have f1035 : cw_F h1034 39 0 2 (.ref (52 + x)) := cw_trF ho1034 (by decide) f1028
  have f1036 : cw_F h1034 39 0 5 (.int y) := cw_trF ho1034 (by decide) f1029
  have f1037 : cw_F h1034 30 4 4 (.int n) := cw_trF ho1034 (by decide) f1030
  have a1038 : cw_A h1034 31 0 2500 (.inl f) := cw_trA ho1034 (by decide) a1031
  have a1039 : cw_A h1034 34 0 2500 (.inl g) := cw_trA ho1034 (by decide) a1032
  obtain ⟨x1040, rfl, bx1040⟩ := cw_rI hRu1034
  show cw_W _ _ _ _ _ _ _ _ _ _ 20 [(0, .ref (52 + 39)), (1, .int m), (2, .int iv)] [.int x1040, .int m, .ref (52 + 30)]
  obtain ⟨v1041, f1041, g1041⟩ := cw_tyF (i := 30) (t := 56) (c := 4) (k := 5) (y := (.inl ((-2147483648), 2147483647))) hT1034 (cw_s0 hB rfl) rfl rfl rfl
  obtain ⟨x1041, rfl, b1041⟩ := ak_gi g1041
  dsimp only [ak_win] at b1041
  obtain ⟨v1042, f1042, g1042⟩ := cw_tyF (i := 30) (t := 56) (c := 4) (k := 6) (y := (.inl ((-2147483648), 2147483647))) hT1034 (cw_s0 hB rfl) rfl rfl rfl
  obtain ⟨x1042, rfl, b1042⟩ := ak_gi g1042
  dsimp only [ak_win] at b1042
  refine cw_k0 (i := 30) (t := 56) (con' := cw_nC 44 none) aj_d64 htb hT1034 rfl rfl [_, _] rfl rfl (cw_s0 hB rfl) rfl (Nat.le_of_ble_eq_true rfl) ⟨by decide, by decide⟩ (cw_failB (m := m) (p := x1040) htb hT1034 hB (by omega) hm) ?_
  rintro rf hf hTf ⟨zf, bf⟩ hRf
  obtain rfl := cw_rN hRf
  have If := cw_failI f1041 f1042 hm zf (cw_I_eq (ho1034.trans (ho1027.trans rfl)) Ih)
  have kf : cw_kp cw_E4 cw_E0 (cw_o h1034) (cw_o hf) := by
    rcases zf with rfl | rfl
    · exact cw_kp_rf
    · exact cw_kp_tr (cw_kp_sf f1041 ⟨rfl, by decide⟩) (cw_kp_sf (cw_sf_ne f1042 (Or.inr (by decide))) ⟨rfl, by decide⟩)
  have Q1043 := cw_CQ_f If kf (fun _ => bf) (cw_CQ_eq (ho1034.trans (ho1027.trans rfl)) hQ)
  obtain ⟨Iq1043, qq1043, f2q1043, a31q1043, a34q1043, f4q1043, f5q1043, Zq1043, nq1043, gq1043, bq1043⟩ := id Q1043
  show cw_W _ _ _ _ _ _ _ _ _ _ 23 [(0, .ref (52 + 39)), (1, .int m), (2, .int iv)] []
  refine cw_Wr aj_d64 rfl rfl hTf ?_ ?_
  · exact ⟨rfl, _, _, _, Q1043, rfl, bf⟩
  · trivial
theorem cw_ld_l {d : Nat} (hd : 2 ≤ d) (htb : ak_tbOK ak_C1 tb) (hB : cw_B s) (hx : x = 2 ∨ x = 14) (hy : -2600 ≤ y.toInt ∧ y.toInt ≤ 2600) (qj : s[j]? = some 58) (hw : 0 ≤ wd.toInt ∧ wd.toInt ≤ 20000000) (ht : 0 ≤ t.toInt ∧ t.toInt ≤ 9) (hgv : 0 ≤ (g iv.toInt.toNat).toInt ∧ (g iv.toInt.toNat).toInt < nt.toInt) : ∀ (M : Nat) {h : aj_H} {lv : aj_V} {kc ks : Nat} {c4 : Int32} (hT : ak_Ty ak_C1 s h) (Q : cw_CQ N bb x n f iv g0 n0 B y nt g s h) (fw : cw_F h j 6 3 (.int wd)) (hl0 : aj_lv lv 0 = some (.ref (52 + 39))) (hl1 : aj_lv lv 1 = some (.int iv)) (hl2 : aj_lv lv 2 = some (.int t)) (hl3 : aj_lv lv 3 = some (.ref (52 + j))) (hl4 : aj_lv lv 4 = some (.int c4)) (h4 : 0 ≤ c4.toInt) (hN : wd.toInt - c4.toInt ≤ M), cw_W ak_C1 (fun s' r h' => s' = s ∧ ∃ (y' nt' : Int32) (g' : Nat → Int32), cw_CQ N bb x n f iv g0 n0 B y' nt' g' s' h' ∧ (y.toInt ≤ y'.toInt ∧ y'.toInt ≤ y.toInt + 1) ∧ (cw_bado (cw_o h') ∨ 0 ≤ (g' iv.toInt.toNat).toInt ∧ (g' iv.toInt.toNat).toInt < nt'.toInt)) tb d aj_m59 (cw_nC 59 none) s h kc ks 54 lv [] := by
  intro M
  induction M with
  | zero =>
    intro h lv kc ks c4 hT Q fw hl0 hl1 hl2 hl3 hl4 h4 hN
    obtain ⟨Ih, qx, f2, a31, a34, f4, f5, Zh, nh, gh, bh⟩ := id Q
    refine cw_l0 aj_d59 rfl rfl hl4 ?_
    refine cw_l2 aj_d59 rfl rfl hl3 ?_
    refine cw_g (i := j) (v := .int wd) htb.1 aj_d59 rfl rfl (by decide) fw ?_
    refine cw_c (tgt := 87) aj_d59 rfl rfl (fun q1044 => ?_) (fun q1044 => ?_)
    · have q1044 : c4.toInt ≥ wd.toInt := aw_t_ge (a := c4.toInt) (b := wd.toInt) rfl rfl q1044
      refine cw_l2 aj_d59 rfl rfl hl0 ?_
      refine cw_n aj_d59 rfl rfl ?_
      refine cw_g (i := 39) (v := .int y) htb.1 aj_d59 rfl rfl (by decide) f5 ?_
      refine cw_n aj_d59 rfl rfl ?_
      refine cw_add aj_d59 rfl (a := y.toInt) (b := (1 : Int)) rfl rfl (by omega) (by omega) (fun x1045 ex1045 => ?_)
      refine cw_p (i := 39) (t := 52) (c := 0) (k := 5) (v := .int x1045) (y := (.inl ((-3000), 3000))) htb aj_d59 rfl rfl hT (cw_s0 hB rfl) rfl rfl rfl (cw_gw (a := x1045.toInt) rfl (by omega) (by omega)) (by decide) rfl rfl (fun hT1046 => ?_)
      have f1047 : cw_F (cw_sf h 39 5 (.int x1045)) 39 0 2 (.ref (52 + x)) := cw_sf_ne f2 (Or.inr (by decide))
      have f1048 : cw_F (cw_sf h 39 5 (.int x1045)) 30 4 4 (.int n) := cw_sf_ne f4 (Or.inr (by decide))
      have f1049 : cw_F (cw_sf h 39 5 (.int x1045)) j 6 3 (.int wd) := cw_sf_ne fw (Or.inr (by decide))
      have a1050 : cw_A (cw_sf h 39 5 (.int x1045)) 31 0 2500 (.inl f) := cw_sf_A a31
      have a1051 : cw_A (cw_sf h 39 5 (.int x1045)) 34 0 2500 (.inl g) := cw_sf_A a34
      have f1052 : cw_F (cw_sf h 39 5 (.int x1045)) 39 0 5 (.int x1045) := cw_sf_same f5
      have Q1053 := cw_CQ_dep hT Q x1045
      obtain ⟨Iq1053, qq1053, f2q1053, a31q1053, a34q1053, f4q1053, f5q1053, Zq1053, nq1053, gq1053, bq1053⟩ := id Q1053
      show cw_W _ _ _ _ _ _ _ _ _ _ 97 lv []
      refine cw_Wr aj_d59 rfl rfl hT1046 ?_ ?_
      · exact ⟨rfl, _, _, _, Q1053, ⟨by omega, by omega⟩, Or.inr hgv⟩
      · trivial
    · have q1044 : c4.toInt < wd.toInt := aw_t_ge (a := c4.toInt) (b := wd.toInt) rfl rfl q1044
      exfalso
      omega
  | succ M ih =>
    intro h lv kc ks c4 hT Q fw hl0 hl1 hl2 hl3 hl4 h4 hN
    obtain ⟨Ih, qx, f2, a31, a34, f4, f5, Zh, nh, gh, bh⟩ := id Q
    refine cw_l0 aj_d59 rfl rfl hl4 ?_
    refine cw_l2 aj_d59 rfl rfl hl3 ?_
    refine cw_g (i := j) (v := .int wd) htb.1 aj_d59 rfl rfl (by decide) fw ?_
    refine cw_c (tgt := 87) aj_d59 rfl rfl (fun q1054 => ?_) (fun q1054 => ?_)
    · have q1054 : c4.toInt ≥ wd.toInt := aw_t_ge (a := c4.toInt) (b := wd.toInt) rfl rfl q1054
      refine cw_l2 aj_d59 rfl rfl hl0 ?_
      refine cw_n aj_d59 rfl rfl ?_
      refine cw_g (i := 39) (v := .int y) htb.1 aj_d59 rfl rfl (by decide) f5 ?_
      refine cw_n aj_d59 rfl rfl ?_
      refine cw_add aj_d59 rfl (a := y.toInt) (b := (1 : Int)) rfl rfl (by omega) (by omega) (fun x1055 ex1055 => ?_)
      refine cw_p (i := 39) (t := 52) (c := 0) (k := 5) (v := .int x1055) (y := (.inl ((-3000), 3000))) htb aj_d59 rfl rfl hT (cw_s0 hB rfl) rfl rfl rfl (cw_gw (a := x1055.toInt) rfl (by omega) (by omega)) (by decide) rfl rfl (fun hT1056 => ?_)
      have f1057 : cw_F (cw_sf h 39 5 (.int x1055)) 39 0 2 (.ref (52 + x)) := cw_sf_ne f2 (Or.inr (by decide))
      have f1058 : cw_F (cw_sf h 39 5 (.int x1055)) 30 4 4 (.int n) := cw_sf_ne f4 (Or.inr (by decide))
      have f1059 : cw_F (cw_sf h 39 5 (.int x1055)) j 6 3 (.int wd) := cw_sf_ne fw (Or.inr (by decide))
      have a1060 : cw_A (cw_sf h 39 5 (.int x1055)) 31 0 2500 (.inl f) := cw_sf_A a31
      have a1061 : cw_A (cw_sf h 39 5 (.int x1055)) 34 0 2500 (.inl g) := cw_sf_A a34
      have f1062 : cw_F (cw_sf h 39 5 (.int x1055)) 39 0 5 (.int x1055) := cw_sf_same f5
      have Q1063 := cw_CQ_dep hT Q x1055
      obtain ⟨Iq1063, qq1063, f2q1063, a31q1063, a34q1063, f4q1063, f5q1063, Zq1063, nq1063, gq1063, bq1063⟩ := id Q1063
      show cw_W _ _ _ _ _ _ _ _ _ _ 97 lv []
      refine cw_Wr aj_d59 rfl rfl hT1056 ?_ ?_
      · exact ⟨rfl, _, _, _, Q1063, ⟨by omega, by omega⟩, Or.inr hgv⟩
      · trivial
    · have q1054 : c4.toInt < wd.toInt := aw_t_ge (a := c4.toInt) (b := wd.toInt) rfl rfl q1054
      refine cw_l2 aj_d59 rfl rfl hl0 ?_
      refine cw_l2 aj_d59 rfl rfl hl0 ?_
      refine cw_g (i := 39) (v := .int y) htb.1 aj_d59 rfl rfl (by decide) f5 ?_
      refine cw_l2 aj_d59 rfl rfl hl0 ?_
      refine cw_g (i := 39) (v := .ref (52 + x)) htb.1 aj_d59 rfl rfl (by decide) f2 ?_
      refine cw_l0 aj_d59 rfl rfl hl2 ?_
      refine cw_l0 aj_d59 rfl rfl hl4 ?_
      refine cw_k0 (i := x) (t := 59) (con' := ap_c66) aj_d59 htb hT rfl rfl [_, _] rfl rfl qx rfl (Nat.le_of_ble_eq_true rfl) ⟨by decide, by decide⟩ (cw_a1 (by omega) (ap_1_66 htb (cw_SP1c _ _ rfl rfl) cw_hK) hT hB rfl ⟨(cw_gR qx (by decide) (by decide)), (cw_gw (a := t.toInt) rfl (by omega) (by omega)), (cw_gw (a := c4.toInt) rfl (by omega) (by omega)), trivial⟩) ?_
      rintro ru1064 h1064 hT1064 ho1064 hRu1064
      have f1065 : cw_F h1064 39 0 2 (.ref (52 + x)) := cw_trF ho1064 (by decide) f2
      have f1066 : cw_F h1064 39 0 5 (.int y) := cw_trF ho1064 (by decide) f5
      have f1067 : cw_F h1064 30 4 4 (.int n) := cw_trF ho1064 (by decide) f4
      have f1068 : cw_F h1064 j 6 3 (.int wd) := cw_trF ho1064 (by decide) fw
      have a1069 : cw_A h1064 31 0 2500 (.inl f) := cw_trA ho1064 (by decide) a31
      have a1070 : cw_A h1064 34 0 2500 (.inl g) := cw_trA ho1064 (by decide) a34
      obtain ⟨y1071, rfl⟩ := cw_rL hRu1064
      show cw_W _ _ _ _ _ _ _ _ _ _ 78 lv [.long y1071, .int y, .ref (52 + 39)]
      refine cw_k0 (i := 39) (t := 52) (con' := ap_c67) aj_d59 htb hT1064 rfl rfl [_, _] rfl rfl (cw_s0 hB rfl) rfl (Nat.le_of_ble_eq_true rfl) ⟨by decide, by decide⟩ (cw_addCol htb hT1064 hB (by omega) y y1071) ?_
      rintro ru1072 hu1072 hTu1072 ou1072 hRu1072
      obtain rfl := cw_rN hRu1072
      have f1073 : cw_F hu1072 39 0 2 (.ref (52 + x)) := cw_trF ou1072 (by decide) f1065
      have f1074 : cw_F hu1072 39 0 5 (.int y) := cw_trF ou1072 (by decide) f1066
      have f1075 : cw_F hu1072 30 4 4 (.int n) := cw_trF ou1072 (by decide) f1067
      have f1076 : cw_F hu1072 j 6 3 (.int wd) := cw_trF ou1072 (by decide) f1068
      show cw_W _ _ _ _ _ _ _ _ _ _ 81 lv []
      refine cw_inc aj_d59 rfl hl4 (a := c4.toInt) rfl (by omega) (by omega) (by decide) (by decide) (fun x1077 ex1077 => ?_)
      obtain ⟨lv1078, elv1078⟩ : ∃ l, l = aj_set1 lv 4 (.int x1077) := ⟨_, rfl⟩
      rw [← elv1078]
      have hlv1078_0 : aj_lv lv1078 0 = some (.ref (52 + 39)) := cw_e1 elv1078 hl0 (by decide) (Or.inl (by decide))
      have hlv1078_1 : aj_lv lv1078 1 = some (.int iv) := cw_e1 elv1078 hl1 (by decide) (Or.inl (by decide))
      have hlv1078_2 : aj_lv lv1078 2 = some (.int t) := cw_e1 elv1078 hl2 (by decide) (Or.inl (by decide))
      have hlv1078_3 : aj_lv lv1078 3 = some (.ref (52 + j)) := cw_e1 elv1078 hl3 (by decide) (Or.inr rfl)
      have hlv1078_4 : aj_lv lv1078 4 = some (.int x1077) := by rw [elv1078]; exact ak_set1_eq _ _ _
      show cw_W _ _ _ _ _ _ _ _ _ _ 84 lv1078 []
      refine cw_n aj_d59 rfl rfl ?_
      exact ih hTu1072 (cw_CQ_eq (ou1072.trans (ho1064.trans rfl)) Q) f1076 hlv1078_0 hlv1078_1 hlv1078_2 hlv1078_3 hlv1078_4 (by omega) (by omega)
theorem cw_cload (htb : ak_tbOK ak_C1 tb) (hT : ak_Ty ak_C1 s h) (hd : 3 ≤ d)  (hx : x = 2 ∨ x = 14) (hi : 0 ≤ iv.toInt ∧ iv.toInt ≤ 2499) (hy : -2600 ≤ y.toInt ∧ y.toInt ≤ 2600) (hQ : cw_CQ N bb x n f iv g0 n0 B y nt g s h) : cw_K ak_C1 (fun s' r h' => s' = s ∧ ∃ (y' nt' : Int32) (g' : Nat → Int32), cw_CQ N bb x n f iv g0 n0 B y' nt' g' s' h' ∧ (y.toInt ≤ y'.toInt ∧ y'.toInt ≤ y.toInt + 1) ∧ (cw_bado (cw_o h') ∨ 0 ≤ (g' iv.toInt.toNat).toInt ∧ (g' iv.toInt.toNat).toInt < nt'.toInt)) tb d (cw_nC 59 none) [.ref (52 + 39), .int iv] s h := by
  obtain ⟨d, rfl⟩ : ∃ e, d = e + 1 := ⟨d - 1, by omega⟩
  obtain ⟨Ih, qx, f2, a31, a34, f4, f5, Zh, nh, gh, bh⟩ := id hQ
  have hB := Ih.1
  refine cw_m (con := cw_nC 59 none) aj_m59_at (Nat.le_of_ble_eq_true rfl) ?_
  show cw_W _ _ _ _ _ _ _ _ _ _ 0 [(0, .ref (52 + 39)), (1, .int iv)] []
  refine cw_n aj_d59 rfl rfl ?_
  refine cw_g (i := 39) (v := .ref (52 + x)) htb.1 aj_d59 rfl rfl (by decide) f2 ?_
  refine cw_n aj_d59 rfl rfl ?_
  refine cw_n aj_d59 rfl rfl ?_
  refine cw_k0 (i := 39) (t := 52) (con' := ap_c60) aj_d59 htb hT rfl rfl [_] rfl rfl (cw_s0 hB rfl) rfl (Nat.le_of_ble_eq_true rfl) ⟨by decide, by decide⟩ (cw_a1 (by omega) (ap_1_60 htb (cw_SP1c _ _ rfl rfl) cw_hK) hT hB rfl ⟨(cw_gR (cw_s0 hB rfl) (by decide) (by decide)), (cw_gw (a := iv.toInt) rfl (by omega) (by omega)), trivial⟩) ?_
  rintro ru1079 h1079 hT1079 ho1079 hRu1079
  have f1080 : cw_F h1079 39 0 2 (.ref (52 + x)) := cw_trF ho1079 (by decide) f2
  have f1081 : cw_F h1079 39 0 5 (.int y) := cw_trF ho1079 (by decide) f5
  have f1082 : cw_F h1079 30 4 4 (.int n) := cw_trF ho1079 (by decide) f4
  have a1083 : cw_A h1079 31 0 2500 (.inl f) := cw_trA ho1079 (by decide) a31
  have a1084 : cw_A h1079 34 0 2500 (.inl g) := cw_trA ho1079 (by decide) a34
  obtain ⟨y1085, rfl⟩ := cw_rL hRu1079
  show cw_W _ _ _ _ _ _ _ _ _ _ 9 [(0, .ref (52 + 39)), (1, .int iv)] [.long y1085, .ref (52 + x)]
  refine cw_k0 (i := x) (t := 59) (con' := ap_c62) aj_d59 htb hT1079 rfl rfl [_] rfl rfl qx rfl (Nat.le_of_ble_eq_true rfl) ⟨by decide, by decide⟩ (cw_a1 (by omega) (ap_1_62 htb (cw_SP1c _ _ rfl rfl) cw_hK) hT1079 hB rfl ⟨(cw_gR qx (by decide) (by decide)), trivial, trivial⟩) ?_
  rintro ru1086 h1086 hT1086 ho1086 hRu1086
  have f1087 : cw_F h1086 39 0 2 (.ref (52 + x)) := cw_trF ho1086 (by decide) f1080
  have f1088 : cw_F h1086 39 0 5 (.int y) := cw_trF ho1086 (by decide) f1081
  have f1089 : cw_F h1086 30 4 4 (.int n) := cw_trF ho1086 (by decide) f1082
  have a1090 : cw_A h1086 31 0 2500 (.inl f) := cw_trA ho1086 (by decide) a1083
  have a1091 : cw_A h1086 34 0 2500 (.inl g) := cw_trA ho1086 (by decide) a1084
  obtain ⟨x1092, rfl, bx1092⟩ := cw_rI hRu1086
  show cw_W _ _ _ _ _ _ _ _ _ _ 12 [(0, .ref (52 + 39)), (1, .int iv)] [.int x1092]
  refine cw_n aj_d59 rfl rfl ?_
  show cw_W _ _ _ _ _ _ _ _ _ _ 13 [(2, .int x1092), (0, .ref (52 + 39)), (1, .int iv)] []
  refine cw_n aj_d59 rfl rfl ?_
  refine cw_g (i := 39) (v := .ref (52 + x)) htb.1 aj_d59 rfl rfl (by decide) f1087 ?_
  refine cw_n aj_d59 rfl rfl ?_
  refine cw_k0 (i := x) (t := 59) (con' := cw_nC 63 (some (.inr (some ([58], true))))) aj_d59 htb hT1086 rfl rfl [_] rfl rfl qx rfl (Nat.le_of_ble_eq_true rfl) ⟨by decide, by decide⟩ (cw_rowsO1 (x := x1092) htb hT1086 hB (by omega) hx (by rw [(ho1086.trans (ho1079.trans rfl))]; exact Zh)) ?_
  rintro ru1093 hu1093 hTu1093 ⟨eu1093, zu1093⟩ -
  obtain rfl := eu1093.symm
  rcases zu1093 with ⟨-, rfl⟩ | ⟨ht, j, rfl, qj, okj⟩
  · skip
    show cw_W _ _ _ _ _ _ _ _ _ _ 21 [(2, .int x1092), (0, .ref (52 + 39)), (1, .int iv)] [.null]
    refine cw_n aj_d59 rfl rfl ?_
    show cw_W _ _ _ _ _ _ _ _ _ _ 22 [(3, .null), (2, .int x1092), (0, .ref (52 + 39)), (1, .int iv)] []
    refine cw_n aj_d59 rfl rfl ?_
    refine cw_n aj_d59 rfl rfl ?_
    refine cw_n aj_d59 rfl rfl ?_
    refine cw_n aj_d59 rfl rfl ?_
    refine cw_n aj_d59 rfl rfl ?_
    refine cw_k0 (i := 39) (t := 52) (con' := cw_nC 64 none) aj_d59 htb hTu1093 rfl rfl [_, _] rfl rfl (cw_s0 hB rfl) rfl (Nat.le_of_ble_eq_true rfl) ⟨by decide, by decide⟩ (cw_failNB htb hTu1093 (by omega) (by decide) hx hi hy (cw_CQ_eq (ho1086.trans (ho1079.trans rfl)) hQ)) ?_
    rintro ru1094 h1094 hT1094 ⟨yu1094, nu1094, gu1094, Qu1094, eu1094, bb⟩ hRu1094
    obtain rfl := cw_rN hRu1094
    have Q1095 := Qu1094
    obtain ⟨Iq1095, qq1095, f2q1095, a31q1095, a34q1095, f4q1095, f5q1095, Zq1095, nq1095, gq1095, bq1095⟩ := id Q1095
    show cw_W _ _ _ _ _ _ _ _ _ _ 32 [(3, .null), (2, .int x1092), (0, .ref (52 + 39)), (1, .int iv)] []
    refine cw_Wr aj_d59 rfl rfl hT1094 ?_ ?_
    · exact ⟨rfl, _, _, _, Q1095, ⟨by omega, by omega⟩, Or.inl bb⟩
    · trivial
  · skip
    show cw_W _ _ _ _ _ _ _ _ _ _ 21 [(2, .int x1092), (0, .ref (52 + 39)), (1, .int iv)] [.ref (52 + j)]
    refine cw_n aj_d59 rfl rfl ?_
    show cw_W _ _ _ _ _ _ _ _ _ _ 22 [(3, .ref (52 + j)), (2, .int x1092), (0, .ref (52 + 39)), (1, .int iv)] []
    refine cw_n aj_d59 rfl rfl ?_
    refine cw_n aj_d59 rfl rfl ?_
    refine cw_n aj_d59 rfl rfl ?_
    obtain ⟨v1096, f1096, g1096⟩ := cw_tyF (i := 39) (t := 52) (c := 0) (k := 1) (y := (.inr (some ([56], false)))) hTu1093 (cw_s0 hB rfl) rfl rfl rfl
    obtain rfl := cw_gu (i := 30) hB g1096 (by decide) (by decide) (by decide)
    refine cw_g (i := 39) (v := .ref (52 + 30)) htb.1 aj_d59 rfl rfl (by decide) f1096 ?_
    refine cw_n aj_d59 rfl rfl ?_
    refine cw_n aj_d59 rfl rfl ?_
    refine cw_k0 (i := 30) (t := 56) (con' := ap_c41) aj_d59 htb hTu1093 rfl rfl [_, _] rfl rfl (cw_s0 hB rfl) rfl (Nat.le_of_ble_eq_true rfl) ⟨by decide, by decide⟩ (cw_setA1 htb hTu1093 hB (by omega) iv x1092) ?_
    rintro ru1097 h1097 hT1097 tu1097 hRu1097
    obtain rfl := cw_rN hRu1097
    obtain ⟨gu1097, Qu1097, vu1097⟩ := cw_CQ_set hx hi hTu1093 tu1097 (cw_CQ_eq (ho1086.trans (ho1079.trans rfl)) hQ)
    have Q1098 := Qu1097
    obtain ⟨Iq1098, qq1098, f2q1098, a31q1098, a34q1098, f4q1098, f5q1098, Zq1098, nq1098, gq1098, bq1098⟩ := id Q1098
    show cw_W _ _ _ _ _ _ _ _ _ _ 42 [(3, .ref (52 + j)), (2, .int x1092), (0, .ref (52 + 39)), (1, .int iv)] []
    refine cw_n aj_d59 rfl rfl ?_
    refine cw_n aj_d59 rfl rfl ?_
    refine cw_g (i := 39) (v := .int y) htb.1 aj_d59 rfl rfl (by decide) f5q1098 ?_
    refine cw_n aj_d59 rfl rfl ?_
    refine cw_k0 (i := 39) (t := 52) (con' := ap_c65) aj_d59 htb hT1097 rfl rfl [_, _] rfl rfl (cw_s0 hB rfl) rfl (Nat.le_of_ble_eq_true rfl) ⟨by decide, by decide⟩ (cw_a1 (by omega) (ap_1_65 htb (cw_SP1c _ _ rfl rfl) cw_hK) hT1097 hB rfl ⟨(cw_gR (cw_s0 hB rfl) (by decide) (by decide)), (cw_gw (a := y.toInt) rfl (by omega) (by omega)), (cw_gw (a := (0 : Int)) rfl (by omega) (by omega)), trivial⟩) ?_
    rintro ru1099 h1099 hT1099 ho1099 hRu1099
    have f1100 : cw_F h1099 39 0 2 (.ref (52 + x)) := cw_trF ho1099 (by decide) f2q1098
    have f1101 : cw_F h1099 39 0 5 (.int y) := cw_trF ho1099 (by decide) f5q1098
    have f1102 : cw_F h1099 30 4 4 (.int n) := cw_trF ho1099 (by decide) f4q1098
    have a1103 : cw_A h1099 31 0 2500 (.inl f) := cw_trA ho1099 (by decide) a31q1098
    have a1104 : cw_A h1099 34 0 2500 (.inl gu1097) := cw_trA ho1099 (by decide) a34q1098
    obtain rfl := cw_rN hRu1099
    show cw_W _ _ _ _ _ _ _ _ _ _ 51 [(3, .ref (52 + j)), (2, .int x1092), (0, .ref (52 + 39)), (1, .int iv)] []
    refine cw_n aj_d59 rfl rfl ?_
    refine cw_n aj_d59 rfl rfl ?_
    show cw_W _ _ _ _ _ _ _ _ _ _ 54 [(4, .int (Int32.ofInt 0)), (3, .ref (52 + j)), (2, .int x1092), (0, .ref (52 + 39)), (1, .int iv)] []
    obtain ⟨v1105, f1105, g1105⟩ := cw_tyF (i := j) (t := 58) (c := 6) (k := 3) (y := (.inl (0, 20000000))) hT1099 qj rfl rfl rfl
    obtain ⟨x1105, rfl, b1105⟩ := ak_gi g1105
    dsimp only [ak_win] at b1105
    have hgv : 0 ≤ (gu1097 iv.toInt.toNat).toInt ∧ (gu1097 iv.toInt.toNat).toInt < nt.toInt := by rw [vu1097]; exact ht
    exact cw_ld_l (by omega) htb hB hx hy qj (by omega) ⟨ht.1, by omega⟩ hgv 20000000 hT1099 (cw_CQ_eq (ho1099.trans rfl) Q1098) f1105 rfl rfl rfl rfl rfl (by decide) (by rw [show (Int32.ofInt 0).toInt = 0 from rfl]; omega)
theorem cw_cj_2 {d : Nat} (hd : 2 ≤ d) (htb : ak_tbOK ak_C1 tb) (hB : cw_B s) (hx : x = 2 ∨ x = 14) (hi : 0 ≤ iv.toInt ∧ iv.toInt ≤ 2499) (hy : -2600 ≤ y.toInt ∧ y.toInt ≤ 2600) {l2 l3 : Int32} (e2 : -2601 ≤ l2.toInt ∧ l2.toInt ≤ 2600) (e3 : -2600 ≤ l3.toInt ∧ l3.toInt ≤ 2600) : ∀ (M : Nat) {h : aj_H} {lv : aj_V} {kc ks : Nat} {w4 m5 c6 : Int32} (hT : ak_Ty ak_C1 s h) (Q : cw_CQ N bb x n f iv g0 n0 B y nt g s h) (hl0 : aj_lv lv 0 = some (.ref (52 + 39))) (hl1 : aj_lv lv 1 = some (.int iv)) (hl2 : aj_lv lv 2 = some (.int l2)) (hl3 : aj_lv lv 3 = some (.int l3)) (hl4 : aj_lv lv 4 = some (.int w4)) (hl5 : aj_lv lv 5 = some (.int m5)) (hl6 : aj_lv lv 6 = some (.int c6)) (h6 : 0 ≤ c6.toInt) (hN : 6 - c6.toInt ≤ M), cw_W ak_C1 (fun s' r h' => s' = s ∧ ∃ (y' nt' : Int32) (g' : Nat → Int32), cw_CQ N bb x n f iv g0 n0 B y' nt' g' s' h' ∧ y'.toInt = y.toInt) tb d aj_m73 (cw_nC 73 none) s h kc ks 109 lv [] := by
  intro M
  induction M with
  | zero =>
    intro h lv kc ks w4 m5 c6 hT Q hl0 hl1 hl2 hl3 hl4 hl5 hl6 h6 hN
    obtain ⟨Ih, qx, f2, a31, a34, f4, f5, Zh, nh, gh, bh⟩ := id Q
    refine cw_l0 aj_d73 rfl rfl hl6 ?_
    refine cw_l2 aj_d73 rfl rfl hl0 ?_
    refine cw_l0 aj_d73 rfl rfl hl3 ?_
    refine cw_k0 (i := 39) (t := 52) (con' := ap_c69) aj_d73 htb hT rfl rfl [_] rfl rfl (cw_s0 hB rfl) rfl (Nat.le_of_ble_eq_true rfl) ⟨by decide, by decide⟩ (cw_a1 (by omega) (ap_1_69 htb (cw_SP1c _ _ rfl rfl) cw_hK) hT hB rfl ⟨(cw_gR (cw_s0 hB rfl) (by decide) (by decide)), (cw_gw (a := l3.toInt) rfl (by omega) (by omega)), trivial⟩) ?_
    rintro ru1106 h1106 hT1106 ho1106 hRu1106
    have f1107 : cw_F h1106 39 0 2 (.ref (52 + x)) := cw_trF ho1106 (by decide) f2
    have f1108 : cw_F h1106 39 0 5 (.int y) := cw_trF ho1106 (by decide) f5
    have f1109 : cw_F h1106 30 4 4 (.int n) := cw_trF ho1106 (by decide) f4
    have a1110 : cw_A h1106 31 0 2500 (.inl f) := cw_trA ho1106 (by decide) a31
    have a1111 : cw_A h1106 34 0 2500 (.inl g) := cw_trA ho1106 (by decide) a34
    obtain ⟨x1112, rfl, bx1112⟩ := cw_rI hRu1106
    show cw_W _ _ _ _ _ _ _ _ _ _ 116 lv [.int x1112, .int c6]
    refine cw_c (tgt := 152) aj_d73 rfl rfl (fun q1113 => ?_) (fun q1113 => ?_)
    · have q1113 : c6.toInt ≥ x1112.toInt := aw_t_ge (a := c6.toInt) (b := x1112.toInt) rfl rfl q1113
      refine cw_l2 aj_d73 rfl rfl hl0 ?_
      obtain ⟨v1114, f1114, g1114⟩ := cw_tyF (i := 39) (t := 52) (c := 0) (k := 1) (y := (.inr (some ([56], false)))) hT1106 (cw_s0 hB rfl) rfl rfl rfl
      obtain rfl := cw_gu (i := 30) hB g1114 (by decide) (by decide) (by decide)
      refine cw_g (i := 39) (v := .ref (52 + 30)) htb.1 aj_d73 rfl rfl (by decide) f1114 ?_
      refine cw_l0 aj_d73 rfl rfl hl1 ?_
      refine cw_l0 aj_d73 rfl rfl hl5 ?_
      refine cw_k0 (i := 30) (t := 56) (con' := ap_c41) aj_d73 htb hT1106 rfl rfl [_, _] rfl rfl (cw_s0 hB rfl) rfl (Nat.le_of_ble_eq_true rfl) ⟨by decide, by decide⟩ (cw_setA1 htb hT1106 hB (by omega) iv m5) ?_
      rintro ru1115 h1115 hT1115 tu1115 hRu1115
      obtain rfl := cw_rN hRu1115
      obtain ⟨gu1115, Qu1115, vu1115⟩ := cw_CQ_set hx hi hT1106 tu1115 (cw_CQ_eq (ho1106.trans rfl) Q)
      have Q1116 := Qu1115
      obtain ⟨Iq1116, qq1116, f2q1116, a31q1116, a34q1116, f4q1116, f5q1116, Zq1116, nq1116, gq1116, bq1116⟩ := id Q1116
      show cw_W _ _ _ _ _ _ _ _ _ _ 162 lv []
      refine cw_Wr aj_d73 rfl rfl hT1115 ?_ ?_
      · exact ⟨rfl, _, _, _, Q1116, by omega⟩
      · trivial
    · have q1113 : c6.toInt < x1112.toInt := aw_t_ge (a := c6.toInt) (b := x1112.toInt) rfl rfl q1113
      exfalso
      omega
  | succ M ih =>
    intro h lv kc ks w4 m5 c6 hT Q hl0 hl1 hl2 hl3 hl4 hl5 hl6 h6 hN
    obtain ⟨Ih, qx, f2, a31, a34, f4, f5, Zh, nh, gh, bh⟩ := id Q
    refine cw_l0 aj_d73 rfl rfl hl6 ?_
    refine cw_l2 aj_d73 rfl rfl hl0 ?_
    refine cw_l0 aj_d73 rfl rfl hl3 ?_
    refine cw_k0 (i := 39) (t := 52) (con' := ap_c69) aj_d73 htb hT rfl rfl [_] rfl rfl (cw_s0 hB rfl) rfl (Nat.le_of_ble_eq_true rfl) ⟨by decide, by decide⟩ (cw_a1 (by omega) (ap_1_69 htb (cw_SP1c _ _ rfl rfl) cw_hK) hT hB rfl ⟨(cw_gR (cw_s0 hB rfl) (by decide) (by decide)), (cw_gw (a := l3.toInt) rfl (by omega) (by omega)), trivial⟩) ?_
    rintro ru1117 h1117 hT1117 ho1117 hRu1117
    have f1118 : cw_F h1117 39 0 2 (.ref (52 + x)) := cw_trF ho1117 (by decide) f2
    have f1119 : cw_F h1117 39 0 5 (.int y) := cw_trF ho1117 (by decide) f5
    have f1120 : cw_F h1117 30 4 4 (.int n) := cw_trF ho1117 (by decide) f4
    have a1121 : cw_A h1117 31 0 2500 (.inl f) := cw_trA ho1117 (by decide) a31
    have a1122 : cw_A h1117 34 0 2500 (.inl g) := cw_trA ho1117 (by decide) a34
    obtain ⟨x1123, rfl, bx1123⟩ := cw_rI hRu1117
    show cw_W _ _ _ _ _ _ _ _ _ _ 116 lv [.int x1123, .int c6]
    refine cw_c (tgt := 152) aj_d73 rfl rfl (fun q1124 => ?_) (fun q1124 => ?_)
    · have q1124 : c6.toInt ≥ x1123.toInt := aw_t_ge (a := c6.toInt) (b := x1123.toInt) rfl rfl q1124
      refine cw_l2 aj_d73 rfl rfl hl0 ?_
      obtain ⟨v1125, f1125, g1125⟩ := cw_tyF (i := 39) (t := 52) (c := 0) (k := 1) (y := (.inr (some ([56], false)))) hT1117 (cw_s0 hB rfl) rfl rfl rfl
      obtain rfl := cw_gu (i := 30) hB g1125 (by decide) (by decide) (by decide)
      refine cw_g (i := 39) (v := .ref (52 + 30)) htb.1 aj_d73 rfl rfl (by decide) f1125 ?_
      refine cw_l0 aj_d73 rfl rfl hl1 ?_
      refine cw_l0 aj_d73 rfl rfl hl5 ?_
      refine cw_k0 (i := 30) (t := 56) (con' := ap_c41) aj_d73 htb hT1117 rfl rfl [_, _] rfl rfl (cw_s0 hB rfl) rfl (Nat.le_of_ble_eq_true rfl) ⟨by decide, by decide⟩ (cw_setA1 htb hT1117 hB (by omega) iv m5) ?_
      rintro ru1126 h1126 hT1126 tu1126 hRu1126
      obtain rfl := cw_rN hRu1126
      obtain ⟨gu1126, Qu1126, vu1126⟩ := cw_CQ_set hx hi hT1117 tu1126 (cw_CQ_eq (ho1117.trans rfl) Q)
      have Q1127 := Qu1126
      obtain ⟨Iq1127, qq1127, f2q1127, a31q1127, a34q1127, f4q1127, f5q1127, Zq1127, nq1127, gq1127, bq1127⟩ := id Q1127
      show cw_W _ _ _ _ _ _ _ _ _ _ 162 lv []
      refine cw_Wr aj_d73 rfl rfl hT1126 ?_ ?_
      · exact ⟨rfl, _, _, _, Q1127, by omega⟩
      · trivial
    · have q1124 : c6.toInt < x1123.toInt := aw_t_ge (a := c6.toInt) (b := x1123.toInt) rfl rfl q1124
      refine cw_l0 aj_d73 rfl rfl hl5 ?_
      refine cw_n aj_d73 rfl rfl ?_
      refine cw_l0 aj_d73 rfl rfl hl6 ?_
      refine cw_mul aj_d73 rfl (a := (3 : Int)) (b := c6.toInt) rfl rfl (by omega) (by omega) (fun x1128 ex1128 => ?_)
      refine cw_any aj_d73 rfl rfl (fun x1129 ex1129 => ?_)
      refine cw_n aj_d73 rfl rfl ?_
      refine cw_any aj_d73 rfl rfl (fun x1130 ex1130 => ?_)
      refine cw_n aj_d73 rfl rfl ?_
      refine cw_c (tgt := 146) aj_d73 rfl rfl (fun q1131 => ?_) (fun q1131 => ?_)
      · have q1131 : x1130.toInt ≠ (7 : Int) := aw_t_ne (a := x1130.toInt) (b := (7 : Int)) rfl rfl q1131
        refine cw_inc aj_d73 rfl hl6 (a := c6.toInt) rfl (by omega) (by omega) (by decide) (by decide) (fun x1132 ex1132 => ?_)
        obtain ⟨lv1133, elv1133⟩ : ∃ l, l = aj_set1 lv 6 (.int x1132) := ⟨_, rfl⟩
        rw [← elv1133]
        have hlv1133_0 : aj_lv lv1133 0 = some (.ref (52 + 39)) := cw_e1 elv1133 hl0 (by decide) (Or.inl (by decide))
        have hlv1133_1 : aj_lv lv1133 1 = some (.int iv) := cw_e1 elv1133 hl1 (by decide) (Or.inl (by decide))
        have hlv1133_2 : aj_lv lv1133 2 = some (.int l2) := cw_e1 elv1133 hl2 (by decide) (Or.inl (by decide))
        have hlv1133_3 : aj_lv lv1133 3 = some (.int l3) := cw_e1 elv1133 hl3 (by decide) (Or.inl (by decide))
        have hlv1133_4 : aj_lv lv1133 4 = some (.int w4) := cw_e1 elv1133 hl4 (by decide) (Or.inl (by decide))
        have hlv1133_5 : aj_lv lv1133 5 = some (.int m5) := cw_e1 elv1133 hl5 (by decide) (Or.inr rfl)
        have hlv1133_6 : aj_lv lv1133 6 = some (.int x1132) := by rw [elv1133]; exact ak_set1_eq _ _ _
        show cw_W _ _ _ _ _ _ _ _ _ _ 149 lv1133 []
        refine cw_n aj_d73 rfl rfl ?_
        exact ih hT1117 (cw_CQ_eq (ho1117.trans rfl) Q) hlv1133_0 hlv1133_1 hlv1133_2 hlv1133_3 hlv1133_4 hlv1133_5 hlv1133_6 (by omega) (by omega)
      · have q1131 : x1130.toInt = (7 : Int) := aw_t_ne (a := x1130.toInt) (b := (7 : Int)) rfl rfl q1131
        refine cw_l2 aj_d73 rfl rfl hl0 ?_
        refine cw_l0 aj_d73 rfl rfl hl2 ?_
        refine cw_l2 aj_d73 rfl rfl hl0 ?_
        refine cw_l0 aj_d73 rfl rfl hl3 ?_
        refine cw_l0 aj_d73 rfl rfl hl6 ?_
        refine cw_k0 (i := 39) (t := 52) (con' := ap_c70) aj_d73 htb hT1117 rfl rfl [_, _] rfl rfl (cw_s0 hB rfl) rfl (Nat.le_of_ble_eq_true rfl) ⟨by decide, by decide⟩ (cw_a1 (by omega) (ap_1_70 htb (cw_SP1c _ _ rfl rfl) cw_hK) hT1117 hB rfl ⟨(cw_gR (cw_s0 hB rfl) (by decide) (by decide)), (cw_gw (a := l3.toInt) rfl (by omega) (by omega)), (cw_gw (a := c6.toInt) rfl (by omega) (by omega)), trivial⟩) ?_
        rintro ru1134 h1134 hT1134 ho1134 hRu1134
        have f1135 : cw_F h1134 39 0 2 (.ref (52 + x)) := cw_trF ho1134 (by decide) f1118
        have f1136 : cw_F h1134 39 0 5 (.int y) := cw_trF ho1134 (by decide) f1119
        have f1137 : cw_F h1134 30 4 4 (.int n) := cw_trF ho1134 (by decide) f1120
        have a1138 : cw_A h1134 31 0 2500 (.inl f) := cw_trA ho1134 (by decide) a1121
        have a1139 : cw_A h1134 34 0 2500 (.inl g) := cw_trA ho1134 (by decide) a1122
        obtain ⟨y1140, rfl⟩ := cw_rL hRu1134
        show cw_W _ _ _ _ _ _ _ _ _ _ 143 lv [.long y1140, .int l2, .ref (52 + 39)]
        refine cw_k0 (i := 39) (t := 52) (con' := ap_c67) aj_d73 htb hT1134 rfl rfl [_, _] rfl rfl (cw_s0 hB rfl) rfl (Nat.le_of_ble_eq_true rfl) ⟨by decide, by decide⟩ (cw_addCol htb hT1134 hB (by omega) l2 y1140) ?_
        rintro ru1141 hu1141 hTu1141 ou1141 hRu1141
        obtain rfl := cw_rN hRu1141
        have f1142 : cw_F hu1141 39 0 2 (.ref (52 + x)) := cw_trF ou1141 (by decide) f1135
        have f1143 : cw_F hu1141 39 0 5 (.int y) := cw_trF ou1141 (by decide) f1136
        have f1144 : cw_F hu1141 30 4 4 (.int n) := cw_trF ou1141 (by decide) f1137
        show cw_W _ _ _ _ _ _ _ _ _ _ 146 lv []
        refine cw_inc aj_d73 rfl hl6 (a := c6.toInt) rfl (by omega) (by omega) (by decide) (by decide) (fun x1145 ex1145 => ?_)
        obtain ⟨lv1146, elv1146⟩ : ∃ l, l = aj_set1 lv 6 (.int x1145) := ⟨_, rfl⟩
        rw [← elv1146]
        have hlv1146_0 : aj_lv lv1146 0 = some (.ref (52 + 39)) := cw_e1 elv1146 hl0 (by decide) (Or.inl (by decide))
        have hlv1146_1 : aj_lv lv1146 1 = some (.int iv) := cw_e1 elv1146 hl1 (by decide) (Or.inl (by decide))
        have hlv1146_2 : aj_lv lv1146 2 = some (.int l2) := cw_e1 elv1146 hl2 (by decide) (Or.inl (by decide))
        have hlv1146_3 : aj_lv lv1146 3 = some (.int l3) := cw_e1 elv1146 hl3 (by decide) (Or.inl (by decide))
        have hlv1146_4 : aj_lv lv1146 4 = some (.int w4) := cw_e1 elv1146 hl4 (by decide) (Or.inl (by decide))
        have hlv1146_5 : aj_lv lv1146 5 = some (.int m5) := cw_e1 elv1146 hl5 (by decide) (Or.inr rfl)
        have hlv1146_6 : aj_lv lv1146 6 = some (.int x1145) := by rw [elv1146]; exact ak_set1_eq _ _ _
        show cw_W _ _ _ _ _ _ _ _ _ _ 149 lv1146 []
        refine cw_n aj_d73 rfl rfl ?_
        exact ih hTu1141 (cw_CQ_eq (ou1141.trans (ho1134.trans (ho1117.trans rfl))) Q) hlv1146_0 hlv1146_1 hlv1146_2 hlv1146_3 hlv1146_4 hlv1146_5 hlv1146_6 (by omega) (by omega)
theorem cw_cj_1 {d : Nat} (hd : 2 ≤ d) (htb : ak_tbOK ak_C1 tb) (hB : cw_B s) (hx : x = 2 ∨ x = 14) (hi : 0 ≤ iv.toInt ∧ iv.toInt ≤ 2499) (hy : -2600 ≤ y.toInt ∧ y.toInt ≤ 2600) {l2 l3 : Int32} (e2 : -2601 ≤ l2.toInt ∧ l2.toInt ≤ 2600) (e3 : -2600 ≤ l3.toInt ∧ l3.toInt ≤ 2600) : ∀ (M : Nat) {h : aj_H} {lv : aj_V} {kc ks : Nat} {w4 m5 c6 : Int32} (hT : ak_Ty ak_C1 s h) (Q : cw_CQ N bb x n f iv g0 n0 B y nt g s h) (hl0 : aj_lv lv 0 = some (.ref (52 + 39))) (hl1 : aj_lv lv 1 = some (.int iv)) (hl2 : aj_lv lv 2 = some (.int l2)) (hl3 : aj_lv lv 3 = some (.int l3)) (hl4 : aj_lv lv 4 = some (.int w4)) (hl5 : aj_lv lv 5 = some (.int m5)) (hl6 : aj_lv lv 6 = some (.int c6)) (h6 : 0 ≤ c6.toInt) (h4 : 0 ≤ w4.toInt ∧ w4.toInt ≤ 6 + c6.toInt) (hN : 6 - c6.toInt ≤ M), cw_W ak_C1 (fun s' r h' => s' = s ∧ ∃ (y' nt' : Int32) (g' : Nat → Int32), cw_CQ N bb x n f iv g0 n0 B y' nt' g' s' h' ∧ y'.toInt = y.toInt) tb d aj_m73 (cw_nC 73 none) s h kc ks 25 lv [] := by
  intro M
  induction M with
  | zero =>
    intro h lv kc ks w4 m5 c6 hT Q hl0 hl1 hl2 hl3 hl4 hl5 hl6 h6 h4 hN
    obtain ⟨Ih, qx, f2, a31, a34, f4, f5, Zh, nh, gh, bh⟩ := id Q
    refine cw_l0 aj_d73 rfl rfl hl6 ?_
    refine cw_l2 aj_d73 rfl rfl hl0 ?_
    refine cw_l0 aj_d73 rfl rfl hl3 ?_
    refine cw_k0 (i := 39) (t := 52) (con' := ap_c69) aj_d73 htb hT rfl rfl [_] rfl rfl (cw_s0 hB rfl) rfl (Nat.le_of_ble_eq_true rfl) ⟨by decide, by decide⟩ (cw_a1 (by omega) (ap_1_69 htb (cw_SP1c _ _ rfl rfl) cw_hK) hT hB rfl ⟨(cw_gR (cw_s0 hB rfl) (by decide) (by decide)), (cw_gw (a := l3.toInt) rfl (by omega) (by omega)), trivial⟩) ?_
    rintro ru1147 h1147 hT1147 ho1147 hRu1147
    have f1148 : cw_F h1147 39 0 2 (.ref (52 + x)) := cw_trF ho1147 (by decide) f2
    have f1149 : cw_F h1147 39 0 5 (.int y) := cw_trF ho1147 (by decide) f5
    have f1150 : cw_F h1147 30 4 4 (.int n) := cw_trF ho1147 (by decide) f4
    have a1151 : cw_A h1147 31 0 2500 (.inl f) := cw_trA ho1147 (by decide) a31
    have a1152 : cw_A h1147 34 0 2500 (.inl g) := cw_trA ho1147 (by decide) a34
    obtain ⟨x1153, rfl, bx1153⟩ := cw_rI hRu1147
    show cw_W _ _ _ _ _ _ _ _ _ _ 32 lv [.int x1153, .int c6]
    refine cw_c (tgt := 92) aj_d73 rfl rfl (fun q1154 => ?_) (fun q1154 => ?_)
    · have q1154 : c6.toInt ≥ x1153.toInt := aw_t_ge (a := c6.toInt) (b := x1153.toInt) rfl rfl q1154
      refine cw_l0 aj_d73 rfl rfl hl4 ?_
      refine cw_n aj_d73 rfl rfl ?_
      refine cw_c (tgt := 106) aj_d73 rfl rfl (fun q1155 => ?_) (fun q1155 => ?_)
      · have q1155 : w4.toInt ≤ (6 : Int) := aw_t_le (a := w4.toInt) (b := (6 : Int)) rfl rfl q1155
        refine cw_n aj_d73 rfl rfl ?_
        refine cw_t0 (j := 6) aj_d73 rfl (by decide) rfl ?_
        obtain ⟨lv1156, elv1156⟩ : ∃ l, l = aj_set1 lv 6 (.int (Int32.ofInt 0)) := ⟨_, rfl⟩
        rw [← elv1156]
        have hlv1156_0 : aj_lv lv1156 0 = some (.ref (52 + 39)) := cw_e1 elv1156 hl0 (by decide) (Or.inl (by decide))
        have hlv1156_1 : aj_lv lv1156 1 = some (.int iv) := cw_e1 elv1156 hl1 (by decide) (Or.inl (by decide))
        have hlv1156_2 : aj_lv lv1156 2 = some (.int l2) := cw_e1 elv1156 hl2 (by decide) (Or.inl (by decide))
        have hlv1156_3 : aj_lv lv1156 3 = some (.int l3) := cw_e1 elv1156 hl3 (by decide) (Or.inl (by decide))
        have hlv1156_4 : aj_lv lv1156 4 = some (.int w4) := cw_e1 elv1156 hl4 (by decide) (Or.inl (by decide))
        have hlv1156_5 : aj_lv lv1156 5 = some (.int m5) := cw_e1 elv1156 hl5 (by decide) (Or.inr rfl)
        have hlv1156_6 : aj_lv lv1156 6 = some (.int (Int32.ofInt 0)) := by rw [elv1156]; exact ak_set1_eq _ _ _
        show cw_W _ _ _ _ _ _ _ _ _ _ 109 lv1156 []
        exact cw_cj_2 hd htb hB hx hi hy e2 e3 6 hT1147 (cw_CQ_eq (ho1147.trans rfl) Q) hlv1156_0 hlv1156_1 hlv1156_2 hlv1156_3 hlv1156_4 hlv1156_5 hlv1156_6 (by decide) (by decide)
      · have q1155 : w4.toInt > (6 : Int) := aw_t_le (a := w4.toInt) (b := (6 : Int)) rfl rfl q1155
        refine cw_l2 aj_d73 rfl rfl hl0 ?_
        refine cw_n aj_d73 rfl rfl ?_
        refine cw_l0 aj_d73 rfl rfl hl1 ?_
        refine cw_k0 (i := 39) (t := 52) (con' := ap_c71) aj_d73 htb hT1147 rfl rfl [_, _] rfl rfl (cw_s0 hB rfl) rfl (Nat.le_of_ble_eq_true rfl) ⟨by decide, by decide⟩ (cw_a2 (by omega) (ap_1_71 htb (cw_SPkc rfl rfl) cw_hK (cw_H1k htb)) hT1147 (cw_I_eq (ho1147.trans rfl) Ih) rfl ⟨(cw_gR (cw_s0 hB rfl) (by decide) (by decide)), (cw_gw (a := (5 : Int)) rfl (by omega) (by omega)), (cw_gw (a := iv.toInt) rfl (by omega) (by omega)), trivial⟩) ?_
        rintro ru1157 h1157 hT1157 ⟨Iu1157, ku1157, mu1157⟩ hRu1157
        obtain rfl := cw_rN hRu1157
        have Q1158 := cw_CQ_f Iu1157 ku1157 mu1157 (cw_CQ_eq (ho1147.trans rfl) Q)
        obtain ⟨Iq1158, qq1158, f2q1158, a31q1158, a34q1158, f4q1158, f5q1158, Zq1158, nq1158, gq1158, bq1158⟩ := id Q1158
        show cw_W _ _ _ _ _ _ _ _ _ _ 105 lv []
        refine cw_Wr aj_d73 rfl rfl hT1157 ?_ ?_
        · exact ⟨rfl, _, _, _, Q1158, by omega⟩
        · trivial
    · have q1154 : c6.toInt < x1153.toInt := aw_t_ge (a := c6.toInt) (b := x1153.toInt) rfl rfl q1154
      exfalso
      omega
  | succ M ih =>
    intro h lv kc ks w4 m5 c6 hT Q hl0 hl1 hl2 hl3 hl4 hl5 hl6 h6 h4 hN
    obtain ⟨Ih, qx, f2, a31, a34, f4, f5, Zh, nh, gh, bh⟩ := id Q
    refine cw_l0 aj_d73 rfl rfl hl6 ?_
    refine cw_l2 aj_d73 rfl rfl hl0 ?_
    refine cw_l0 aj_d73 rfl rfl hl3 ?_
    refine cw_k0 (i := 39) (t := 52) (con' := ap_c69) aj_d73 htb hT rfl rfl [_] rfl rfl (cw_s0 hB rfl) rfl (Nat.le_of_ble_eq_true rfl) ⟨by decide, by decide⟩ (cw_a1 (by omega) (ap_1_69 htb (cw_SP1c _ _ rfl rfl) cw_hK) hT hB rfl ⟨(cw_gR (cw_s0 hB rfl) (by decide) (by decide)), (cw_gw (a := l3.toInt) rfl (by omega) (by omega)), trivial⟩) ?_
    rintro ru1159 h1159 hT1159 ho1159 hRu1159
    have f1160 : cw_F h1159 39 0 2 (.ref (52 + x)) := cw_trF ho1159 (by decide) f2
    have f1161 : cw_F h1159 39 0 5 (.int y) := cw_trF ho1159 (by decide) f5
    have f1162 : cw_F h1159 30 4 4 (.int n) := cw_trF ho1159 (by decide) f4
    have a1163 : cw_A h1159 31 0 2500 (.inl f) := cw_trA ho1159 (by decide) a31
    have a1164 : cw_A h1159 34 0 2500 (.inl g) := cw_trA ho1159 (by decide) a34
    obtain ⟨x1165, rfl, bx1165⟩ := cw_rI hRu1159
    show cw_W _ _ _ _ _ _ _ _ _ _ 32 lv [.int x1165, .int c6]
    refine cw_c (tgt := 92) aj_d73 rfl rfl (fun q1166 => ?_) (fun q1166 => ?_)
    · have q1166 : c6.toInt ≥ x1165.toInt := aw_t_ge (a := c6.toInt) (b := x1165.toInt) rfl rfl q1166
      refine cw_l0 aj_d73 rfl rfl hl4 ?_
      refine cw_n aj_d73 rfl rfl ?_
      refine cw_c (tgt := 106) aj_d73 rfl rfl (fun q1167 => ?_) (fun q1167 => ?_)
      · have q1167 : w4.toInt ≤ (6 : Int) := aw_t_le (a := w4.toInt) (b := (6 : Int)) rfl rfl q1167
        refine cw_n aj_d73 rfl rfl ?_
        refine cw_t0 (j := 6) aj_d73 rfl (by decide) rfl ?_
        obtain ⟨lv1168, elv1168⟩ : ∃ l, l = aj_set1 lv 6 (.int (Int32.ofInt 0)) := ⟨_, rfl⟩
        rw [← elv1168]
        have hlv1168_0 : aj_lv lv1168 0 = some (.ref (52 + 39)) := cw_e1 elv1168 hl0 (by decide) (Or.inl (by decide))
        have hlv1168_1 : aj_lv lv1168 1 = some (.int iv) := cw_e1 elv1168 hl1 (by decide) (Or.inl (by decide))
        have hlv1168_2 : aj_lv lv1168 2 = some (.int l2) := cw_e1 elv1168 hl2 (by decide) (Or.inl (by decide))
        have hlv1168_3 : aj_lv lv1168 3 = some (.int l3) := cw_e1 elv1168 hl3 (by decide) (Or.inl (by decide))
        have hlv1168_4 : aj_lv lv1168 4 = some (.int w4) := cw_e1 elv1168 hl4 (by decide) (Or.inl (by decide))
        have hlv1168_5 : aj_lv lv1168 5 = some (.int m5) := cw_e1 elv1168 hl5 (by decide) (Or.inr rfl)
        have hlv1168_6 : aj_lv lv1168 6 = some (.int (Int32.ofInt 0)) := by rw [elv1168]; exact ak_set1_eq _ _ _
        show cw_W _ _ _ _ _ _ _ _ _ _ 109 lv1168 []
        exact cw_cj_2 hd htb hB hx hi hy e2 e3 6 hT1159 (cw_CQ_eq (ho1159.trans rfl) Q) hlv1168_0 hlv1168_1 hlv1168_2 hlv1168_3 hlv1168_4 hlv1168_5 hlv1168_6 (by decide) (by decide)
      · have q1167 : w4.toInt > (6 : Int) := aw_t_le (a := w4.toInt) (b := (6 : Int)) rfl rfl q1167
        refine cw_l2 aj_d73 rfl rfl hl0 ?_
        refine cw_n aj_d73 rfl rfl ?_
        refine cw_l0 aj_d73 rfl rfl hl1 ?_
        refine cw_k0 (i := 39) (t := 52) (con' := ap_c71) aj_d73 htb hT1159 rfl rfl [_, _] rfl rfl (cw_s0 hB rfl) rfl (Nat.le_of_ble_eq_true rfl) ⟨by decide, by decide⟩ (cw_a2 (by omega) (ap_1_71 htb (cw_SPkc rfl rfl) cw_hK (cw_H1k htb)) hT1159 (cw_I_eq (ho1159.trans rfl) Ih) rfl ⟨(cw_gR (cw_s0 hB rfl) (by decide) (by decide)), (cw_gw (a := (5 : Int)) rfl (by omega) (by omega)), (cw_gw (a := iv.toInt) rfl (by omega) (by omega)), trivial⟩) ?_
        rintro ru1169 h1169 hT1169 ⟨Iu1169, ku1169, mu1169⟩ hRu1169
        obtain rfl := cw_rN hRu1169
        have Q1170 := cw_CQ_f Iu1169 ku1169 mu1169 (cw_CQ_eq (ho1159.trans rfl) Q)
        obtain ⟨Iq1170, qq1170, f2q1170, a31q1170, a34q1170, f4q1170, f5q1170, Zq1170, nq1170, gq1170, bq1170⟩ := id Q1170
        show cw_W _ _ _ _ _ _ _ _ _ _ 105 lv []
        refine cw_Wr aj_d73 rfl rfl hT1169 ?_ ?_
        · exact ⟨rfl, _, _, _, Q1170, by omega⟩
        · trivial
    · have q1166 : c6.toInt < x1165.toInt := aw_t_ge (a := c6.toInt) (b := x1165.toInt) rfl rfl q1166
      refine cw_l2 aj_d73 rfl rfl hl0 ?_
      refine cw_l0 aj_d73 rfl rfl hl2 ?_
      refine cw_l2 aj_d73 rfl rfl hl0 ?_
      refine cw_l0 aj_d73 rfl rfl hl3 ?_
      refine cw_l0 aj_d73 rfl rfl hl6 ?_
      refine cw_k0 (i := 39) (t := 52) (con' := ap_c70) aj_d73 htb hT1159 rfl rfl [_, _] rfl rfl (cw_s0 hB rfl) rfl (Nat.le_of_ble_eq_true rfl) ⟨by decide, by decide⟩ (cw_a1 (by omega) (ap_1_70 htb (cw_SP1c _ _ rfl rfl) cw_hK) hT1159 hB rfl ⟨(cw_gR (cw_s0 hB rfl) (by decide) (by decide)), (cw_gw (a := l3.toInt) rfl (by omega) (by omega)), (cw_gw (a := c6.toInt) rfl (by omega) (by omega)), trivial⟩) ?_
      rintro ru1171 h1171 hT1171 ho1171 hRu1171
      have f1172 : cw_F h1171 39 0 2 (.ref (52 + x)) := cw_trF ho1171 (by decide) f1160
      have f1173 : cw_F h1171 39 0 5 (.int y) := cw_trF ho1171 (by decide) f1161
      have f1174 : cw_F h1171 30 4 4 (.int n) := cw_trF ho1171 (by decide) f1162
      have a1175 : cw_A h1171 31 0 2500 (.inl f) := cw_trA ho1171 (by decide) a1163
      have a1176 : cw_A h1171 34 0 2500 (.inl g) := cw_trA ho1171 (by decide) a1164
      obtain ⟨y1177, rfl⟩ := cw_rL hRu1171
      show cw_W _ _ _ _ _ _ _ _ _ _ 44 lv [.long y1177, .int l2, .ref (52 + 39)]
      refine cw_k0 (i := 39) (t := 52) (con' := ap_c74) aj_d73 htb hT1171 rfl rfl [_, _] rfl rfl (cw_s0 hB rfl) rfl (Nat.le_of_ble_eq_true rfl) ⟨by decide, by decide⟩ (cw_a1 (by omega) (ap_1_74 htb (cw_SP1c _ _ rfl rfl) cw_hK) hT1171 hB rfl ⟨(cw_gR (cw_s0 hB rfl) (by decide) (by decide)), (cw_gw (a := l2.toInt) rfl (by omega) (by omega)), trivial, trivial⟩) ?_
      rintro ru1178 h1178 hT1178 ho1178 hRu1178
      have f1179 : cw_F h1178 39 0 2 (.ref (52 + x)) := cw_trF ho1178 (by decide) f1172
      have f1180 : cw_F h1178 39 0 5 (.int y) := cw_trF ho1178 (by decide) f1173
      have f1181 : cw_F h1178 30 4 4 (.int n) := cw_trF ho1178 (by decide) f1174
      have a1182 : cw_A h1178 31 0 2500 (.inl f) := cw_trA ho1178 (by decide) a1175
      have a1183 : cw_A h1178 34 0 2500 (.inl g) := cw_trA ho1178 (by decide) a1176
      obtain ⟨x1184, rfl, bx1184⟩ := cw_rI hRu1178
      show cw_W _ _ _ _ _ _ _ _ _ _ 47 lv [.int x1184]
      refine cw_t0 (j := 7) aj_d73 rfl (by decide) rfl ?_
      obtain ⟨lv1185, elv1185⟩ : ∃ l, l = aj_set1 lv 7 (.int x1184) := ⟨_, rfl⟩
      rw [← elv1185]
      have hlv1185_0 : aj_lv lv1185 0 = some (.ref (52 + 39)) := cw_e1 elv1185 hl0 (by decide) (Or.inl (by decide))
      have hlv1185_1 : aj_lv lv1185 1 = some (.int iv) := cw_e1 elv1185 hl1 (by decide) (Or.inl (by decide))
      have hlv1185_2 : aj_lv lv1185 2 = some (.int l2) := cw_e1 elv1185 hl2 (by decide) (Or.inl (by decide))
      have hlv1185_3 : aj_lv lv1185 3 = some (.int l3) := cw_e1 elv1185 hl3 (by decide) (Or.inl (by decide))
      have hlv1185_4 : aj_lv lv1185 4 = some (.int w4) := cw_e1 elv1185 hl4 (by decide) (Or.inl (by decide))
      have hlv1185_5 : aj_lv lv1185 5 = some (.int m5) := cw_e1 elv1185 hl5 (by decide) (Or.inl (by decide))
      have hlv1185_6 : aj_lv lv1185 6 = some (.int c6) := cw_e1 elv1185 hl6 (by decide) (Or.inr rfl)
      have hlv1185_7 : aj_lv lv1185 7 = some (.int x1184) := by rw [elv1185]; exact ak_set1_eq _ _ _
      show cw_W _ _ _ _ _ _ _ _ _ _ 49 lv1185 []
      refine cw_l0 aj_d73 rfl rfl hlv1185_5 ?_
      refine cw_l0 aj_d73 rfl rfl hlv1185_7 ?_
      refine cw_z (tgt := 61) aj_d73 rfl rfl (fun q1186 => ?_) (fun q1186 => ?_)
      · have q1186 : x1184.toInt ≥ (0 : Int) := aw_t_ge (a := x1184.toInt) (b := (0 : Int)) rfl rfl q1186
        refine cw_l0 aj_d73 rfl rfl hlv1185_7 ?_
        refine cw_n aj_d73 rfl rfl ?_
        refine cw_l0 aj_d73 rfl rfl hlv1185_6 ?_
        refine cw_mul aj_d73 rfl (a := (3 : Int)) (b := c6.toInt) rfl rfl (by omega) (by omega) (fun x1187 ex1187 => ?_)
        refine cw_any aj_d73 rfl rfl (fun x1188 ex1188 => ?_)
        refine cw_any aj_d73 rfl rfl (fun x1189 ex1189 => ?_)
        refine cw_t0 (j := 5) aj_d73 rfl (by decide) rfl ?_
        obtain ⟨lv1190, elv1190⟩ : ∃ l, l = aj_set1 lv1185 5 (.int x1189) := ⟨_, rfl⟩
        rw [← elv1190]
        have hlv1190_7 : aj_lv lv1190 7 = some (.int x1184) := cw_e1 elv1190 hlv1185_7 (by decide) (Or.inl (by decide))
        have hlv1190_0 : aj_lv lv1190 0 = some (.ref (52 + 39)) := cw_e1 elv1190 hlv1185_0 (by decide) (Or.inl (by decide))
        have hlv1190_1 : aj_lv lv1190 1 = some (.int iv) := cw_e1 elv1190 hlv1185_1 (by decide) (Or.inl (by decide))
        have hlv1190_2 : aj_lv lv1190 2 = some (.int l2) := cw_e1 elv1190 hlv1185_2 (by decide) (Or.inl (by decide))
        have hlv1190_3 : aj_lv lv1190 3 = some (.int l3) := cw_e1 elv1190 hlv1185_3 (by decide) (Or.inl (by decide))
        have hlv1190_4 : aj_lv lv1190 4 = some (.int w4) := cw_e1 elv1190 hlv1185_4 (by decide) (Or.inr rfl)
        have hlv1190_6 : aj_lv lv1190 6 = some (.int c6) := cw_e1 elv1190 hlv1185_6 (by decide) (Or.inl (by decide))
        have hlv1190_5 : aj_lv lv1190 5 = some (.int x1189) := by rw [elv1190]; exact ak_set1_eq _ _ _
        show cw_W _ _ _ _ _ _ _ _ _ _ 71 lv1190 []
        refine cw_l0 aj_d73 rfl rfl hlv1190_4 ?_
        refine cw_l0 aj_d73 rfl rfl hlv1190_7 ?_
        refine cw_z (tgt := 82) aj_d73 rfl rfl (fun q1191 => ?_) (fun q1191 => ?_)
        · have q1191 : x1184.toInt ≥ (0 : Int) := aw_t_ge (a := x1184.toInt) (b := (0 : Int)) rfl rfl q1191
          refine cw_n aj_d73 rfl rfl ?_
          refine cw_add aj_d73 rfl (a := w4.toInt) (b := (0 : Int)) rfl rfl (by omega) (by omega) (fun x1192 ex1192 => ?_)
          refine cw_t0 (j := 4) aj_d73 rfl (by decide) rfl ?_
          obtain ⟨lv1193, elv1193⟩ : ∃ l, l = aj_set1 lv1190 4 (.int x1192) := ⟨_, rfl⟩
          rw [← elv1193]
          have hlv1193_5 : aj_lv lv1193 5 = some (.int x1189) := cw_e1 elv1193 hlv1190_5 (by decide) (Or.inl (by decide))
          have hlv1193_7 : aj_lv lv1193 7 = some (.int x1184) := cw_e1 elv1193 hlv1190_7 (by decide) (Or.inl (by decide))
          have hlv1193_0 : aj_lv lv1193 0 = some (.ref (52 + 39)) := cw_e1 elv1193 hlv1190_0 (by decide) (Or.inl (by decide))
          have hlv1193_1 : aj_lv lv1193 1 = some (.int iv) := cw_e1 elv1193 hlv1190_1 (by decide) (Or.inl (by decide))
          have hlv1193_2 : aj_lv lv1193 2 = some (.int l2) := cw_e1 elv1193 hlv1190_2 (by decide) (Or.inl (by decide))
          have hlv1193_3 : aj_lv lv1193 3 = some (.int l3) := cw_e1 elv1193 hlv1190_3 (by decide) (Or.inr rfl)
          have hlv1193_6 : aj_lv lv1193 6 = some (.int c6) := cw_e1 elv1193 hlv1190_6 (by decide) (Or.inl (by decide))
          have hlv1193_4 : aj_lv lv1193 4 = some (.int x1192) := by rw [elv1193]; exact ak_set1_eq _ _ _
          show cw_W _ _ _ _ _ _ _ _ _ _ 86 lv1193 []
          refine cw_inc aj_d73 rfl hlv1193_6 (a := c6.toInt) rfl (by omega) (by omega) (by decide) (by decide) (fun x1194 ex1194 => ?_)
          obtain ⟨lv1195, elv1195⟩ : ∃ l, l = aj_set1 lv1193 6 (.int x1194) := ⟨_, rfl⟩
          rw [← elv1195]
          have hlv1195_4 : aj_lv lv1195 4 = some (.int x1192) := cw_e1 elv1195 hlv1193_4 (by decide) (Or.inl (by decide))
          have hlv1195_5 : aj_lv lv1195 5 = some (.int x1189) := cw_e1 elv1195 hlv1193_5 (by decide) (Or.inr rfl)
          have hlv1195_7 : aj_lv lv1195 7 = some (.int x1184) := cw_e1 elv1195 hlv1193_7 (by decide) (Or.inl (by decide))
          have hlv1195_0 : aj_lv lv1195 0 = some (.ref (52 + 39)) := cw_e1 elv1195 hlv1193_0 (by decide) (Or.inl (by decide))
          have hlv1195_1 : aj_lv lv1195 1 = some (.int iv) := cw_e1 elv1195 hlv1193_1 (by decide) (Or.inl (by decide))
          have hlv1195_2 : aj_lv lv1195 2 = some (.int l2) := cw_e1 elv1195 hlv1193_2 (by decide) (Or.inl (by decide))
          have hlv1195_3 : aj_lv lv1195 3 = some (.int l3) := cw_e1 elv1195 hlv1193_3 (by decide) (Or.inl (by decide))
          have hlv1195_6 : aj_lv lv1195 6 = some (.int x1194) := by rw [elv1195]; exact ak_set1_eq _ _ _
          show cw_W _ _ _ _ _ _ _ _ _ _ 89 lv1195 []
          refine cw_n aj_d73 rfl rfl ?_
          exact ih hT1178 (cw_CQ_eq (ho1178.trans (ho1171.trans (ho1159.trans rfl))) Q) hlv1195_0 hlv1195_1 hlv1195_2 hlv1195_3 hlv1195_4 hlv1195_5 hlv1195_6 (by omega) (by omega) (by omega)
        · have q1191 : x1184.toInt < (0 : Int) := aw_t_ge (a := x1184.toInt) (b := (0 : Int)) rfl rfl q1191
          refine cw_n aj_d73 rfl rfl ?_
          refine cw_n aj_d73 rfl rfl ?_
          refine cw_add aj_d73 rfl (a := w4.toInt) (b := (1 : Int)) rfl rfl (by omega) (by omega) (fun x1196 ex1196 => ?_)
          refine cw_t0 (j := 4) aj_d73 rfl (by decide) rfl ?_
          obtain ⟨lv1197, elv1197⟩ : ∃ l, l = aj_set1 lv1190 4 (.int x1196) := ⟨_, rfl⟩
          rw [← elv1197]
          have hlv1197_5 : aj_lv lv1197 5 = some (.int x1189) := cw_e1 elv1197 hlv1190_5 (by decide) (Or.inl (by decide))
          have hlv1197_7 : aj_lv lv1197 7 = some (.int x1184) := cw_e1 elv1197 hlv1190_7 (by decide) (Or.inl (by decide))
          have hlv1197_0 : aj_lv lv1197 0 = some (.ref (52 + 39)) := cw_e1 elv1197 hlv1190_0 (by decide) (Or.inl (by decide))
          have hlv1197_1 : aj_lv lv1197 1 = some (.int iv) := cw_e1 elv1197 hlv1190_1 (by decide) (Or.inl (by decide))
          have hlv1197_2 : aj_lv lv1197 2 = some (.int l2) := cw_e1 elv1197 hlv1190_2 (by decide) (Or.inl (by decide))
          have hlv1197_3 : aj_lv lv1197 3 = some (.int l3) := cw_e1 elv1197 hlv1190_3 (by decide) (Or.inr rfl)
          have hlv1197_6 : aj_lv lv1197 6 = some (.int c6) := cw_e1 elv1197 hlv1190_6 (by decide) (Or.inl (by decide))
          have hlv1197_4 : aj_lv lv1197 4 = some (.int x1196) := by rw [elv1197]; exact ak_set1_eq _ _ _
          show cw_W _ _ _ _ _ _ _ _ _ _ 86 lv1197 []
          refine cw_inc aj_d73 rfl hlv1197_6 (a := c6.toInt) rfl (by omega) (by omega) (by decide) (by decide) (fun x1198 ex1198 => ?_)
          obtain ⟨lv1199, elv1199⟩ : ∃ l, l = aj_set1 lv1197 6 (.int x1198) := ⟨_, rfl⟩
          rw [← elv1199]
          have hlv1199_4 : aj_lv lv1199 4 = some (.int x1196) := cw_e1 elv1199 hlv1197_4 (by decide) (Or.inl (by decide))
          have hlv1199_5 : aj_lv lv1199 5 = some (.int x1189) := cw_e1 elv1199 hlv1197_5 (by decide) (Or.inr rfl)
          have hlv1199_7 : aj_lv lv1199 7 = some (.int x1184) := cw_e1 elv1199 hlv1197_7 (by decide) (Or.inl (by decide))
          have hlv1199_0 : aj_lv lv1199 0 = some (.ref (52 + 39)) := cw_e1 elv1199 hlv1197_0 (by decide) (Or.inl (by decide))
          have hlv1199_1 : aj_lv lv1199 1 = some (.int iv) := cw_e1 elv1199 hlv1197_1 (by decide) (Or.inl (by decide))
          have hlv1199_2 : aj_lv lv1199 2 = some (.int l2) := cw_e1 elv1199 hlv1197_2 (by decide) (Or.inl (by decide))
          have hlv1199_3 : aj_lv lv1199 3 = some (.int l3) := cw_e1 elv1199 hlv1197_3 (by decide) (Or.inl (by decide))
          have hlv1199_6 : aj_lv lv1199 6 = some (.int x1198) := by rw [elv1199]; exact ak_set1_eq _ _ _
          show cw_W _ _ _ _ _ _ _ _ _ _ 89 lv1199 []
          refine cw_n aj_d73 rfl rfl ?_
          exact ih hT1178 (cw_CQ_eq (ho1178.trans (ho1171.trans (ho1159.trans rfl))) Q) hlv1199_0 hlv1199_1 hlv1199_2 hlv1199_3 hlv1199_4 hlv1199_5 hlv1199_6 (by omega) (by omega) (by omega)
      · have q1186 : x1184.toInt < (0 : Int) := aw_t_ge (a := x1184.toInt) (b := (0 : Int)) rfl rfl q1186
        refine cw_n aj_d73 rfl rfl ?_
        refine cw_n aj_d73 rfl rfl ?_
        refine cw_n aj_d73 rfl rfl ?_
        refine cw_l0 aj_d73 rfl rfl hlv1185_6 ?_
        refine cw_mul aj_d73 rfl (a := (3 : Int)) (b := c6.toInt) rfl rfl (by omega) (by omega) (fun x1200 ex1200 => ?_)
        refine cw_any aj_d73 rfl rfl (fun x1201 ex1201 => ?_)
        refine cw_any aj_d73 rfl rfl (fun x1202 ex1202 => ?_)
        refine cw_t0 (j := 5) aj_d73 rfl (by decide) rfl ?_
        obtain ⟨lv1203, elv1203⟩ : ∃ l, l = aj_set1 lv1185 5 (.int x1202) := ⟨_, rfl⟩
        rw [← elv1203]
        have hlv1203_7 : aj_lv lv1203 7 = some (.int x1184) := cw_e1 elv1203 hlv1185_7 (by decide) (Or.inl (by decide))
        have hlv1203_0 : aj_lv lv1203 0 = some (.ref (52 + 39)) := cw_e1 elv1203 hlv1185_0 (by decide) (Or.inl (by decide))
        have hlv1203_1 : aj_lv lv1203 1 = some (.int iv) := cw_e1 elv1203 hlv1185_1 (by decide) (Or.inl (by decide))
        have hlv1203_2 : aj_lv lv1203 2 = some (.int l2) := cw_e1 elv1203 hlv1185_2 (by decide) (Or.inl (by decide))
        have hlv1203_3 : aj_lv lv1203 3 = some (.int l3) := cw_e1 elv1203 hlv1185_3 (by decide) (Or.inl (by decide))
        have hlv1203_4 : aj_lv lv1203 4 = some (.int w4) := cw_e1 elv1203 hlv1185_4 (by decide) (Or.inr rfl)
        have hlv1203_6 : aj_lv lv1203 6 = some (.int c6) := cw_e1 elv1203 hlv1185_6 (by decide) (Or.inl (by decide))
        have hlv1203_5 : aj_lv lv1203 5 = some (.int x1202) := by rw [elv1203]; exact ak_set1_eq _ _ _
        show cw_W _ _ _ _ _ _ _ _ _ _ 71 lv1203 []
        refine cw_l0 aj_d73 rfl rfl hlv1203_4 ?_
        refine cw_l0 aj_d73 rfl rfl hlv1203_7 ?_
        refine cw_z (tgt := 82) aj_d73 rfl rfl (fun q1204 => ?_) (fun q1204 => ?_)
        · have q1204 : x1184.toInt ≥ (0 : Int) := aw_t_ge (a := x1184.toInt) (b := (0 : Int)) rfl rfl q1204
          refine cw_n aj_d73 rfl rfl ?_
          refine cw_add aj_d73 rfl (a := w4.toInt) (b := (0 : Int)) rfl rfl (by omega) (by omega) (fun x1205 ex1205 => ?_)
          refine cw_t0 (j := 4) aj_d73 rfl (by decide) rfl ?_
          obtain ⟨lv1206, elv1206⟩ : ∃ l, l = aj_set1 lv1203 4 (.int x1205) := ⟨_, rfl⟩
          rw [← elv1206]
          have hlv1206_5 : aj_lv lv1206 5 = some (.int x1202) := cw_e1 elv1206 hlv1203_5 (by decide) (Or.inl (by decide))
          have hlv1206_7 : aj_lv lv1206 7 = some (.int x1184) := cw_e1 elv1206 hlv1203_7 (by decide) (Or.inl (by decide))
          have hlv1206_0 : aj_lv lv1206 0 = some (.ref (52 + 39)) := cw_e1 elv1206 hlv1203_0 (by decide) (Or.inl (by decide))
          have hlv1206_1 : aj_lv lv1206 1 = some (.int iv) := cw_e1 elv1206 hlv1203_1 (by decide) (Or.inl (by decide))
          have hlv1206_2 : aj_lv lv1206 2 = some (.int l2) := cw_e1 elv1206 hlv1203_2 (by decide) (Or.inl (by decide))
          have hlv1206_3 : aj_lv lv1206 3 = some (.int l3) := cw_e1 elv1206 hlv1203_3 (by decide) (Or.inr rfl)
          have hlv1206_6 : aj_lv lv1206 6 = some (.int c6) := cw_e1 elv1206 hlv1203_6 (by decide) (Or.inl (by decide))
          have hlv1206_4 : aj_lv lv1206 4 = some (.int x1205) := by rw [elv1206]; exact ak_set1_eq _ _ _
          show cw_W _ _ _ _ _ _ _ _ _ _ 86 lv1206 []
          refine cw_inc aj_d73 rfl hlv1206_6 (a := c6.toInt) rfl (by omega) (by omega) (by decide) (by decide) (fun x1207 ex1207 => ?_)
          obtain ⟨lv1208, elv1208⟩ : ∃ l, l = aj_set1 lv1206 6 (.int x1207) := ⟨_, rfl⟩
          rw [← elv1208]
          have hlv1208_4 : aj_lv lv1208 4 = some (.int x1205) := cw_e1 elv1208 hlv1206_4 (by decide) (Or.inl (by decide))
          have hlv1208_5 : aj_lv lv1208 5 = some (.int x1202) := cw_e1 elv1208 hlv1206_5 (by decide) (Or.inr rfl)
          have hlv1208_7 : aj_lv lv1208 7 = some (.int x1184) := cw_e1 elv1208 hlv1206_7 (by decide) (Or.inl (by decide))
          have hlv1208_0 : aj_lv lv1208 0 = some (.ref (52 + 39)) := cw_e1 elv1208 hlv1206_0 (by decide) (Or.inl (by decide))
          have hlv1208_1 : aj_lv lv1208 1 = some (.int iv) := cw_e1 elv1208 hlv1206_1 (by decide) (Or.inl (by decide))
          have hlv1208_2 : aj_lv lv1208 2 = some (.int l2) := cw_e1 elv1208 hlv1206_2 (by decide) (Or.inl (by decide))
          have hlv1208_3 : aj_lv lv1208 3 = some (.int l3) := cw_e1 elv1208 hlv1206_3 (by decide) (Or.inl (by decide))
          have hlv1208_6 : aj_lv lv1208 6 = some (.int x1207) := by rw [elv1208]; exact ak_set1_eq _ _ _
          show cw_W _ _ _ _ _ _ _ _ _ _ 89 lv1208 []
          refine cw_n aj_d73 rfl rfl ?_
          exact ih hT1178 (cw_CQ_eq (ho1178.trans (ho1171.trans (ho1159.trans rfl))) Q) hlv1208_0 hlv1208_1 hlv1208_2 hlv1208_3 hlv1208_4 hlv1208_5 hlv1208_6 (by omega) (by omega) (by omega)
        · have q1204 : x1184.toInt < (0 : Int) := aw_t_ge (a := x1184.toInt) (b := (0 : Int)) rfl rfl q1204
          refine cw_n aj_d73 rfl rfl ?_
          refine cw_n aj_d73 rfl rfl ?_
          refine cw_add aj_d73 rfl (a := w4.toInt) (b := (1 : Int)) rfl rfl (by omega) (by omega) (fun x1209 ex1209 => ?_)
          refine cw_t0 (j := 4) aj_d73 rfl (by decide) rfl ?_
          obtain ⟨lv1210, elv1210⟩ : ∃ l, l = aj_set1 lv1203 4 (.int x1209) := ⟨_, rfl⟩
          rw [← elv1210]
          have hlv1210_5 : aj_lv lv1210 5 = some (.int x1202) := cw_e1 elv1210 hlv1203_5 (by decide) (Or.inl (by decide))
          have hlv1210_7 : aj_lv lv1210 7 = some (.int x1184) := cw_e1 elv1210 hlv1203_7 (by decide) (Or.inl (by decide))
          have hlv1210_0 : aj_lv lv1210 0 = some (.ref (52 + 39)) := cw_e1 elv1210 hlv1203_0 (by decide) (Or.inl (by decide))
          have hlv1210_1 : aj_lv lv1210 1 = some (.int iv) := cw_e1 elv1210 hlv1203_1 (by decide) (Or.inl (by decide))
          have hlv1210_2 : aj_lv lv1210 2 = some (.int l2) := cw_e1 elv1210 hlv1203_2 (by decide) (Or.inl (by decide))
          have hlv1210_3 : aj_lv lv1210 3 = some (.int l3) := cw_e1 elv1210 hlv1203_3 (by decide) (Or.inr rfl)
          have hlv1210_6 : aj_lv lv1210 6 = some (.int c6) := cw_e1 elv1210 hlv1203_6 (by decide) (Or.inl (by decide))
          have hlv1210_4 : aj_lv lv1210 4 = some (.int x1209) := by rw [elv1210]; exact ak_set1_eq _ _ _
          show cw_W _ _ _ _ _ _ _ _ _ _ 86 lv1210 []
          refine cw_inc aj_d73 rfl hlv1210_6 (a := c6.toInt) rfl (by omega) (by omega) (by decide) (by decide) (fun x1211 ex1211 => ?_)
          obtain ⟨lv1212, elv1212⟩ : ∃ l, l = aj_set1 lv1210 6 (.int x1211) := ⟨_, rfl⟩
          rw [← elv1212]
          have hlv1212_4 : aj_lv lv1212 4 = some (.int x1209) := cw_e1 elv1212 hlv1210_4 (by decide) (Or.inl (by decide))
          have hlv1212_5 : aj_lv lv1212 5 = some (.int x1202) := cw_e1 elv1212 hlv1210_5 (by decide) (Or.inr rfl)
          have hlv1212_7 : aj_lv lv1212 7 = some (.int x1184) := cw_e1 elv1212 hlv1210_7 (by decide) (Or.inl (by decide))
          have hlv1212_0 : aj_lv lv1212 0 = some (.ref (52 + 39)) := cw_e1 elv1212 hlv1210_0 (by decide) (Or.inl (by decide))
          have hlv1212_1 : aj_lv lv1212 1 = some (.int iv) := cw_e1 elv1212 hlv1210_1 (by decide) (Or.inl (by decide))
          have hlv1212_2 : aj_lv lv1212 2 = some (.int l2) := cw_e1 elv1212 hlv1210_2 (by decide) (Or.inl (by decide))
          have hlv1212_3 : aj_lv lv1212 3 = some (.int l3) := cw_e1 elv1212 hlv1210_3 (by decide) (Or.inl (by decide))
          have hlv1212_6 : aj_lv lv1212 6 = some (.int x1211) := by rw [elv1212]; exact ak_set1_eq _ _ _
          show cw_W _ _ _ _ _ _ _ _ _ _ 89 lv1212 []
          refine cw_n aj_d73 rfl rfl ?_
          exact ih hT1178 (cw_CQ_eq (ho1178.trans (ho1171.trans (ho1159.trans rfl))) Q) hlv1212_0 hlv1212_1 hlv1212_2 hlv1212_3 hlv1212_4 hlv1212_5 hlv1212_6 (by omega) (by omega) (by omega)
theorem cw_cjoin (htb : ak_tbOK ak_C1 tb) (hT : ak_Ty ak_C1 s h) (hd : 3 ≤ d)  (hx : x = 2 ∨ x = 14) (hi : 0 ≤ iv.toInt ∧ iv.toInt ≤ 2499) (hy : -2600 ≤ y.toInt ∧ y.toInt ≤ 2600) (hQ : cw_CQ N bb x n f iv g0 n0 B y nt g s h) : cw_K ak_C1 (fun s' r h' => s' = s ∧ ∃ (y' nt' : Int32) (g' : Nat → Int32), cw_CQ N bb x n f iv g0 n0 B y' nt' g' s' h' ∧ y'.toInt = y.toInt) tb d (cw_nC 73 none) [.ref (52 + 39), .int iv] s h := by
  obtain ⟨d, rfl⟩ : ∃ e, d = e + 1 := ⟨d - 1, by omega⟩
  obtain ⟨Ih, qx, f2, a31, a34, f4, f5, Zh, nh, gh, bh⟩ := id hQ
  have hB := Ih.1
  refine cw_m (con := cw_nC 73 none) aj_m73_at (Nat.le_of_ble_eq_true rfl) ?_
  show cw_W _ _ _ _ _ _ _ _ _ _ 0 [(0, .ref (52 + 39)), (1, .int iv)] []
  refine cw_n aj_d73 rfl rfl ?_
  refine cw_g (i := 39) (v := .int y) htb.1 aj_d73 rfl rfl (by decide) f5 ?_
  refine cw_n aj_d73 rfl rfl ?_
  refine cw_sub aj_d73 rfl (a := y.toInt) (b := (1 : Int)) rfl rfl (by omega) (by omega) (fun x1213 ex1213 => ?_)
  refine cw_n aj_d73 rfl rfl ?_
  show cw_W _ _ _ _ _ _ _ _ _ _ 7 [(2, .int x1213), (0, .ref (52 + 39)), (1, .int iv)] []
  refine cw_n aj_d73 rfl rfl ?_
  refine cw_g (i := 39) (v := .int y) htb.1 aj_d73 rfl rfl (by decide) f5 ?_
  refine cw_n aj_d73 rfl rfl ?_
  show cw_W _ _ _ _ _ _ _ _ _ _ 12 [(3, .int y), (2, .int x1213), (0, .ref (52 + 39)), (1, .int iv)] []
  refine cw_n aj_d73 rfl rfl ?_
  refine cw_n aj_d73 rfl rfl ?_
  refine cw_k0 (i := 39) (t := 52) (con' := ap_c69) aj_d73 htb hT rfl rfl [_] rfl rfl (cw_s0 hB rfl) rfl (Nat.le_of_ble_eq_true rfl) ⟨by decide, by decide⟩ (cw_a1 (by omega) (ap_1_69 htb (cw_SP1c _ _ rfl rfl) cw_hK) hT hB rfl ⟨(cw_gR (cw_s0 hB rfl) (by decide) (by decide)), (cw_gw (a := x1213.toInt) rfl (by omega) (by omega)), trivial⟩) ?_
  rintro ru1214 h1214 hT1214 ho1214 hRu1214
  have f1215 : cw_F h1214 39 0 2 (.ref (52 + x)) := cw_trF ho1214 (by decide) f2
  have f1216 : cw_F h1214 39 0 5 (.int y) := cw_trF ho1214 (by decide) f5
  have f1217 : cw_F h1214 30 4 4 (.int n) := cw_trF ho1214 (by decide) f4
  have a1218 : cw_A h1214 31 0 2500 (.inl f) := cw_trA ho1214 (by decide) a31
  have a1219 : cw_A h1214 34 0 2500 (.inl g) := cw_trA ho1214 (by decide) a34
  obtain ⟨x1220, rfl, bx1220⟩ := cw_rI hRu1214
  show cw_W _ _ _ _ _ _ _ _ _ _ 17 [(3, .int y), (2, .int x1213), (0, .ref (52 + 39)), (1, .int iv)] [.int x1220]
  refine cw_n aj_d73 rfl rfl ?_
  show cw_W _ _ _ _ _ _ _ _ _ _ 19 [(4, .int x1220), (3, .int y), (2, .int x1213), (0, .ref (52 + 39)), (1, .int iv)] []
  refine cw_n aj_d73 rfl rfl ?_
  refine cw_n aj_d73 rfl rfl ?_
  show cw_W _ _ _ _ _ _ _ _ _ _ 22 [(5, .int (Int32.ofInt 0)), (4, .int x1220), (3, .int y), (2, .int x1213), (0, .ref (52 + 39)), (1, .int iv)] []
  refine cw_n aj_d73 rfl rfl ?_
  refine cw_n aj_d73 rfl rfl ?_
  show cw_W _ _ _ _ _ _ _ _ _ _ 25 [(6, .int (Int32.ofInt 0)), (5, .int (Int32.ofInt 0)), (4, .int x1220), (3, .int y), (2, .int x1213), (0, .ref (52 + 39)), (1, .int iv)] []
  exact cw_cj_1 (by omega) htb hB hx hi hy (by omega) (by omega) 6 hT1214 (cw_CQ_eq (ho1214.trans rfl) hQ) rfl rfl rfl rfl rfl rfl rfl (by decide) ⟨by omega, by rw [show (Int32.ofInt 0).toInt = 0 from rfl]; omega⟩ (by decide)
theorem cw_cq211 (htb : ak_tbOK ak_C1 tb) (hT : ak_Ty ak_C1 s h) (hd : 4 ≤ d)  (hx : x = 2 ∨ x = 14) (hi : 0 ≤ iv.toInt ∧ iv.toInt ≤ 2499) (hy : -2590 ≤ y.toInt ∧ y.toInt ≤ 2590) (hQ : cw_CQ N bb x n f iv g0 n0 B y nt g s h) : cw_K ak_C1 (fun s' r h' => s' = s ∧ ∃ (y' nt' : Int32) (g' : Nat → Int32), cw_CQ N bb x n f iv g0 n0 B y' nt' g' s' h' ∧ (y.toInt - 1 ≤ y'.toInt ∧ y'.toInt ≤ y.toInt + 1)) tb d (cw_nC 58 none) [.ref (52 + 39), .int 211, .int iv] s h := by
  obtain ⟨d, rfl⟩ : ∃ e, d = e + 1 := ⟨d - 1, by omega⟩
  obtain ⟨Ih, qx, f2, a31, a34, f4, f5, Zh, nh, gh, bh⟩ := id hQ
  have hB := Ih.1
  refine cw_m (con := cw_nC 58 none) aj_m58_at (Nat.le_of_ble_eq_true rfl) ?_
  show cw_W _ _ _ _ _ _ _ _ _ _ 0 [(0, .ref (52 + 39)), (1, .int 211), (2, .int iv)] []
  refine cw_n aj_d58 rfl rfl ?_
  refine cw_tsw (tgt := 80) (a := (211 : Int)) aj_d58 rfl rfl ⟨by decide, by decide⟩ rfl rfl ?_
  refine cw_n aj_d58 rfl rfl ?_
  refine cw_n aj_d58 rfl rfl ?_
  refine cw_g (i := 39) (v := .int y) htb.1 aj_d58 rfl rfl (by decide) f5 ?_
  refine cw_n aj_d58 rfl rfl ?_
  refine cw_sub aj_d58 rfl (a := y.toInt) (b := (1 : Int)) rfl rfl (by omega) (by omega) (fun x1221 ex1221 => ?_)
  refine cw_p (i := 39) (t := 52) (c := 0) (k := 5) (v := .int x1221) (y := (.inl ((-3000), 3000))) htb aj_d58 rfl rfl hT (cw_s0 hB rfl) rfl rfl rfl (cw_gw (a := x1221.toInt) rfl (by omega) (by omega)) (by decide) rfl rfl (fun hT1222 => ?_)
  have f1223 : cw_F (cw_sf h 39 5 (.int x1221)) 39 0 2 (.ref (52 + x)) := cw_sf_ne f2 (Or.inr (by decide))
  have f1224 : cw_F (cw_sf h 39 5 (.int x1221)) 30 4 4 (.int n) := cw_sf_ne f4 (Or.inr (by decide))
  have a1225 : cw_A (cw_sf h 39 5 (.int x1221)) 31 0 2500 (.inl f) := cw_sf_A a31
  have a1226 : cw_A (cw_sf h 39 5 (.int x1221)) 34 0 2500 (.inl g) := cw_sf_A a34
  have f1227 : cw_F (cw_sf h 39 5 (.int x1221)) 39 0 5 (.int x1221) := cw_sf_same f5
  have Q1228 := cw_CQ_dep hT hQ x1221
  obtain ⟨Iq1228, qq1228, f2q1228, a31q1228, a34q1228, f4q1228, f5q1228, Zq1228, nq1228, gq1228, bq1228⟩ := id Q1228
  show cw_W _ _ _ _ _ _ _ _ _ _ 90 [(0, .ref (52 + 39)), (1, .int 211), (2, .int iv)] []
  refine cw_n aj_d58 rfl rfl ?_
  refine cw_n aj_d58 rfl rfl ?_
  refine cw_g (i := 39) (v := .int x1221) htb.1 aj_d58 rfl rfl (by decide) f5q1228 ?_
  refine cw_n aj_d58 rfl rfl ?_
  refine cw_sub aj_d58 rfl (a := x1221.toInt) (b := (1 : Int)) rfl rfl (by omega) (by omega) (fun x1229 ex1229 => ?_)
  refine cw_n aj_d58 rfl rfl ?_
  refine cw_g (i := 39) (v := .int x1221) htb.1 aj_d58 rfl rfl (by decide) f5q1228 ?_
  refine cw_k0 (i := 39) (t := 52) (con' := ap_c68) aj_d58 htb hT1222 rfl rfl [_, _] rfl rfl (cw_s0 hB rfl) rfl (Nat.le_of_ble_eq_true rfl) ⟨by decide, by decide⟩ (cw_a1 (by omega) (ap_1_68 htb (cw_SP1c _ _ rfl rfl) cw_hK) hT1222 hB rfl ⟨(cw_gR (cw_s0 hB rfl) (by decide) (by decide)), (cw_gw (a := x1229.toInt) rfl (by omega) (by omega)), (cw_gw (a := x1221.toInt) rfl (by omega) (by omega)), trivial⟩) ?_
  rintro ru1230 h1230 hT1230 ho1230 hRu1230
  have f1231 : cw_F h1230 39 0 2 (.ref (52 + x)) := cw_trF ho1230 (by decide) f2q1228
  have f1232 : cw_F h1230 39 0 5 (.int x1221) := cw_trF ho1230 (by decide) f5q1228
  have f1233 : cw_F h1230 30 4 4 (.int n) := cw_trF ho1230 (by decide) f4q1228
  have a1234 : cw_A h1230 31 0 2500 (.inl f) := cw_trA ho1230 (by decide) a31q1228
  have a1235 : cw_A h1230 34 0 2500 (.inl g) := cw_trA ho1230 (by decide) a34q1228
  obtain ⟨x1236, rfl, bx1236⟩ := cw_rI hRu1230
  show cw_W _ _ _ _ _ _ _ _ _ _ 104 [(0, .ref (52 + 39)), (1, .int 211), (2, .int iv)] [.int x1236]
  refine cw_z (tgt := 312) aj_d58 rfl rfl (fun q1237 => ?_) (fun q1237 => ?_)
  · have q1237 : x1236.toInt ≠ (0 : Int) := aw_t_ne (a := x1236.toInt) (b := (0 : Int)) rfl rfl q1237
    refine cw_Wr aj_d58 rfl rfl hT1230 ?_ ?_
    · exact ⟨rfl, _, _, _, (cw_CQ_eq (ho1230.trans rfl) Q1228), by omega, by omega⟩
    · trivial
  · have q1237 : x1236.toInt = (0 : Int) := aw_t_ne (a := x1236.toInt) (b := (0 : Int)) rfl rfl q1237
    refine cw_n aj_d58 rfl rfl ?_
    refine cw_n aj_d58 rfl rfl ?_
    refine cw_n aj_d58 rfl rfl ?_
    refine cw_k0 (i := 39) (t := 52) (con' := ap_c71) aj_d58 htb hT1230 rfl rfl [_, _] rfl rfl (cw_s0 hB rfl) rfl (Nat.le_of_ble_eq_true rfl) ⟨by decide, by decide⟩ (cw_a2 (by omega) (ap_1_71 htb (cw_SPkc rfl rfl) cw_hK (cw_H1k htb)) hT1230 (cw_I_eq (ho1230.trans rfl) Iq1228) rfl ⟨(cw_gR (cw_s0 hB rfl) (by decide) (by decide)), (cw_gw (a := (5 : Int)) rfl (by omega) (by omega)), (cw_gw (a := iv.toInt) rfl (by omega) (by omega)), trivial⟩) ?_
    rintro ru1238 h1238 hT1238 ⟨Iu1238, ku1238, mu1238⟩ hRu1238
    obtain rfl := cw_rN hRu1238
    have Q1239 := cw_CQ_f Iu1238 ku1238 mu1238 (cw_CQ_eq (ho1230.trans rfl) Q1228)
    obtain ⟨Iq1239, qq1239, f2q1239, a31q1239, a34q1239, f4q1239, f5q1239, Zq1239, nq1239, gq1239, bq1239⟩ := id Q1239
    show cw_W _ _ _ _ _ _ _ _ _ _ 113 [(0, .ref (52 + 39)), (1, .int 211), (2, .int iv)] []
    refine cw_n aj_d58 rfl rfl ?_
    refine cw_Wr aj_d58 rfl rfl hT1238 ?_ ?_
    · exact ⟨rfl, _, _, _, Q1239, by omega, by omega⟩
    · trivial
theorem cw_cq212 (htb : ak_tbOK ak_C1 tb) (hT : ak_Ty ak_C1 s h) (hd : 4 ≤ d)  (hx : x = 2 ∨ x = 14) (hi : 0 ≤ iv.toInt ∧ iv.toInt ≤ 2499) (hy : -2590 ≤ y.toInt ∧ y.toInt ≤ 2590) (hQ : cw_CQ N bb x n f iv g0 n0 B y nt g s h) : cw_K ak_C1 (fun s' r h' => s' = s ∧ ∃ (y' nt' : Int32) (g' : Nat → Int32), cw_CQ N bb x n f iv g0 n0 B y' nt' g' s' h' ∧ (y.toInt - 1 ≤ y'.toInt ∧ y'.toInt ≤ y.toInt + 1)) tb d (cw_nC 58 none) [.ref (52 + 39), .int 212, .int iv] s h := by
  obtain ⟨d, rfl⟩ : ∃ e, d = e + 1 := ⟨d - 1, by omega⟩
  obtain ⟨Ih, qx, f2, a31, a34, f4, f5, Zh, nh, gh, bh⟩ := id hQ
  have hB := Ih.1
  refine cw_m (con := cw_nC 58 none) aj_m58_at (Nat.le_of_ble_eq_true rfl) ?_
  show cw_W _ _ _ _ _ _ _ _ _ _ 0 [(0, .ref (52 + 39)), (1, .int 212), (2, .int iv)] []
  refine cw_n aj_d58 rfl rfl ?_
  refine cw_tsw (tgt := 80) (a := (212 : Int)) aj_d58 rfl rfl ⟨by decide, by decide⟩ rfl rfl ?_
  refine cw_n aj_d58 rfl rfl ?_
  refine cw_n aj_d58 rfl rfl ?_
  refine cw_g (i := 39) (v := .int y) htb.1 aj_d58 rfl rfl (by decide) f5 ?_
  refine cw_n aj_d58 rfl rfl ?_
  refine cw_sub aj_d58 rfl (a := y.toInt) (b := (1 : Int)) rfl rfl (by omega) (by omega) (fun x1240 ex1240 => ?_)
  refine cw_p (i := 39) (t := 52) (c := 0) (k := 5) (v := .int x1240) (y := (.inl ((-3000), 3000))) htb aj_d58 rfl rfl hT (cw_s0 hB rfl) rfl rfl rfl (cw_gw (a := x1240.toInt) rfl (by omega) (by omega)) (by decide) rfl rfl (fun hT1241 => ?_)
  have f1242 : cw_F (cw_sf h 39 5 (.int x1240)) 39 0 2 (.ref (52 + x)) := cw_sf_ne f2 (Or.inr (by decide))
  have f1243 : cw_F (cw_sf h 39 5 (.int x1240)) 30 4 4 (.int n) := cw_sf_ne f4 (Or.inr (by decide))
  have a1244 : cw_A (cw_sf h 39 5 (.int x1240)) 31 0 2500 (.inl f) := cw_sf_A a31
  have a1245 : cw_A (cw_sf h 39 5 (.int x1240)) 34 0 2500 (.inl g) := cw_sf_A a34
  have f1246 : cw_F (cw_sf h 39 5 (.int x1240)) 39 0 5 (.int x1240) := cw_sf_same f5
  have Q1247 := cw_CQ_dep hT hQ x1240
  obtain ⟨Iq1247, qq1247, f2q1247, a31q1247, a34q1247, f4q1247, f5q1247, Zq1247, nq1247, gq1247, bq1247⟩ := id Q1247
  show cw_W _ _ _ _ _ _ _ _ _ _ 90 [(0, .ref (52 + 39)), (1, .int 212), (2, .int iv)] []
  refine cw_n aj_d58 rfl rfl ?_
  refine cw_n aj_d58 rfl rfl ?_
  refine cw_g (i := 39) (v := .int x1240) htb.1 aj_d58 rfl rfl (by decide) f5q1247 ?_
  refine cw_n aj_d58 rfl rfl ?_
  refine cw_sub aj_d58 rfl (a := x1240.toInt) (b := (1 : Int)) rfl rfl (by omega) (by omega) (fun x1248 ex1248 => ?_)
  refine cw_n aj_d58 rfl rfl ?_
  refine cw_g (i := 39) (v := .int x1240) htb.1 aj_d58 rfl rfl (by decide) f5q1247 ?_
  refine cw_k0 (i := 39) (t := 52) (con' := ap_c68) aj_d58 htb hT1241 rfl rfl [_, _] rfl rfl (cw_s0 hB rfl) rfl (Nat.le_of_ble_eq_true rfl) ⟨by decide, by decide⟩ (cw_a1 (by omega) (ap_1_68 htb (cw_SP1c _ _ rfl rfl) cw_hK) hT1241 hB rfl ⟨(cw_gR (cw_s0 hB rfl) (by decide) (by decide)), (cw_gw (a := x1248.toInt) rfl (by omega) (by omega)), (cw_gw (a := x1240.toInt) rfl (by omega) (by omega)), trivial⟩) ?_
  rintro ru1249 h1249 hT1249 ho1249 hRu1249
  have f1250 : cw_F h1249 39 0 2 (.ref (52 + x)) := cw_trF ho1249 (by decide) f2q1247
  have f1251 : cw_F h1249 39 0 5 (.int x1240) := cw_trF ho1249 (by decide) f5q1247
  have f1252 : cw_F h1249 30 4 4 (.int n) := cw_trF ho1249 (by decide) f4q1247
  have a1253 : cw_A h1249 31 0 2500 (.inl f) := cw_trA ho1249 (by decide) a31q1247
  have a1254 : cw_A h1249 34 0 2500 (.inl g) := cw_trA ho1249 (by decide) a34q1247
  obtain ⟨x1255, rfl, bx1255⟩ := cw_rI hRu1249
  show cw_W _ _ _ _ _ _ _ _ _ _ 104 [(0, .ref (52 + 39)), (1, .int 212), (2, .int iv)] [.int x1255]
  refine cw_z (tgt := 312) aj_d58 rfl rfl (fun q1256 => ?_) (fun q1256 => ?_)
  · have q1256 : x1255.toInt ≠ (0 : Int) := aw_t_ne (a := x1255.toInt) (b := (0 : Int)) rfl rfl q1256
    refine cw_Wr aj_d58 rfl rfl hT1249 ?_ ?_
    · exact ⟨rfl, _, _, _, (cw_CQ_eq (ho1249.trans rfl) Q1247), by omega, by omega⟩
    · trivial
  · have q1256 : x1255.toInt = (0 : Int) := aw_t_ne (a := x1255.toInt) (b := (0 : Int)) rfl rfl q1256
    refine cw_n aj_d58 rfl rfl ?_
    refine cw_n aj_d58 rfl rfl ?_
    refine cw_n aj_d58 rfl rfl ?_
    refine cw_k0 (i := 39) (t := 52) (con' := ap_c71) aj_d58 htb hT1249 rfl rfl [_, _] rfl rfl (cw_s0 hB rfl) rfl (Nat.le_of_ble_eq_true rfl) ⟨by decide, by decide⟩ (cw_a2 (by omega) (ap_1_71 htb (cw_SPkc rfl rfl) cw_hK (cw_H1k htb)) hT1249 (cw_I_eq (ho1249.trans rfl) Iq1247) rfl ⟨(cw_gR (cw_s0 hB rfl) (by decide) (by decide)), (cw_gw (a := (5 : Int)) rfl (by omega) (by omega)), (cw_gw (a := iv.toInt) rfl (by omega) (by omega)), trivial⟩) ?_
    rintro ru1257 h1257 hT1257 ⟨Iu1257, ku1257, mu1257⟩ hRu1257
    obtain rfl := cw_rN hRu1257
    have Q1258 := cw_CQ_f Iu1257 ku1257 mu1257 (cw_CQ_eq (ho1249.trans rfl) Q1247)
    obtain ⟨Iq1258, qq1258, f2q1258, a31q1258, a34q1258, f4q1258, f5q1258, Zq1258, nq1258, gq1258, bq1258⟩ := id Q1258
    show cw_W _ _ _ _ _ _ _ _ _ _ 113 [(0, .ref (52 + 39)), (1, .int 212), (2, .int iv)] []
    refine cw_n aj_d58 rfl rfl ?_
    refine cw_Wr aj_d58 rfl rfl hT1257 ?_ ?_
    · exact ⟨rfl, _, _, _, Q1258, by omega, by omega⟩
    · trivial
theorem cw_cq213 (htb : ak_tbOK ak_C1 tb) (hT : ak_Ty ak_C1 s h) (hd : 4 ≤ d)  (hx : x = 2 ∨ x = 14) (hi : 0 ≤ iv.toInt ∧ iv.toInt ≤ 2499) (hy : -2590 ≤ y.toInt ∧ y.toInt ≤ 2590) (hQ : cw_CQ N bb x n f iv g0 n0 B y nt g s h) : cw_K ak_C1 (fun s' r h' => s' = s ∧ ∃ (y' nt' : Int32) (g' : Nat → Int32), cw_CQ N bb x n f iv g0 n0 B y' nt' g' s' h' ∧ (y.toInt - 1 ≤ y'.toInt ∧ y'.toInt ≤ y.toInt + 1)) tb d (cw_nC 58 none) [.ref (52 + 39), .int 213, .int iv] s h := by
  obtain ⟨d, rfl⟩ : ∃ e, d = e + 1 := ⟨d - 1, by omega⟩
  obtain ⟨Ih, qx, f2, a31, a34, f4, f5, Zh, nh, gh, bh⟩ := id hQ
  have hB := Ih.1
  refine cw_m (con := cw_nC 58 none) aj_m58_at (Nat.le_of_ble_eq_true rfl) ?_
  show cw_W _ _ _ _ _ _ _ _ _ _ 0 [(0, .ref (52 + 39)), (1, .int 213), (2, .int iv)] []
  refine cw_n aj_d58 rfl rfl ?_
  refine cw_tsw (tgt := 116) (a := (213 : Int)) aj_d58 rfl rfl ⟨by decide, by decide⟩ rfl rfl ?_
  refine cw_n aj_d58 rfl rfl ?_
  refine cw_n aj_d58 rfl rfl ?_
  refine cw_g (i := 39) (v := .int y) htb.1 aj_d58 rfl rfl (by decide) f5 ?_
  refine cw_n aj_d58 rfl rfl ?_
  refine cw_sub aj_d58 rfl (a := y.toInt) (b := (1 : Int)) rfl rfl (by omega) (by omega) (fun x1259 ex1259 => ?_)
  refine cw_p (i := 39) (t := 52) (c := 0) (k := 5) (v := .int x1259) (y := (.inl ((-3000), 3000))) htb aj_d58 rfl rfl hT (cw_s0 hB rfl) rfl rfl rfl (cw_gw (a := x1259.toInt) rfl (by omega) (by omega)) (by decide) rfl rfl (fun hT1260 => ?_)
  have f1261 : cw_F (cw_sf h 39 5 (.int x1259)) 39 0 2 (.ref (52 + x)) := cw_sf_ne f2 (Or.inr (by decide))
  have f1262 : cw_F (cw_sf h 39 5 (.int x1259)) 30 4 4 (.int n) := cw_sf_ne f4 (Or.inr (by decide))
  have a1263 : cw_A (cw_sf h 39 5 (.int x1259)) 31 0 2500 (.inl f) := cw_sf_A a31
  have a1264 : cw_A (cw_sf h 39 5 (.int x1259)) 34 0 2500 (.inl g) := cw_sf_A a34
  have f1265 : cw_F (cw_sf h 39 5 (.int x1259)) 39 0 5 (.int x1259) := cw_sf_same f5
  have Q1266 := cw_CQ_dep hT hQ x1259
  obtain ⟨Iq1266, qq1266, f2q1266, a31q1266, a34q1266, f4q1266, f5q1266, Zq1266, nq1266, gq1266, bq1266⟩ := id Q1266
  show cw_W _ _ _ _ _ _ _ _ _ _ 126 [(0, .ref (52 + 39)), (1, .int 213), (2, .int iv)] []
  refine cw_n aj_d58 rfl rfl ?_
  refine cw_n aj_d58 rfl rfl ?_
  refine cw_k0 (i := 39) (t := 52) (con' := cw_nC 73 none) aj_d58 htb hT1260 rfl rfl [_] rfl rfl (cw_s0 hB rfl) rfl (Nat.le_of_ble_eq_true rfl) ⟨by decide, by decide⟩ (cw_cjoin htb hT1260 (by omega) hx hi (by omega) Q1266) ?_
  rintro ru1267 h1267 hT1267 ⟨yu1267, nu1267, gu1267, Qu1267, eu1267⟩ hRu1267
  obtain rfl := cw_rN hRu1267
  have Q1268 := Qu1267
  obtain ⟨Iq1268, qq1268, f2q1268, a31q1268, a34q1268, f4q1268, f5q1268, Zq1268, nq1268, gq1268, bq1268⟩ := id Q1268
  show cw_W _ _ _ _ _ _ _ _ _ _ 131 [(0, .ref (52 + 39)), (1, .int 213), (2, .int iv)] []
  refine cw_n aj_d58 rfl rfl ?_
  refine cw_Wr aj_d58 rfl rfl hT1267 ?_ ?_
  · exact ⟨rfl, _, _, _, Q1268, by omega, by omega⟩
  · trivial
theorem cw_cq214 (htb : ak_tbOK ak_C1 tb) (hT : ak_Ty ak_C1 s h) (hd : 4 ≤ d)  (hx : x = 2 ∨ x = 14) (hi : 0 ≤ iv.toInt ∧ iv.toInt ≤ 2499) (hy : -2590 ≤ y.toInt ∧ y.toInt ≤ 2590) (hQ : cw_CQ N bb x n f iv g0 n0 B y nt g s h) : cw_K ak_C1 (fun s' r h' => s' = s ∧ ∃ (y' nt' : Int32) (g' : Nat → Int32), cw_CQ N bb x n f iv g0 n0 B y' nt' g' s' h' ∧ (y.toInt - 1 ≤ y'.toInt ∧ y'.toInt ≤ y.toInt + 1)) tb d (cw_nC 58 none) [.ref (52 + 39), .int 214, .int iv] s h := by
  obtain ⟨d, rfl⟩ : ∃ e, d = e + 1 := ⟨d - 1, by omega⟩
  obtain ⟨Ih, qx, f2, a31, a34, f4, f5, Zh, nh, gh, bh⟩ := id hQ
  have hB := Ih.1
  refine cw_m (con := cw_nC 58 none) aj_m58_at (Nat.le_of_ble_eq_true rfl) ?_
  show cw_W _ _ _ _ _ _ _ _ _ _ 0 [(0, .ref (52 + 39)), (1, .int 214), (2, .int iv)] []
  refine cw_n aj_d58 rfl rfl ?_
  refine cw_tsw (tgt := 312) (a := (214 : Int)) aj_d58 rfl rfl ⟨by decide, by decide⟩ rfl rfl ?_
  refine cw_Wr aj_d58 rfl rfl hT ?_ ?_
  · exact ⟨rfl, _, _, _, hQ, by omega, by omega⟩
  · trivial
theorem cw_cq215 (htb : ak_tbOK ak_C1 tb) (hT : ak_Ty ak_C1 s h) (hd : 4 ≤ d)  (hx : x = 2 ∨ x = 14) (hi : 0 ≤ iv.toInt ∧ iv.toInt ≤ 2499) (hy : -2590 ≤ y.toInt ∧ y.toInt ≤ 2590) (hQ : cw_CQ N bb x n f iv g0 n0 B y nt g s h) : cw_K ak_C1 (fun s' r h' => s' = s ∧ ∃ (y' nt' : Int32) (g' : Nat → Int32), cw_CQ N bb x n f iv g0 n0 B y' nt' g' s' h' ∧ (y.toInt - 1 ≤ y'.toInt ∧ y'.toInt ≤ y.toInt + 1)) tb d (cw_nC 58 none) [.ref (52 + 39), .int 215, .int iv] s h := by
  obtain ⟨d, rfl⟩ : ∃ e, d = e + 1 := ⟨d - 1, by omega⟩
  obtain ⟨Ih, qx, f2, a31, a34, f4, f5, Zh, nh, gh, bh⟩ := id hQ
  have hB := Ih.1
  refine cw_m (con := cw_nC 58 none) aj_m58_at (Nat.le_of_ble_eq_true rfl) ?_
  show cw_W _ _ _ _ _ _ _ _ _ _ 0 [(0, .ref (52 + 39)), (1, .int 215), (2, .int iv)] []
  refine cw_n aj_d58 rfl rfl ?_
  refine cw_tsw (tgt := 134) (a := (215 : Int)) aj_d58 rfl rfl ⟨by decide, by decide⟩ rfl rfl ?_
  refine cw_n aj_d58 rfl rfl ?_
  refine cw_n aj_d58 rfl rfl ?_
  refine cw_p (i := 39) (t := 52) (c := 0) (k := 7) (v := .int (Int32.ofInt 0)) (y := (.inl (0, 6))) htb aj_d58 rfl rfl hT (cw_s0 hB rfl) rfl rfl rfl (cw_gw (a := (0 : Int)) rfl (by omega) (by omega)) (by decide) rfl rfl (fun hT1269 => ?_)
  obtain ⟨v1270, f1270, g1270⟩ := cw_tyF (i := 39) (t := 52) (c := 0) (k := 7) (y := (.inl (0, 6))) hT (cw_s0 hB rfl) rfl rfl rfl
  obtain ⟨x1270, rfl, b1270⟩ := ak_gi g1270
  dsimp only [ak_win] at b1270
  have f1271 : cw_F (cw_sf h 39 7 (.int (Int32.ofInt 0))) 39 0 2 (.ref (52 + x)) := cw_sf_ne f2 (Or.inr (by decide))
  have f1272 : cw_F (cw_sf h 39 7 (.int (Int32.ofInt 0))) 39 0 5 (.int y) := cw_sf_ne f5 (Or.inr (by decide))
  have f1273 : cw_F (cw_sf h 39 7 (.int (Int32.ofInt 0))) 30 4 4 (.int n) := cw_sf_ne f4 (Or.inr (by decide))
  have a1274 : cw_A (cw_sf h 39 7 (.int (Int32.ofInt 0))) 31 0 2500 (.inl f) := cw_sf_A a31
  have a1275 : cw_A (cw_sf h 39 7 (.int (Int32.ofInt 0))) 34 0 2500 (.inl g) := cw_sf_A a34
  have f1276 : cw_F (cw_sf h 39 7 (.int (Int32.ofInt 0))) 39 0 7 (.int (Int32.ofInt 0)) := cw_sf_same f1270
  refine cw_n aj_d58 rfl rfl ?_
  refine cw_Wr aj_d58 rfl rfl hT1269 ?_ ?_
  · exact ⟨rfl, _, _, _, (cw_CQ_eq ((cw_o_sf f1270 (by decide)).trans rfl) hQ), by omega, by omega⟩
  · trivial
theorem cw_cq216 (htb : ak_tbOK ak_C1 tb) (hT : ak_Ty ak_C1 s h) (hd : 4 ≤ d)  (hx : x = 2 ∨ x = 14) (hi : 0 ≤ iv.toInt ∧ iv.toInt ≤ 2499) (hy : -2590 ≤ y.toInt ∧ y.toInt ≤ 2590) (hQ : cw_CQ N bb x n f iv g0 n0 B y nt g s h) : cw_K ak_C1 (fun s' r h' => s' = s ∧ ∃ (y' nt' : Int32) (g' : Nat → Int32), cw_CQ N bb x n f iv g0 n0 B y' nt' g' s' h' ∧ (y.toInt - 1 ≤ y'.toInt ∧ y'.toInt ≤ y.toInt + 1)) tb d (cw_nC 58 none) [.ref (52 + 39), .int 216, .int iv] s h := by
  obtain ⟨d, rfl⟩ : ∃ e, d = e + 1 := ⟨d - 1, by omega⟩
  obtain ⟨Ih, qx, f2, a31, a34, f4, f5, Zh, nh, gh, bh⟩ := id hQ
  have hB := Ih.1
  refine cw_m (con := cw_nC 58 none) aj_m58_at (Nat.le_of_ble_eq_true rfl) ?_
  show cw_W _ _ _ _ _ _ _ _ _ _ 0 [(0, .ref (52 + 39)), (1, .int 216), (2, .int iv)] []
  refine cw_n aj_d58 rfl rfl ?_
  refine cw_tsw (tgt := 142) (a := (216 : Int)) aj_d58 rfl rfl ⟨by decide, by decide⟩ rfl rfl ?_
  refine cw_n aj_d58 rfl rfl ?_
  refine cw_n aj_d58 rfl rfl ?_
  refine cw_k0 (i := 39) (t := 52) (con' := cw_nC 75 none) aj_d58 htb hT rfl rfl [_] rfl rfl (cw_s0 hB rfl) rfl (Nat.le_of_ble_eq_true rfl) ⟨by decide, by decide⟩ (cw_cpick htb hT (by omega) hx hi (by omega) hQ) ?_
  rintro ru1277 h1277 hT1277 ⟨yu1277, nu1277, gu1277, Qu1277, eu1277⟩ hRu1277
  obtain rfl := cw_rN hRu1277
  have Q1278 := Qu1277
  obtain ⟨Iq1278, qq1278, f2q1278, a31q1278, a34q1278, f4q1278, f5q1278, Zq1278, nq1278, gq1278, bq1278⟩ := id Q1278
  show cw_W _ _ _ _ _ _ _ _ _ _ 147 [(0, .ref (52 + 39)), (1, .int 216), (2, .int iv)] []
  refine cw_n aj_d58 rfl rfl ?_
  refine cw_Wr aj_d58 rfl rfl hT1277 ?_ ?_
  · exact ⟨rfl, _, _, _, Q1278, by omega, by omega⟩
  · trivial
theorem cw_cq217 (htb : ak_tbOK ak_C1 tb) (hT : ak_Ty ak_C1 s h) (hd : 4 ≤ d)  (hx : x = 2 ∨ x = 14) (hi : 0 ≤ iv.toInt ∧ iv.toInt ≤ 2499) (hy : -2590 ≤ y.toInt ∧ y.toInt ≤ 2590) (hQ : cw_CQ N bb x n f iv g0 n0 B y nt g s h) : cw_K ak_C1 (fun s' r h' => s' = s ∧ ∃ (y' nt' : Int32) (g' : Nat → Int32), cw_CQ N bb x n f iv g0 n0 B y' nt' g' s' h' ∧ (y.toInt - 1 ≤ y'.toInt ∧ y'.toInt ≤ y.toInt + 1)) tb d (cw_nC 58 none) [.ref (52 + 39), .int 217, .int iv] s h := by
  obtain ⟨d, rfl⟩ : ∃ e, d = e + 1 := ⟨d - 1, by omega⟩
  obtain ⟨Ih, qx, f2, a31, a34, f4, f5, Zh, nh, gh, bh⟩ := id hQ
  have hB := Ih.1
  refine cw_m (con := cw_nC 58 none) aj_m58_at (Nat.le_of_ble_eq_true rfl) ?_
  show cw_W _ _ _ _ _ _ _ _ _ _ 0 [(0, .ref (52 + 39)), (1, .int 217), (2, .int iv)] []
  refine cw_n aj_d58 rfl rfl ?_
  refine cw_tsw (tgt := 150) (a := (217 : Int)) aj_d58 rfl rfl ⟨by decide, by decide⟩ rfl rfl ?_
  refine cw_n aj_d58 rfl rfl ?_
  refine cw_k0 (i := 39) (t := 52) (con' := ap_c77) aj_d58 htb hT rfl rfl [] rfl rfl (cw_s0 hB rfl) rfl (Nat.le_of_ble_eq_true rfl) ⟨by decide, by decide⟩ (cw_a2 (by omega) (ap_1_77 htb (cw_SPkc rfl rfl) cw_hK (cw_H1k htb)) hT Ih rfl ⟨(cw_gR (cw_s0 hB rfl) (by decide) (by decide)), trivial⟩) ?_
  rintro ru1279 h1279 hT1279 ⟨Iu1279, ku1279, mu1279⟩ hRu1279
  obtain rfl := cw_rN hRu1279
  have Q1280 := cw_CQ_f Iu1279 ku1279 mu1279 hQ
  obtain ⟨Iq1280, qq1280, f2q1280, a31q1280, a34q1280, f4q1280, f5q1280, Zq1280, nq1280, gq1280, bq1280⟩ := id Q1280
  show cw_W _ _ _ _ _ _ _ _ _ _ 154 [(0, .ref (52 + 39)), (1, .int 217), (2, .int iv)] []
  refine cw_n aj_d58 rfl rfl ?_
  refine cw_Wr aj_d58 rfl rfl hT1279 ?_ ?_
  · exact ⟨rfl, _, _, _, Q1280, by omega, by omega⟩
  · trivial
theorem cw_cq218 (htb : ak_tbOK ak_C1 tb) (hT : ak_Ty ak_C1 s h) (hd : 4 ≤ d)  (hx : x = 2 ∨ x = 14) (hi : 0 ≤ iv.toInt ∧ iv.toInt ≤ 2499) (hy : -2590 ≤ y.toInt ∧ y.toInt ≤ 2590) (hQ : cw_CQ N bb x n f iv g0 n0 B y nt g s h) : cw_K ak_C1 (fun s' r h' => s' = s ∧ ∃ (y' nt' : Int32) (g' : Nat → Int32), cw_CQ N bb x n f iv g0 n0 B y' nt' g' s' h' ∧ (y.toInt - 1 ≤ y'.toInt ∧ y'.toInt ≤ y.toInt + 1)) tb d (cw_nC 58 none) [.ref (52 + 39), .int 218, .int iv] s h := by
  obtain ⟨d, rfl⟩ : ∃ e, d = e + 1 := ⟨d - 1, by omega⟩
  obtain ⟨Ih, qx, f2, a31, a34, f4, f5, Zh, nh, gh, bh⟩ := id hQ
  have hB := Ih.1
  refine cw_m (con := cw_nC 58 none) aj_m58_at (Nat.le_of_ble_eq_true rfl) ?_
  show cw_W _ _ _ _ _ _ _ _ _ _ 0 [(0, .ref (52 + 39)), (1, .int 218), (2, .int iv)] []
  refine cw_n aj_d58 rfl rfl ?_
  refine cw_tsw (tgt := 157) (a := (218 : Int)) aj_d58 rfl rfl ⟨by decide, by decide⟩ rfl rfl ?_
  refine cw_n aj_d58 rfl rfl ?_
  refine cw_n aj_d58 rfl rfl ?_
  refine cw_n aj_d58 rfl rfl ?_
  refine cw_k0 (i := 39) (t := 52) (con' := ap_c60) aj_d58 htb hT rfl rfl [_] rfl rfl (cw_s0 hB rfl) rfl (Nat.le_of_ble_eq_true rfl) ⟨by decide, by decide⟩ (cw_a1 (by omega) (ap_1_60 htb (cw_SP1c _ _ rfl rfl) cw_hK) hT hB rfl ⟨(cw_gR (cw_s0 hB rfl) (by decide) (by decide)), (cw_gw (a := iv.toInt) rfl (by omega) (by omega)), trivial⟩) ?_
  rintro ru1281 h1281 hT1281 ho1281 hRu1281
  have f1282 : cw_F h1281 39 0 2 (.ref (52 + x)) := cw_trF ho1281 (by decide) f2
  have f1283 : cw_F h1281 39 0 5 (.int y) := cw_trF ho1281 (by decide) f5
  have f1284 : cw_F h1281 30 4 4 (.int n) := cw_trF ho1281 (by decide) f4
  have a1285 : cw_A h1281 31 0 2500 (.inl f) := cw_trA ho1281 (by decide) a31
  have a1286 : cw_A h1281 34 0 2500 (.inl g) := cw_trA ho1281 (by decide) a34
  obtain ⟨y1287, rfl⟩ := cw_rL hRu1281
  show cw_W _ _ _ _ _ _ _ _ _ _ 163 [(0, .ref (52 + 39)), (1, .int 218), (2, .int iv)] [.long y1287, .ref (52 + 39)]
  refine cw_p (i := 39) (t := 52) (c := 0) (k := 8) (v := .long y1287) (y := (.inr none)) htb aj_d58 rfl rfl hT1281 (cw_s0 hB rfl) rfl rfl rfl trivial (by decide) rfl rfl (fun hT1288 => ?_)
  obtain ⟨v1289, f1289, g1289⟩ := cw_tyF (i := 39) (t := 52) (c := 0) (k := 8) (y := (.inr none)) hT1281 (cw_s0 hB rfl) rfl rfl rfl
  obtain ⟨y1289, rfl⟩ := cw_gl g1289
  have f1290 : cw_F (cw_sf h1281 39 8 (.long y1287)) 39 0 2 (.ref (52 + x)) := cw_sf_ne f1282 (Or.inr (by decide))
  have f1291 : cw_F (cw_sf h1281 39 8 (.long y1287)) 39 0 5 (.int y) := cw_sf_ne f1283 (Or.inr (by decide))
  have f1292 : cw_F (cw_sf h1281 39 8 (.long y1287)) 30 4 4 (.int n) := cw_sf_ne f1284 (Or.inr (by decide))
  have a1293 : cw_A (cw_sf h1281 39 8 (.long y1287)) 31 0 2500 (.inl f) := cw_sf_A a1285
  have a1294 : cw_A (cw_sf h1281 39 8 (.long y1287)) 34 0 2500 (.inl g) := cw_sf_A a1286
  have f1295 : cw_F (cw_sf h1281 39 8 (.long y1287)) 39 0 8 (.long y1287) := cw_sf_same f1289
  refine cw_n aj_d58 rfl rfl ?_
  refine cw_n aj_d58 rfl rfl ?_
  refine cw_g (i := 39) (v := .int y) htb.1 aj_d58 rfl rfl (by decide) f1291 ?_
  refine cw_n aj_d58 rfl rfl ?_
  refine cw_sub aj_d58 rfl (a := y.toInt) (b := (1 : Int)) rfl rfl (by omega) (by omega) (fun x1296 ex1296 => ?_)
  refine cw_n aj_d58 rfl rfl ?_
  refine cw_g (i := 39) (v := .long y1287) htb.1 aj_d58 rfl rfl (by decide) f1295 ?_
  refine cw_k0 (i := 39) (t := 52) (con' := ap_c74) aj_d58 htb hT1288 rfl rfl [_, _] rfl rfl (cw_s0 hB rfl) rfl (Nat.le_of_ble_eq_true rfl) ⟨by decide, by decide⟩ (cw_a1 (by omega) (ap_1_74 htb (cw_SP1c _ _ rfl rfl) cw_hK) hT1288 hB rfl ⟨(cw_gR (cw_s0 hB rfl) (by decide) (by decide)), (cw_gw (a := x1296.toInt) rfl (by omega) (by omega)), trivial, trivial⟩) ?_
  rintro ru1297 h1297 hT1297 ho1297 hRu1297
  have f1298 : cw_F h1297 39 0 2 (.ref (52 + x)) := cw_trF ho1297 (by decide) f1290
  have f1299 : cw_F h1297 39 0 5 (.int y) := cw_trF ho1297 (by decide) f1291
  have f1300 : cw_F h1297 30 4 4 (.int n) := cw_trF ho1297 (by decide) f1292
  have a1301 : cw_A h1297 31 0 2500 (.inl f) := cw_trA ho1297 (by decide) a1293
  have a1302 : cw_A h1297 34 0 2500 (.inl g) := cw_trA ho1297 (by decide) a1294
  obtain ⟨x1303, rfl, bx1303⟩ := cw_rI hRu1297
  show cw_W _ _ _ _ _ _ _ _ _ _ 180 [(0, .ref (52 + 39)), (1, .int 218), (2, .int iv)] [.int x1303]
  refine cw_z (tgt := 312) aj_d58 rfl rfl (fun q1304 => ?_) (fun q1304 => ?_)
  · have q1304 : x1303.toInt < (0 : Int) := aw_t_lt (a := x1303.toInt) (b := (0 : Int)) rfl rfl q1304
    refine cw_Wr aj_d58 rfl rfl hT1297 ?_ ?_
    · exact ⟨rfl, _, _, _, (cw_CQ_eq (ho1297.trans ((cw_o_sf f1289 (by decide)).trans (ho1281.trans rfl))) hQ), by omega, by omega⟩
    · trivial
  · have q1304 : x1303.toInt ≥ (0 : Int) := aw_t_lt (a := x1303.toInt) (b := (0 : Int)) rfl rfl q1304
    refine cw_n aj_d58 rfl rfl ?_
    refine cw_n aj_d58 rfl rfl ?_
    refine cw_n aj_d58 rfl rfl ?_
    refine cw_k0 (i := 39) (t := 52) (con' := ap_c64) aj_d58 htb hT1297 rfl rfl [_, _] rfl rfl (cw_s0 hB rfl) rfl (Nat.le_of_ble_eq_true rfl) ⟨by decide, by decide⟩ (cw_a2 (by omega) (ap_1_64 htb (cw_SPkc rfl rfl) cw_hK (cw_H1k htb)) hT1297 (cw_I_eq (ho1297.trans ((cw_o_sf f1289 (by decide)).trans (ho1281.trans rfl))) Ih) rfl ⟨(cw_gR (cw_s0 hB rfl) (by decide) (by decide)), (cw_gw (a := (3 : Int)) rfl (by omega) (by omega)), (cw_gw (a := iv.toInt) rfl (by omega) (by omega)), trivial⟩) ?_
    rintro ru1305 h1305 hT1305 ⟨Iu1305, ku1305, mu1305⟩ hRu1305
    obtain rfl := cw_rN hRu1305
    have Q1306 := cw_CQ_f Iu1305 ku1305 mu1305 (cw_CQ_eq (ho1297.trans ((cw_o_sf f1289 (by decide)).trans (ho1281.trans rfl))) hQ)
    obtain ⟨Iq1306, qq1306, f2q1306, a31q1306, a34q1306, f4q1306, f5q1306, Zq1306, nq1306, gq1306, bq1306⟩ := id Q1306
    show cw_W _ _ _ _ _ _ _ _ _ _ 189 [(0, .ref (52 + 39)), (1, .int 218), (2, .int iv)] []
    refine cw_n aj_d58 rfl rfl ?_
    refine cw_Wr aj_d58 rfl rfl hT1305 ?_ ?_
    · exact ⟨rfl, _, _, _, Q1306, by omega, by omega⟩
    · trivial
theorem cw_cq219 (htb : ak_tbOK ak_C1 tb) (hT : ak_Ty ak_C1 s h) (hd : 4 ≤ d)  (hx : x = 2 ∨ x = 14) (hi : 0 ≤ iv.toInt ∧ iv.toInt ≤ 2499) (hy : -2590 ≤ y.toInt ∧ y.toInt ≤ 2590) (hQ : cw_CQ N bb x n f iv g0 n0 B y nt g s h) : cw_K ak_C1 (fun s' r h' => s' = s ∧ ∃ (y' nt' : Int32) (g' : Nat → Int32), cw_CQ N bb x n f iv g0 n0 B y' nt' g' s' h' ∧ (y.toInt - 1 ≤ y'.toInt ∧ y'.toInt ≤ y.toInt + 1)) tb d (cw_nC 58 none) [.ref (52 + 39), .int 219, .int iv] s h := by
  obtain ⟨d, rfl⟩ : ∃ e, d = e + 1 := ⟨d - 1, by omega⟩
  obtain ⟨Ih, qx, f2, a31, a34, f4, f5, Zh, nh, gh, bh⟩ := id hQ
  have hB := Ih.1
  refine cw_m (con := cw_nC 58 none) aj_m58_at (Nat.le_of_ble_eq_true rfl) ?_
  show cw_W _ _ _ _ _ _ _ _ _ _ 0 [(0, .ref (52 + 39)), (1, .int 219), (2, .int iv)] []
  refine cw_n aj_d58 rfl rfl ?_
  refine cw_tsw (tgt := 192) (a := (219 : Int)) aj_d58 rfl rfl ⟨by decide, by decide⟩ rfl rfl ?_
  refine cw_n aj_d58 rfl rfl ?_
  refine cw_n aj_d58 rfl rfl ?_
  refine cw_n aj_d58 rfl rfl ?_
  refine cw_n aj_d58 rfl rfl ?_
  refine cw_g (i := 39) (v := .int y) htb.1 aj_d58 rfl rfl (by decide) f5 ?_
  refine cw_n aj_d58 rfl rfl ?_
  refine cw_sub aj_d58 rfl (a := y.toInt) (b := (1 : Int)) rfl rfl (by omega) (by omega) (fun x1307 ex1307 => ?_)
  refine cw_n aj_d58 rfl rfl ?_
  refine cw_n aj_d58 rfl rfl ?_
  refine cw_k0 (i := 39) (t := 52) (con' := ap_c60) aj_d58 htb hT rfl rfl [_] rfl rfl (cw_s0 hB rfl) rfl (Nat.le_of_ble_eq_true rfl) ⟨by decide, by decide⟩ (cw_a1 (by omega) (ap_1_60 htb (cw_SP1c _ _ rfl rfl) cw_hK) hT hB rfl ⟨(cw_gR (cw_s0 hB rfl) (by decide) (by decide)), (cw_gw (a := iv.toInt) rfl (by omega) (by omega)), trivial⟩) ?_
  rintro ru1308 h1308 hT1308 ho1308 hRu1308
  have f1309 : cw_F h1308 39 0 2 (.ref (52 + x)) := cw_trF ho1308 (by decide) f2
  have f1310 : cw_F h1308 39 0 5 (.int y) := cw_trF ho1308 (by decide) f5
  have f1311 : cw_F h1308 30 4 4 (.int n) := cw_trF ho1308 (by decide) f4
  have a1312 : cw_A h1308 31 0 2500 (.inl f) := cw_trA ho1308 (by decide) a31
  have a1313 : cw_A h1308 34 0 2500 (.inl g) := cw_trA ho1308 (by decide) a34
  obtain ⟨y1314, rfl⟩ := cw_rL hRu1308
  show cw_W _ _ _ _ _ _ _ _ _ _ 206 [(0, .ref (52 + 39)), (1, .int 219), (2, .int iv)] [.long y1314, .int x1307, .ref (52 + 39), .int iv, .ref (52 + 39)]
  refine cw_k0 (i := 39) (t := 52) (con' := ap_c74) aj_d58 htb hT1308 rfl rfl [_, _] rfl rfl (cw_s0 hB rfl) rfl (Nat.le_of_ble_eq_true rfl) ⟨by decide, by decide⟩ (cw_a1 (by omega) (ap_1_74 htb (cw_SP1c _ _ rfl rfl) cw_hK) hT1308 hB rfl ⟨(cw_gR (cw_s0 hB rfl) (by decide) (by decide)), (cw_gw (a := x1307.toInt) rfl (by omega) (by omega)), trivial, trivial⟩) ?_
  rintro ru1315 h1315 hT1315 ho1315 hRu1315
  have f1316 : cw_F h1315 39 0 2 (.ref (52 + x)) := cw_trF ho1315 (by decide) f1309
  have f1317 : cw_F h1315 39 0 5 (.int y) := cw_trF ho1315 (by decide) f1310
  have f1318 : cw_F h1315 30 4 4 (.int n) := cw_trF ho1315 (by decide) f1311
  have a1319 : cw_A h1315 31 0 2500 (.inl f) := cw_trA ho1315 (by decide) a1312
  have a1320 : cw_A h1315 34 0 2500 (.inl g) := cw_trA ho1315 (by decide) a1313
  obtain ⟨x1321, rfl, bx1321⟩ := cw_rI hRu1315
  show cw_W _ _ _ _ _ _ _ _ _ _ 209 [(0, .ref (52 + 39)), (1, .int 219), (2, .int iv)] [.int x1321, .int iv, .ref (52 + 39)]
  refine cw_k0 (i := 39) (t := 52) (con' := cw_nC 78 none) aj_d58 htb hT1315 rfl rfl [_, _] rfl rfl (cw_s0 hB rfl) rfl (Nat.le_of_ble_eq_true rfl) ⟨by decide, by decide⟩ (cw_keepN htb hT1315 (by omega) (v := x1321) hx hi ⟨by omega, by omega⟩ (cw_CQ_eq (ho1315.trans (ho1308.trans rfl)) hQ)) ?_
  rintro ru1322 h1322 hT1322 ⟨yu1322, nu1322, gu1322, Qu1322, eu1322⟩ hRu1322
  obtain rfl := cw_rN hRu1322
  have Q1323 := Qu1322
  obtain ⟨Iq1323, qq1323, f2q1323, a31q1323, a34q1323, f4q1323, f5q1323, Zq1323, nq1323, gq1323, bq1323⟩ := id Q1323
  show cw_W _ _ _ _ _ _ _ _ _ _ 212 [(0, .ref (52 + 39)), (1, .int 219), (2, .int iv)] []
  refine cw_n aj_d58 rfl rfl ?_
  refine cw_n aj_d58 rfl rfl ?_
  refine cw_g (i := 39) (v := .int yu1322) htb.1 aj_d58 rfl rfl (by decide) f5q1323 ?_
  refine cw_n aj_d58 rfl rfl ?_
  refine cw_sub aj_d58 rfl (a := yu1322.toInt) (b := (1 : Int)) rfl rfl (by omega) (by omega) (fun x1324 ex1324 => ?_)
  refine cw_n aj_d58 rfl rfl ?_
  obtain ⟨v1325, f1325, g1325⟩ := cw_tyF (i := 39) (t := 52) (c := 0) (k := 1) (y := (.inr (some ([56], false)))) hT1322 (cw_s0 hB rfl) rfl rfl rfl
  obtain rfl := cw_gu (i := 30) hB g1325 (by decide) (by decide) (by decide)
  refine cw_g (i := 39) (v := .ref (52 + 30)) htb.1 aj_d58 rfl rfl (by decide) f1325 ?_
  refine cw_n aj_d58 rfl rfl ?_
  refine cw_k0 (i := 30) (t := 56) (con' := ap_c40) aj_d58 htb hT1322 rfl rfl [_] rfl rfl (cw_s0 hB rfl) rfl (Nat.le_of_ble_eq_true rfl) ⟨by decide, by decide⟩ (cw_a1 (by omega) (ap_1_40 htb (cw_SP1c _ _ rfl rfl) cw_hK) hT1322 hB rfl ⟨(cw_gR (cw_s0 hB rfl) (by decide) (by decide)), (cw_full _), trivial⟩) ?_
  rintro ru1326 h1326 hT1326 ho1326 hRu1326
  have f1327 : cw_F h1326 39 0 2 (.ref (52 + x)) := cw_trF ho1326 (by decide) f2q1323
  have f1328 : cw_F h1326 39 0 5 (.int yu1322) := cw_trF ho1326 (by decide) f5q1323
  have f1329 : cw_F h1326 30 4 4 (.int n) := cw_trF ho1326 (by decide) f4q1323
  have a1330 : cw_A h1326 31 0 2500 (.inl f) := cw_trA ho1326 (by decide) a31q1323
  have a1331 : cw_A h1326 34 0 2500 (.inl gu1322) := cw_trA ho1326 (by decide) a34q1323
  obtain ⟨x1332, rfl, bx1332⟩ := cw_rI hRu1326
  show cw_W _ _ _ _ _ _ _ _ _ _ 227 [(0, .ref (52 + 39)), (1, .int 219), (2, .int iv)] [.int x1332, .int x1324, .ref (52 + 39)]
  refine cw_n aj_d58 rfl rfl ?_
  obtain ⟨v1333, f1333, g1333⟩ := cw_tyF (i := 39) (t := 52) (c := 0) (k := 8) (y := (.inr none)) hT1326 (cw_s0 hB rfl) rfl rfl rfl
  obtain ⟨y1333, rfl⟩ := cw_gl g1333
  refine cw_g (i := 39) (v := .long y1333) htb.1 aj_d58 rfl rfl (by decide) f1333 ?_
  refine cw_k0 (i := 39) (t := 52) (con' := ap_c79) aj_d58 htb hT1326 rfl rfl [_, _, _] rfl rfl (cw_s0 hB rfl) rfl (Nat.le_of_ble_eq_true rfl) ⟨by decide, by decide⟩ (cw_a1 (by omega) (ap_1_79 htb (cw_SP1c _ _ rfl rfl) cw_hK) hT1326 hB rfl ⟨(cw_gR (cw_s0 hB rfl) (by decide) (by decide)), (cw_gw (a := x1324.toInt) rfl (by omega) (by omega)), (cw_full _), trivial, trivial⟩) ?_
  rintro ru1334 h1334 hT1334 ho1334 hRu1334
  have f1335 : cw_F h1334 39 0 2 (.ref (52 + x)) := cw_trF ho1334 (by decide) f1327
  have f1336 : cw_F h1334 39 0 5 (.int yu1322) := cw_trF ho1334 (by decide) f1328
  have f1337 : cw_F h1334 30 4 4 (.int n) := cw_trF ho1334 (by decide) f1329
  have a1338 : cw_A h1334 31 0 2500 (.inl f) := cw_trA ho1334 (by decide) a1330
  have a1339 : cw_A h1334 34 0 2500 (.inl gu1322) := cw_trA ho1334 (by decide) a1331
  obtain rfl := cw_rN hRu1334
  show cw_W _ _ _ _ _ _ _ _ _ _ 234 [(0, .ref (52 + 39)), (1, .int 219), (2, .int iv)] []
  refine cw_n aj_d58 rfl rfl ?_
  refine cw_Wr aj_d58 rfl rfl hT1334 ?_ ?_
  · exact ⟨rfl, _, _, _, (cw_CQ_eq (ho1334.trans (ho1326.trans rfl)) Q1323), by omega, by omega⟩
  · trivial
theorem cw_cq220 (htb : ak_tbOK ak_C1 tb) (hT : ak_Ty ak_C1 s h) (hd : 4 ≤ d)  (hx : x = 2 ∨ x = 14) (hi : 0 ≤ iv.toInt ∧ iv.toInt ≤ 2499) (hy : -2590 ≤ y.toInt ∧ y.toInt ≤ 2590) (hQ : cw_CQ N bb x n f iv g0 n0 B y nt g s h) : cw_K ak_C1 (fun s' r h' => s' = s ∧ ∃ (y' nt' : Int32) (g' : Nat → Int32), cw_CQ N bb x n f iv g0 n0 B y' nt' g' s' h' ∧ (y.toInt - 1 ≤ y'.toInt ∧ y'.toInt ≤ y.toInt + 1)) tb d (cw_nC 58 none) [.ref (52 + 39), .int 220, .int iv] s h := by
  obtain ⟨d, rfl⟩ : ∃ e, d = e + 1 := ⟨d - 1, by omega⟩
  obtain ⟨Ih, qx, f2, a31, a34, f4, f5, Zh, nh, gh, bh⟩ := id hQ
  have hB := Ih.1
  refine cw_m (con := cw_nC 58 none) aj_m58_at (Nat.le_of_ble_eq_true rfl) ?_
  show cw_W _ _ _ _ _ _ _ _ _ _ 0 [(0, .ref (52 + 39)), (1, .int 220), (2, .int iv)] []
  refine cw_n aj_d58 rfl rfl ?_
  refine cw_tsw (tgt := 237) (a := (220 : Int)) aj_d58 rfl rfl ⟨by decide, by decide⟩ rfl rfl ?_
  refine cw_n aj_d58 rfl rfl ?_
  obtain ⟨v1340, f1340, g1340⟩ := cw_tyF (i := 39) (t := 52) (c := 0) (k := 7) (y := (.inl (0, 6))) hT (cw_s0 hB rfl) rfl rfl rfl
  obtain ⟨x1340, rfl, b1340⟩ := ak_gi g1340
  dsimp only [ak_win] at b1340
  refine cw_g (i := 39) (v := .int x1340) htb.1 aj_d58 rfl rfl (by decide) f1340 ?_
  refine cw_n aj_d58 rfl rfl ?_
  refine cw_c (tgt := 312) aj_d58 rfl rfl (fun q1341 => ?_) (fun q1341 => ?_)
  · have q1341 : x1340.toInt < (6 : Int) := aw_t_lt (a := x1340.toInt) (b := (6 : Int)) rfl rfl q1341
    refine cw_Wr aj_d58 rfl rfl hT ?_ ?_
    · exact ⟨rfl, _, _, _, hQ, by omega, by omega⟩
    · trivial
  · have q1341 : x1340.toInt ≥ (6 : Int) := aw_t_lt (a := x1340.toInt) (b := (6 : Int)) rfl rfl q1341
    refine cw_n aj_d58 rfl rfl ?_
    refine cw_n aj_d58 rfl rfl ?_
    refine cw_n aj_d58 rfl rfl ?_
    refine cw_k0 (i := 39) (t := 52) (con' := ap_c71) aj_d58 htb hT rfl rfl [_, _] rfl rfl (cw_s0 hB rfl) rfl (Nat.le_of_ble_eq_true rfl) ⟨by decide, by decide⟩ (cw_a2 (by omega) (ap_1_71 htb (cw_SPkc rfl rfl) cw_hK (cw_H1k htb)) hT Ih rfl ⟨(cw_gR (cw_s0 hB rfl) (by decide) (by decide)), (cw_gw (a := (5 : Int)) rfl (by omega) (by omega)), (cw_gw (a := iv.toInt) rfl (by omega) (by omega)), trivial⟩) ?_
    rintro ru1342 h1342 hT1342 ⟨Iu1342, ku1342, mu1342⟩ hRu1342
    obtain rfl := cw_rN hRu1342
    have Q1343 := cw_CQ_f Iu1342 ku1342 mu1342 hQ
    obtain ⟨Iq1343, qq1343, f2q1343, a31q1343, a34q1343, f4q1343, f5q1343, Zq1343, nq1343, gq1343, bq1343⟩ := id Q1343
    show cw_W _ _ _ _ _ _ _ _ _ _ 252 [(0, .ref (52 + 39)), (1, .int 220), (2, .int iv)] []
    refine cw_n aj_d58 rfl rfl ?_
    refine cw_Wr aj_d58 rfl rfl hT1342 ?_ ?_
    · exact ⟨rfl, _, _, _, Q1343, by omega, by omega⟩
    · trivial
theorem cw_cq221 (htb : ak_tbOK ak_C1 tb) (hT : ak_Ty ak_C1 s h) (hd : 4 ≤ d)  (hx : x = 2 ∨ x = 14) (hi : 0 ≤ iv.toInt ∧ iv.toInt ≤ 2499) (hy : -2590 ≤ y.toInt ∧ y.toInt ≤ 2590) (hQ : cw_CQ N bb x n f iv g0 n0 B y nt g s h) : cw_K ak_C1 (fun s' r h' => s' = s ∧ ∃ (y' nt' : Int32) (g' : Nat → Int32), cw_CQ N bb x n f iv g0 n0 B y' nt' g' s' h' ∧ (y.toInt - 1 ≤ y'.toInt ∧ y'.toInt ≤ y.toInt + 1)) tb d (cw_nC 58 none) [.ref (52 + 39), .int 221, .int iv] s h := by
  obtain ⟨d, rfl⟩ : ∃ e, d = e + 1 := ⟨d - 1, by omega⟩
  obtain ⟨Ih, qx, f2, a31, a34, f4, f5, Zh, nh, gh, bh⟩ := id hQ
  have hB := Ih.1
  refine cw_m (con := cw_nC 58 none) aj_m58_at (Nat.le_of_ble_eq_true rfl) ?_
  show cw_W _ _ _ _ _ _ _ _ _ _ 0 [(0, .ref (52 + 39)), (1, .int 221), (2, .int iv)] []
  refine cw_n aj_d58 rfl rfl ?_
  refine cw_tsw (tgt := 255) (a := (221 : Int)) aj_d58 rfl rfl ⟨by decide, by decide⟩ rfl rfl ?_
  refine cw_n aj_d58 rfl rfl ?_
  obtain ⟨v1344, f1344, g1344⟩ := cw_tyF (i := 39) (t := 52) (c := 0) (k := 1) (y := (.inr (some ([56], false)))) hT (cw_s0 hB rfl) rfl rfl rfl
  obtain rfl := cw_gu (i := 30) hB g1344 (by decide) (by decide) (by decide)
  refine cw_g (i := 39) (v := .ref (52 + 30)) htb.1 aj_d58 rfl rfl (by decide) f1344 ?_
  refine cw_n aj_d58 rfl rfl ?_
  refine cw_n aj_d58 rfl rfl ?_
  obtain ⟨v1345, f1345, g1345⟩ := cw_tyF (i := 39) (t := 52) (c := 0) (k := 0) (y := (.inr (some ([60], false)))) hT (cw_s0 hB rfl) rfl rfl rfl
  obtain rfl := cw_gu (i := 26) hB g1345 (by decide) (by decide) (by decide)
  refine cw_g (i := 39) (v := .ref (52 + 26)) htb.1 aj_d58 rfl rfl (by decide) f1345 ?_
  refine cw_n aj_d58 rfl rfl ?_
  refine cw_g (i := 39) (v := .ref (52 + 30)) htb.1 aj_d58 rfl rfl (by decide) f1344 ?_
  refine cw_n aj_d58 rfl rfl ?_
  refine cw_k0 (i := 30) (t := 56) (con' := ap_c61) aj_d58 htb hT rfl rfl [_] rfl rfl (cw_s0 hB rfl) rfl (Nat.le_of_ble_eq_true rfl) ⟨by decide, by decide⟩ (cw_a1 (by omega) (ap_1_61 htb (cw_SP1c _ _ rfl rfl) cw_hK) hT hB rfl ⟨(cw_gR (cw_s0 hB rfl) (by decide) (by decide)), (cw_gw (a := iv.toInt) rfl (by omega) (by omega)), trivial⟩) ?_
  rintro ru1346 h1346 hT1346 ho1346 hRu1346
  have f1347 : cw_F h1346 39 0 2 (.ref (52 + x)) := cw_trF ho1346 (by decide) f2
  have f1348 : cw_F h1346 39 0 5 (.int y) := cw_trF ho1346 (by decide) f5
  have f1349 : cw_F h1346 30 4 4 (.int n) := cw_trF ho1346 (by decide) f4
  have a1350 : cw_A h1346 31 0 2500 (.inl f) := cw_trA ho1346 (by decide) a31
  have a1351 : cw_A h1346 34 0 2500 (.inl g) := cw_trA ho1346 (by decide) a34
  obtain ⟨x1352, rfl, bx1352⟩ := cw_rI hRu1346
  show cw_W _ _ _ _ _ _ _ _ _ _ 272 [(0, .ref (52 + 39)), (1, .int 221), (2, .int iv)] [.int x1352, .ref (52 + 26), .int iv, .ref (52 + 30)]
  refine cw_k0 (i := 26) (t := 60) (con' := ap_c46) aj_d58 htb hT1346 rfl rfl [_] rfl rfl (cw_s0 hB rfl) rfl (Nat.le_of_ble_eq_true rfl) ⟨by decide, by decide⟩ (cw_a1 (by omega) (ap_1_46 htb (cw_SP1c _ _ rfl rfl) cw_hK) hT1346 hB rfl ⟨(cw_gR (cw_s0 hB rfl) (by decide) (by decide)), (cw_gw (a := x1352.toInt) rfl (by omega) (by omega)), trivial⟩) ?_
  rintro ru1353 h1353 hT1353 ho1353 hRu1353
  have f1354 : cw_F h1353 39 0 2 (.ref (52 + x)) := cw_trF ho1353 (by decide) f1347
  have f1355 : cw_F h1353 39 0 5 (.int y) := cw_trF ho1353 (by decide) f1348
  have f1356 : cw_F h1353 30 4 4 (.int n) := cw_trF ho1353 (by decide) f1349
  have a1357 : cw_A h1353 31 0 2500 (.inl f) := cw_trA ho1353 (by decide) a1350
  have a1358 : cw_A h1353 34 0 2500 (.inl g) := cw_trA ho1353 (by decide) a1351
  obtain ⟨x1359, rfl, bx1359⟩ := cw_rI hRu1353
  show cw_W _ _ _ _ _ _ _ _ _ _ 275 [(0, .ref (52 + 39)), (1, .int 221), (2, .int iv)] [.int x1359, .int iv, .ref (52 + 30)]
  refine cw_k0 (i := 30) (t := 56) (con' := ap_c41) aj_d58 htb hT1353 rfl rfl [_, _] rfl rfl (cw_s0 hB rfl) rfl (Nat.le_of_ble_eq_true rfl) ⟨by decide, by decide⟩ (cw_setA1 htb hT1353 hB (by omega) iv x1359) ?_
  rintro ru1360 h1360 hT1360 tu1360 hRu1360
  obtain rfl := cw_rN hRu1360
  obtain ⟨gu1360, Qu1360, vu1360⟩ := cw_CQ_set hx hi hT1353 tu1360 (cw_CQ_eq (ho1353.trans (ho1346.trans rfl)) hQ)
  have Q1361 := Qu1360
  obtain ⟨Iq1361, qq1361, f2q1361, a31q1361, a34q1361, f4q1361, f5q1361, Zq1361, nq1361, gq1361, bq1361⟩ := id Q1361
  show cw_W _ _ _ _ _ _ _ _ _ _ 278 [(0, .ref (52 + 39)), (1, .int 221), (2, .int iv)] []
  refine cw_n aj_d58 rfl rfl ?_
  refine cw_Wr aj_d58 rfl rfl hT1360 ?_ ?_
  · exact ⟨rfl, _, _, _, Q1361, by omega, by omega⟩
  · trivial
theorem cw_cq222 (htb : ak_tbOK ak_C1 tb) (hT : ak_Ty ak_C1 s h) (hd : 4 ≤ d)  (hx : x = 2 ∨ x = 14) (hi : 0 ≤ iv.toInt ∧ iv.toInt ≤ 2499) (hy : -2590 ≤ y.toInt ∧ y.toInt ≤ 2590) (hQ : cw_CQ N bb x n f iv g0 n0 B y nt g s h) : cw_K ak_C1 (fun s' r h' => s' = s ∧ ∃ (y' nt' : Int32) (g' : Nat → Int32), cw_CQ N bb x n f iv g0 n0 B y' nt' g' s' h' ∧ (y.toInt - 1 ≤ y'.toInt ∧ y'.toInt ≤ y.toInt + 1)) tb d (cw_nC 58 none) [.ref (52 + 39), .int 222, .int iv] s h := by
  obtain ⟨d, rfl⟩ : ∃ e, d = e + 1 := ⟨d - 1, by omega⟩
  obtain ⟨Ih, qx, f2, a31, a34, f4, f5, Zh, nh, gh, bh⟩ := id hQ
  have hB := Ih.1
  refine cw_m (con := cw_nC 58 none) aj_m58_at (Nat.le_of_ble_eq_true rfl) ?_
  show cw_W _ _ _ _ _ _ _ _ _ _ 0 [(0, .ref (52 + 39)), (1, .int 222), (2, .int iv)] []
  refine cw_n aj_d58 rfl rfl ?_
  refine cw_tsw (tgt := 281) (a := (222 : Int)) aj_d58 rfl rfl ⟨by decide, by decide⟩ rfl rfl ?_
  refine cw_n aj_d58 rfl rfl ?_
  refine cw_n aj_d58 rfl rfl ?_
  refine cw_n aj_d58 rfl rfl ?_
  refine cw_n aj_d58 rfl rfl ?_
  refine cw_g (i := 39) (v := .int y) htb.1 aj_d58 rfl rfl (by decide) f5 ?_
  refine cw_n aj_d58 rfl rfl ?_
  refine cw_sub aj_d58 rfl (a := y.toInt) (b := (1 : Int)) rfl rfl (by omega) (by omega) (fun x1362 ex1362 => ?_)
  refine cw_n aj_d58 rfl rfl ?_
  refine cw_n aj_d58 rfl rfl ?_
  refine cw_k0 (i := 39) (t := 52) (con' := ap_c60) aj_d58 htb hT rfl rfl [_] rfl rfl (cw_s0 hB rfl) rfl (Nat.le_of_ble_eq_true rfl) ⟨by decide, by decide⟩ (cw_a1 (by omega) (ap_1_60 htb (cw_SP1c _ _ rfl rfl) cw_hK) hT hB rfl ⟨(cw_gR (cw_s0 hB rfl) (by decide) (by decide)), (cw_gw (a := iv.toInt) rfl (by omega) (by omega)), trivial⟩) ?_
  rintro ru1363 h1363 hT1363 ho1363 hRu1363
  have f1364 : cw_F h1363 39 0 2 (.ref (52 + x)) := cw_trF ho1363 (by decide) f2
  have f1365 : cw_F h1363 39 0 5 (.int y) := cw_trF ho1363 (by decide) f5
  have f1366 : cw_F h1363 30 4 4 (.int n) := cw_trF ho1363 (by decide) f4
  have a1367 : cw_A h1363 31 0 2500 (.inl f) := cw_trA ho1363 (by decide) a31
  have a1368 : cw_A h1363 34 0 2500 (.inl g) := cw_trA ho1363 (by decide) a34
  obtain ⟨y1369, rfl⟩ := cw_rL hRu1363
  show cw_W _ _ _ _ _ _ _ _ _ _ 295 [(0, .ref (52 + 39)), (1, .int 222), (2, .int iv)] [.long y1369, .int x1362, .ref (52 + 39), .int iv, .ref (52 + 39)]
  refine cw_k0 (i := 39) (t := 52) (con' := ap_c74) aj_d58 htb hT1363 rfl rfl [_, _] rfl rfl (cw_s0 hB rfl) rfl (Nat.le_of_ble_eq_true rfl) ⟨by decide, by decide⟩ (cw_a1 (by omega) (ap_1_74 htb (cw_SP1c _ _ rfl rfl) cw_hK) hT1363 hB rfl ⟨(cw_gR (cw_s0 hB rfl) (by decide) (by decide)), (cw_gw (a := x1362.toInt) rfl (by omega) (by omega)), trivial, trivial⟩) ?_
  rintro ru1370 h1370 hT1370 ho1370 hRu1370
  have f1371 : cw_F h1370 39 0 2 (.ref (52 + x)) := cw_trF ho1370 (by decide) f1364
  have f1372 : cw_F h1370 39 0 5 (.int y) := cw_trF ho1370 (by decide) f1365
  have f1373 : cw_F h1370 30 4 4 (.int n) := cw_trF ho1370 (by decide) f1366
  have a1374 : cw_A h1370 31 0 2500 (.inl f) := cw_trA ho1370 (by decide) a1367
  have a1375 : cw_A h1370 34 0 2500 (.inl g) := cw_trA ho1370 (by decide) a1368
  obtain ⟨x1376, rfl, bx1376⟩ := cw_rI hRu1370
  show cw_W _ _ _ _ _ _ _ _ _ _ 298 [(0, .ref (52 + 39)), (1, .int 222), (2, .int iv)] [.int x1376, .int iv, .ref (52 + 39)]
  refine cw_k0 (i := 39) (t := 52) (con' := cw_nC 78 none) aj_d58 htb hT1370 rfl rfl [_, _] rfl rfl (cw_s0 hB rfl) rfl (Nat.le_of_ble_eq_true rfl) ⟨by decide, by decide⟩ (cw_keepN htb hT1370 (by omega) (v := x1376) hx hi ⟨by omega, by omega⟩ (cw_CQ_eq (ho1370.trans (ho1363.trans rfl)) hQ)) ?_
  rintro ru1377 h1377 hT1377 ⟨yu1377, nu1377, gu1377, Qu1377, eu1377⟩ hRu1377
  obtain rfl := cw_rN hRu1377
  have Q1378 := Qu1377
  obtain ⟨Iq1378, qq1378, f2q1378, a31q1378, a34q1378, f4q1378, f5q1378, Zq1378, nq1378, gq1378, bq1378⟩ := id Q1378
  show cw_W _ _ _ _ _ _ _ _ _ _ 301 [(0, .ref (52 + 39)), (1, .int 222), (2, .int iv)] []
  refine cw_n aj_d58 rfl rfl ?_
  refine cw_Wr aj_d58 rfl rfl hT1377 ?_ ?_
  · exact ⟨rfl, _, _, _, Q1378, by omega, by omega⟩
  · trivial
theorem cw_cq223 (htb : ak_tbOK ak_C1 tb) (hT : ak_Ty ak_C1 s h) (hd : 4 ≤ d)  (hx : x = 2 ∨ x = 14) (hi : 0 ≤ iv.toInt ∧ iv.toInt ≤ 2499) (hy : -2590 ≤ y.toInt ∧ y.toInt ≤ 2590) (hQ : cw_CQ N bb x n f iv g0 n0 B y nt g s h) : cw_K ak_C1 (fun s' r h' => s' = s ∧ ∃ (y' nt' : Int32) (g' : Nat → Int32), cw_CQ N bb x n f iv g0 n0 B y' nt' g' s' h' ∧ (y.toInt - 1 ≤ y'.toInt ∧ y'.toInt ≤ y.toInt + 1)) tb d (cw_nC 58 none) [.ref (52 + 39), .int 223, .int iv] s h := by
  obtain ⟨d, rfl⟩ : ∃ e, d = e + 1 := ⟨d - 1, by omega⟩
  obtain ⟨Ih, qx, f2, a31, a34, f4, f5, Zh, nh, gh, bh⟩ := id hQ
  have hB := Ih.1
  refine cw_m (con := cw_nC 58 none) aj_m58_at (Nat.le_of_ble_eq_true rfl) ?_
  show cw_W _ _ _ _ _ _ _ _ _ _ 0 [(0, .ref (52 + 39)), (1, .int 223), (2, .int iv)] []
  refine cw_n aj_d58 rfl rfl ?_
  refine cw_tsw (tgt := 304) (a := (223 : Int)) aj_d58 rfl rfl ⟨by decide, by decide⟩ rfl rfl ?_
  refine cw_n aj_d58 rfl rfl ?_
  refine cw_n aj_d58 rfl rfl ?_
  refine cw_k0 (i := 39) (t := 52) (con' := ap_c80) aj_d58 htb hT rfl rfl [_] rfl rfl (cw_s0 hB rfl) rfl (Nat.le_of_ble_eq_true rfl) ⟨by decide, by decide⟩ (cw_a2 (by omega) (ap_1_80 htb (cw_SPkc rfl rfl) cw_hK (cw_H1k htb)) hT Ih rfl ⟨(cw_gR (cw_s0 hB rfl) (by decide) (by decide)), (cw_gw (a := iv.toInt) rfl (by omega) (by omega)), trivial⟩) ?_
  rintro ru1379 h1379 hT1379 ⟨Iu1379, ku1379, mu1379⟩ hRu1379
  obtain rfl := cw_rN hRu1379
  have Q1380 := cw_CQ_f Iu1379 ku1379 mu1379 hQ
  obtain ⟨Iq1380, qq1380, f2q1380, a31q1380, a34q1380, f4q1380, f5q1380, Zq1380, nq1380, gq1380, bq1380⟩ := id Q1380
  show cw_W _ _ _ _ _ _ _ _ _ _ 309 [(0, .ref (52 + 39)), (1, .int 223), (2, .int iv)] []
  refine cw_n aj_d58 rfl rfl ?_
  refine cw_Wr aj_d58 rfl rfl hT1379 ?_ ?_
  · exact ⟨rfl, _, _, _, Q1380, by omega, by omega⟩
  · trivial
theorem cw_cq210 (htb : ak_tbOK ak_C1 tb) (hT : ak_Ty ak_C1 s h) (hd : 4 ≤ d)  (hx : x = 2 ∨ x = 14) (hi : 0 ≤ iv.toInt ∧ iv.toInt ≤ 2499) (hy : -2590 ≤ y.toInt ∧ y.toInt ≤ 2590) (hQ : cw_CQ N bb x n f iv g0 n0 B y nt g s h) : cw_K ak_C1 (fun s' r h' => s' = s ∧ ∃ (y' nt' : Int32) (g' : Nat → Int32), cw_CQ N bb x n f iv g0 n0 B y' nt' g' s' h' ∧ (y.toInt - 1 ≤ y'.toInt ∧ y'.toInt ≤ y.toInt + 1) ∧ (cw_bado (cw_o h') ∨ 0 ≤ (g' iv.toInt.toNat).toInt ∧ (g' iv.toInt.toNat).toInt < nt'.toInt)) tb d (cw_nC 58 none) [.ref (52 + 39), .int 210, .int iv] s h := by
  obtain ⟨d, rfl⟩ : ∃ e, d = e + 1 := ⟨d - 1, by omega⟩
  obtain ⟨Ih, qx, f2, a31, a34, f4, f5, Zh, nh, gh, bh⟩ := id hQ
  have hB := Ih.1
  refine cw_m (con := cw_nC 58 none) aj_m58_at (Nat.le_of_ble_eq_true rfl) ?_
  show cw_W _ _ _ _ _ _ _ _ _ _ 0 [(0, .ref (52 + 39)), (1, .int 210), (2, .int iv)] []
  refine cw_n aj_d58 rfl rfl ?_
  refine cw_tsw (tgt := 72) (a := (210 : Int)) aj_d58 rfl rfl ⟨by decide, by decide⟩ rfl rfl ?_
  refine cw_n aj_d58 rfl rfl ?_
  refine cw_n aj_d58 rfl rfl ?_
  refine cw_k0 (i := 39) (t := 52) (con' := cw_nC 59 none) aj_d58 htb hT rfl rfl [_] rfl rfl (cw_s0 hB rfl) rfl (Nat.le_of_ble_eq_true rfl) ⟨by decide, by decide⟩ (cw_cload htb hT (by omega) hx hi (by omega) hQ) ?_
  rintro ru1381 h1381 hT1381 ⟨yu1381, nu1381, gu1381, Qu1381, eu1381, bb⟩ hRu1381
  obtain rfl := cw_rN hRu1381
  have Q1382 := Qu1381
  obtain ⟨Iq1382, qq1382, f2q1382, a31q1382, a34q1382, f4q1382, f5q1382, Zq1382, nq1382, gq1382, bq1382⟩ := id Q1382
  show cw_W _ _ _ _ _ _ _ _ _ _ 77 [(0, .ref (52 + 39)), (1, .int 210), (2, .int iv)] []
  refine cw_n aj_d58 rfl rfl ?_
  refine cw_Wr aj_d58 rfl rfl hT1381 ?_ ?_
  · exact ⟨rfl, _, _, _, Q1382, ⟨by omega, by omega⟩, bb⟩
  · trivial
theorem cw_cq0 (htb : ak_tbOK ak_C1 tb) (hT : ak_Ty ak_C1 s h) (hd : 4 ≤ d) (hv : 224 ≤ v.toInt) (hx : x = 2 ∨ x = 14) (hi : 0 ≤ iv.toInt ∧ iv.toInt ≤ 2499) (hy : -2590 ≤ y.toInt ∧ y.toInt ≤ 2590) (hQ : cw_CQ N bb x n f iv g0 n0 B y nt g s h) : cw_K ak_C1 (fun s' r h' => s' = s ∧ ∃ (y' nt' : Int32) (g' : Nat → Int32), cw_CQ N bb x n f iv g0 n0 B y' nt' g' s' h' ∧ (y.toInt - 1 ≤ y'.toInt ∧ y'.toInt ≤ y.toInt + 1)) tb d (cw_nC 58 none) [.ref (52 + 39), .int v, .int iv] s h := by
  obtain ⟨d, rfl⟩ : ∃ e, d = e + 1 := ⟨d - 1, by omega⟩
  obtain ⟨Ih, qx, f2, a31, a34, f4, f5, Zh, nh, gh, bh⟩ := id hQ
  have hB := Ih.1
  refine cw_m (con := cw_nC 58 none) aj_m58_at (Nat.le_of_ble_eq_true rfl) ?_
  show cw_W _ _ _ _ _ _ _ _ _ _ 0 [(0, .ref (52 + 39)), (1, .int v), (2, .int iv)] []
  refine cw_n aj_d58 rfl rfl ?_
  refine cw_tsd (tgt := 312) (a := v.toInt) aj_d58 rfl rfl (by omega) rfl ?_
  refine cw_Wr aj_d58 rfl rfl hT ?_ ?_
  · exact ⟨rfl, _, _, _, hQ, by omega, by omega⟩
  · trivial
end CW83
