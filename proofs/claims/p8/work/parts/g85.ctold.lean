/-! THE CHECK OF WHAT IS TOLD, BY HAND (printed by wip/p2/cwalk/g85.py) -/
section CW85
variable {T : ak_TT} {Φ : List Nat → Option Value → aj_H → Prop} {tb : aj_T} {con : ak_Con} {d : Nat} {s s' s2 s0 : List Nat} {h h' h2 h0 h1 : aj_H} {i j p q x c k l l' : Nat} {b b' b2 : Int} {o o' o2 o0 : cw_O} {EF : Nat → Nat → Nat → Prop} {EA : Nat → Prop} {n nt n0 iv y y' v t wd : Int32} {w : Value} {f g g0 : Nat → Int32} {B N : Prop} {bb : Int}
theorem cw_ac_l {d : Nat} (hd : 1 ≤ d) (htb : ak_tbOK ak_C1 tb) (hB : cw_B s) (qx : s[x]? = some 59) (qj : s[j]? = some 58) (hw : 0 ≤ wd.toInt ∧ wd.toInt ≤ 5) (ht : 0 ≤ t.toInt ∧ t.toInt ≤ 9) {w9 : Int64} : ∀ (M : Nat) {h : aj_H} {lv : aj_V} {kc ks : Nat} {c5 : Int32} (hT : ak_Ty ak_C1 s h) (Q : cw_CQ N bb x n f iv g0 n0 B y nt g s h) (fw : cw_F h j 6 3 (.int wd)) (hl0 : aj_lv lv 0 = some (.ref (52 + x))) (hl1 : aj_lv lv 1 = some (.long w9)) (hl3 : aj_lv lv 3 = some (.int t)) (hl4 : aj_lv lv 4 = some (.ref (52 + j))) (hl5 : aj_lv lv 5 = some (.int c5)) (h5 : 0 ≤ c5.toInt) (hN : wd.toInt - c5.toInt ≤ M), cw_W ak_C1 (fun s' r h' => s' = s ∧ ∃ (y' nt' : Int32) (g' : Nat → Int32), cw_CQ N bb x n f iv g0 n0 B y' nt' g' s' h' ∧ y'.toInt = y.toInt) tb d aj_m93 (cw_nC 93 (some (.inl (0, 1)))) s h kc ks 34 lv [] := by
  intro M
  induction M with
  | zero =>
    intro h lv kc ks c5 hT Q fw hl0 hl1 hl3 hl4 hl5 h5 hN
    refine cw_l0 aj_d93 rfl rfl hl5 ?_
    refine cw_l2 aj_d93 rfl rfl hl4 ?_
    refine cw_g (i := j) (v := .int wd) htb.1 aj_d93 rfl rfl (by decide) fw ?_
    refine cw_c (tgt := 64) aj_d93 rfl rfl (fun q1001 => ?_) (fun q1001 => ?_)
    · have q1001 : c5.toInt ≥ wd.toInt := aw_t_ge (a := c5.toInt) (b := wd.toInt) rfl rfl q1001
      refine cw_l0 aj_d93 rfl rfl hl3 ?_
      refine cw_n aj_d93 rfl rfl ?_
      refine cw_mul aj_d93 rfl (a := t.toInt) (b := (6 : Int)) rfl rfl (by omega) (by omega) (fun x1002 ex1002 => ?_)
      refine cw_l2 aj_d93 rfl rfl hl4 ?_
      refine cw_g (i := j) (v := .int wd) htb.1 aj_d93 rfl rfl (by decide) fw ?_
      refine cw_add aj_d93 rfl (a := x1002.toInt) (b := wd.toInt) rfl rfl (by omega) (by omega) (fun x1003 ex1003 => ?_)
      refine cw_t0 (j := 5) aj_d93 rfl (by decide) rfl ?_
      obtain ⟨lv1004, elv1004⟩ : ∃ l, l = aj_set1 lv 5 (.int x1003) := ⟨_, rfl⟩
      rw [← elv1004]
      have hlv1004_0 : aj_lv lv1004 0 = some (.ref (52 + x)) := cw_e1 elv1004 hl0 (by decide) (Or.inl (by decide))
      have hlv1004_1 : aj_lv lv1004 1 = some (.long w9) := cw_e1 elv1004 hl1 (by decide) (Or.inl (by decide))
      have hlv1004_3 : aj_lv lv1004 3 = some (.int t) := cw_e1 elv1004 hl3 (by decide) (Or.inl (by decide))
      have hlv1004_4 : aj_lv lv1004 4 = some (.ref (52 + j)) := cw_e1 elv1004 hl4 (by decide) (Or.inr rfl)
      have hlv1004_5 : aj_lv lv1004 5 = some (.int x1003) := by rw [elv1004]; exact ak_set1_eq _ _ _
      show cw_W _ _ _ _ _ _ _ _ _ _ 76 lv1004 []
      refine cw_l0 aj_d93 rfl rfl hlv1004_5 ?_
      refine cw_l2 aj_d93 rfl rfl hlv1004_0 ?_
      obtain ⟨v1005, f1005, g1005⟩ := cw_tyF (i := x) (t := 59) (c := 7) (k := 9) (y := (.inr (some ([74], false)))) hT qx rfl rfl rfl
      obtain ⟨i1005, rfl, q1005⟩ := cw_gr g1005 (by decide)
      refine cw_g (i := x) (v := .ref (52 + i1005)) htb.1 aj_d93 rfl rfl (by decide) f1005 ?_
      obtain ⟨n1007, z1007, a1007, p1007l, p1007r, p1007⟩ := cw_tyA (i := i1005) (t := 74) (kd := 1) (n1 := 60) (n2 := 60) (y := (.inr none)) hT q1005 rfl
      obtain rfl : n1007 = 60 := Nat.le_antisymm p1007r p1007l
      obtain ⟨fn1007, rfl, p1007c⟩ := cw_xl p1007
      refine cw_alen (i := i1005) htb.1 aj_d93 rfl a1007 (by decide) (by omega) (fun x1006 ex1006 => ?_)
      refine cw_c (tgt := 105) aj_d93 rfl rfl (fun q1008 => ?_) (fun q1008 => ?_)
      · have q1008 : x1003.toInt ≥ (60 : Int) := aw_t_ge (a := x1003.toInt) (b := (60 : Int)) rfl ex1006 q1008
        refine cw_n aj_d93 rfl rfl ?_
        refine cw_Wr aj_d93 rfl rfl hT ?_ ?_
        · exact ⟨rfl, _, _, _, Q, rfl⟩
        · exact cw_gw (s := s) (a := 1) rfl (by decide) (by decide)
      · have q1008 : x1003.toInt < (60 : Int) := aw_t_ge (a := x1003.toInt) (b := (60 : Int)) rfl ex1006 q1008
        refine cw_l2 aj_d93 rfl rfl hlv1004_0 ?_
        refine cw_g (i := x) (v := .ref (52 + i1005)) htb.1 aj_d93 rfl rfl (by decide) f1005 ?_
        refine cw_l0 aj_d93 rfl rfl hlv1004_5 ?_
        refine cw_l1 aj_d93 rfl rfl hlv1004_1 ?_
        refine cw_stl (i := i1005) htb aj_d93 rfl a1007 hT q1005 rfl (by decide) (a := x1003.toInt) rfl (by omega) (by omega) (fun hT1009 => ?_)
        have f1010 : cw_F (cw_sa h i1005 (.inr (.inl (vp_updL fn1007 (x1003.toInt).toNat w9)))) j 6 3 (.int wd) := cw_sa_F fw
        have f1011 : cw_F (cw_sa h i1005 (.inr (.inl (vp_updL fn1007 (x1003.toInt).toNat w9)))) x 7 9 (.ref (52 + i1005)) := cw_sa_F f1005
        have a1012 : cw_A (cw_sa h i1005 (.inr (.inl (vp_updL fn1007 (x1003.toInt).toNat w9)))) i1005 1 60 (.inr (.inl (vp_updL fn1007 (x1003.toInt).toNat w9))) := cw_sa_same a1007
        refine cw_l2 aj_d93 rfl rfl hlv1004_4 ?_
        refine cw_n aj_d93 rfl rfl ?_
        refine cw_g (i := j) (v := .int wd) htb.1 aj_d93 rfl rfl (by decide) f1010 ?_
        refine cw_n aj_d93 rfl rfl ?_
        refine cw_add aj_d93 rfl (a := wd.toInt) (b := (1 : Int)) rfl rfl (by omega) (by omega) (fun x1013 ex1013 => ?_)
        refine cw_p1 (kind := 1) (by decide) (i := j) (t := 58) (c := 6) (k := 3) (v := .int x1013) (y := (.inl (0, 20000000))) htb aj_d93 rfl rfl hT1009 qj rfl rfl rfl (cw_gw (a := x1013.toInt) rfl (by omega) (by omega)) (by decide) rfl rfl (fun hT1014 => ?_)
        have f1015 : cw_F (cw_sf (cw_sa h i1005 (.inr (.inl (vp_updL fn1007 (x1003.toInt).toNat w9)))) j 3 (.int x1013)) x 7 9 (.ref (52 + i1005)) := cw_sf_ne f1011 (Or.inr (by decide))
        have a1016 : cw_A (cw_sf (cw_sa h i1005 (.inr (.inl (vp_updL fn1007 (x1003.toInt).toNat w9)))) j 3 (.int x1013)) i1005 1 60 (.inr (.inl (vp_updL fn1007 (x1003.toInt).toNat w9))) := cw_sf_A a1012
        have f1017 : cw_F (cw_sf (cw_sa h i1005 (.inr (.inl (vp_updL fn1007 (x1003.toInt).toNat w9)))) j 3 (.int x1013)) j 6 3 (.int x1013) := cw_sf_same f1010
        refine cw_n aj_d93 rfl rfl ?_
        refine cw_Wr aj_d93 rfl rfl hT1014 ?_ ?_
        · exact ⟨rfl, _, _, _, (cw_CQ_row hT1009 (Or.inl rfl) f1010 (by omega) (cw_CQ_eq ((cw_o_sa a1007 (cw_nsp hB q1005 (by decide))).trans rfl) Q)), rfl⟩
        · exact cw_gw (s := s) (a := 1) rfl (by decide) (by decide)
    · have q1001 : c5.toInt < wd.toInt := aw_t_ge (a := c5.toInt) (b := wd.toInt) rfl rfl q1001
      exfalso
      omega
  | succ M ih =>
    intro h lv kc ks c5 hT Q fw hl0 hl1 hl3 hl4 hl5 h5 hN
    refine cw_l0 aj_d93 rfl rfl hl5 ?_
    refine cw_l2 aj_d93 rfl rfl hl4 ?_
    refine cw_g (i := j) (v := .int wd) htb.1 aj_d93 rfl rfl (by decide) fw ?_
    refine cw_c (tgt := 64) aj_d93 rfl rfl (fun q1018 => ?_) (fun q1018 => ?_)
    · have q1018 : c5.toInt ≥ wd.toInt := aw_t_ge (a := c5.toInt) (b := wd.toInt) rfl rfl q1018
      refine cw_l0 aj_d93 rfl rfl hl3 ?_
      refine cw_n aj_d93 rfl rfl ?_
      refine cw_mul aj_d93 rfl (a := t.toInt) (b := (6 : Int)) rfl rfl (by omega) (by omega) (fun x1019 ex1019 => ?_)
      refine cw_l2 aj_d93 rfl rfl hl4 ?_
      refine cw_g (i := j) (v := .int wd) htb.1 aj_d93 rfl rfl (by decide) fw ?_
      refine cw_add aj_d93 rfl (a := x1019.toInt) (b := wd.toInt) rfl rfl (by omega) (by omega) (fun x1020 ex1020 => ?_)
      refine cw_t0 (j := 5) aj_d93 rfl (by decide) rfl ?_
      obtain ⟨lv1021, elv1021⟩ : ∃ l, l = aj_set1 lv 5 (.int x1020) := ⟨_, rfl⟩
      rw [← elv1021]
      have hlv1021_0 : aj_lv lv1021 0 = some (.ref (52 + x)) := cw_e1 elv1021 hl0 (by decide) (Or.inl (by decide))
      have hlv1021_1 : aj_lv lv1021 1 = some (.long w9) := cw_e1 elv1021 hl1 (by decide) (Or.inl (by decide))
      have hlv1021_3 : aj_lv lv1021 3 = some (.int t) := cw_e1 elv1021 hl3 (by decide) (Or.inl (by decide))
      have hlv1021_4 : aj_lv lv1021 4 = some (.ref (52 + j)) := cw_e1 elv1021 hl4 (by decide) (Or.inr rfl)
      have hlv1021_5 : aj_lv lv1021 5 = some (.int x1020) := by rw [elv1021]; exact ak_set1_eq _ _ _
      show cw_W _ _ _ _ _ _ _ _ _ _ 76 lv1021 []
      refine cw_l0 aj_d93 rfl rfl hlv1021_5 ?_
      refine cw_l2 aj_d93 rfl rfl hlv1021_0 ?_
      obtain ⟨v1022, f1022, g1022⟩ := cw_tyF (i := x) (t := 59) (c := 7) (k := 9) (y := (.inr (some ([74], false)))) hT qx rfl rfl rfl
      obtain ⟨i1022, rfl, q1022⟩ := cw_gr g1022 (by decide)
      refine cw_g (i := x) (v := .ref (52 + i1022)) htb.1 aj_d93 rfl rfl (by decide) f1022 ?_
      obtain ⟨n1024, z1024, a1024, p1024l, p1024r, p1024⟩ := cw_tyA (i := i1022) (t := 74) (kd := 1) (n1 := 60) (n2 := 60) (y := (.inr none)) hT q1022 rfl
      obtain rfl : n1024 = 60 := Nat.le_antisymm p1024r p1024l
      obtain ⟨fn1024, rfl, p1024c⟩ := cw_xl p1024
      refine cw_alen (i := i1022) htb.1 aj_d93 rfl a1024 (by decide) (by omega) (fun x1023 ex1023 => ?_)
      refine cw_c (tgt := 105) aj_d93 rfl rfl (fun q1025 => ?_) (fun q1025 => ?_)
      · have q1025 : x1020.toInt ≥ (60 : Int) := aw_t_ge (a := x1020.toInt) (b := (60 : Int)) rfl ex1023 q1025
        refine cw_n aj_d93 rfl rfl ?_
        refine cw_Wr aj_d93 rfl rfl hT ?_ ?_
        · exact ⟨rfl, _, _, _, Q, rfl⟩
        · exact cw_gw (s := s) (a := 1) rfl (by decide) (by decide)
      · have q1025 : x1020.toInt < (60 : Int) := aw_t_ge (a := x1020.toInt) (b := (60 : Int)) rfl ex1023 q1025
        refine cw_l2 aj_d93 rfl rfl hlv1021_0 ?_
        refine cw_g (i := x) (v := .ref (52 + i1022)) htb.1 aj_d93 rfl rfl (by decide) f1022 ?_
        refine cw_l0 aj_d93 rfl rfl hlv1021_5 ?_
        refine cw_l1 aj_d93 rfl rfl hlv1021_1 ?_
        refine cw_stl (i := i1022) htb aj_d93 rfl a1024 hT q1022 rfl (by decide) (a := x1020.toInt) rfl (by omega) (by omega) (fun hT1026 => ?_)
        have f1027 : cw_F (cw_sa h i1022 (.inr (.inl (vp_updL fn1024 (x1020.toInt).toNat w9)))) j 6 3 (.int wd) := cw_sa_F fw
        have f1028 : cw_F (cw_sa h i1022 (.inr (.inl (vp_updL fn1024 (x1020.toInt).toNat w9)))) x 7 9 (.ref (52 + i1022)) := cw_sa_F f1022
        have a1029 : cw_A (cw_sa h i1022 (.inr (.inl (vp_updL fn1024 (x1020.toInt).toNat w9)))) i1022 1 60 (.inr (.inl (vp_updL fn1024 (x1020.toInt).toNat w9))) := cw_sa_same a1024
        refine cw_l2 aj_d93 rfl rfl hlv1021_4 ?_
        refine cw_n aj_d93 rfl rfl ?_
        refine cw_g (i := j) (v := .int wd) htb.1 aj_d93 rfl rfl (by decide) f1027 ?_
        refine cw_n aj_d93 rfl rfl ?_
        refine cw_add aj_d93 rfl (a := wd.toInt) (b := (1 : Int)) rfl rfl (by omega) (by omega) (fun x1030 ex1030 => ?_)
        refine cw_p1 (kind := 1) (by decide) (i := j) (t := 58) (c := 6) (k := 3) (v := .int x1030) (y := (.inl (0, 20000000))) htb aj_d93 rfl rfl hT1026 qj rfl rfl rfl (cw_gw (a := x1030.toInt) rfl (by omega) (by omega)) (by decide) rfl rfl (fun hT1031 => ?_)
        have f1032 : cw_F (cw_sf (cw_sa h i1022 (.inr (.inl (vp_updL fn1024 (x1020.toInt).toNat w9)))) j 3 (.int x1030)) x 7 9 (.ref (52 + i1022)) := cw_sf_ne f1028 (Or.inr (by decide))
        have a1033 : cw_A (cw_sf (cw_sa h i1022 (.inr (.inl (vp_updL fn1024 (x1020.toInt).toNat w9)))) j 3 (.int x1030)) i1022 1 60 (.inr (.inl (vp_updL fn1024 (x1020.toInt).toNat w9))) := cw_sf_A a1029
        have f1034 : cw_F (cw_sf (cw_sa h i1022 (.inr (.inl (vp_updL fn1024 (x1020.toInt).toNat w9)))) j 3 (.int x1030)) j 6 3 (.int x1030) := cw_sf_same f1027
        refine cw_n aj_d93 rfl rfl ?_
        refine cw_Wr aj_d93 rfl rfl hT1031 ?_ ?_
        · exact ⟨rfl, _, _, _, (cw_CQ_row hT1026 (Or.inl rfl) f1027 (by omega) (cw_CQ_eq ((cw_o_sa a1024 (cw_nsp hB q1022 (by decide))).trans rfl) Q)), rfl⟩
        · exact cw_gw (s := s) (a := 1) rfl (by decide) (by decide)
    · have q1018 : c5.toInt < wd.toInt := aw_t_ge (a := c5.toInt) (b := wd.toInt) rfl rfl q1018
      refine cw_l2 aj_d93 rfl rfl hl0 ?_
      refine cw_l0 aj_d93 rfl rfl hl3 ?_
      refine cw_l0 aj_d93 rfl rfl hl5 ?_
      refine cw_k0 (i := x) (t := 59) (con' := ap_c66) aj_d93 htb hT rfl rfl [_, _] rfl rfl qx rfl (Nat.le_of_ble_eq_true rfl) ⟨by decide, by decide⟩ (cw_a1 (by omega) (ap_1_66 htb (cw_SP1c _ _ rfl rfl) cw_hK) hT hB rfl ⟨(cw_gR qx (by decide) (by decide)), (cw_gw (a := t.toInt) rfl (by omega) (by omega)), (cw_gw (a := c5.toInt) rfl (by omega) (by omega)), trivial⟩) ?_
      rintro ru1035 h1035 hT1035 ho1035 hRu1035
      have f1036 : cw_F h1035 j 6 3 (.int wd) := cw_trF ho1035 (by decide) fw
      obtain ⟨y1037, rfl⟩ := cw_rL hRu1035
      show cw_W _ _ _ _ _ _ _ _ _ _ 51 lv [.long y1037]
      refine cw_l1 aj_d93 rfl rfl hl1 ?_
      refine cw_any aj_d93 rfl rfl (fun x1038 ex1038 => ?_)
      refine cw_z (tgt := 58) aj_d93 rfl rfl (fun q1039 => ?_) (fun q1039 => ?_)
      · have q1039 : x1038.toInt ≠ (0 : Int) := aw_t_ne (a := x1038.toInt) (b := (0 : Int)) rfl rfl q1039
        refine cw_inc aj_d93 rfl hl5 (a := c5.toInt) rfl (by omega) (by omega) (by decide) (by decide) (fun x1040 ex1040 => ?_)
        obtain ⟨lv1041, elv1041⟩ : ∃ l, l = aj_set1 lv 5 (.int x1040) := ⟨_, rfl⟩
        rw [← elv1041]
        have hlv1041_0 : aj_lv lv1041 0 = some (.ref (52 + x)) := cw_e1 elv1041 hl0 (by decide) (Or.inl (by decide))
        have hlv1041_1 : aj_lv lv1041 1 = some (.long w9) := cw_e1 elv1041 hl1 (by decide) (Or.inl (by decide))
        have hlv1041_3 : aj_lv lv1041 3 = some (.int t) := cw_e1 elv1041 hl3 (by decide) (Or.inl (by decide))
        have hlv1041_4 : aj_lv lv1041 4 = some (.ref (52 + j)) := cw_e1 elv1041 hl4 (by decide) (Or.inr rfl)
        have hlv1041_5 : aj_lv lv1041 5 = some (.int x1040) := by rw [elv1041]; exact ak_set1_eq _ _ _
        show cw_W _ _ _ _ _ _ _ _ _ _ 61 lv1041 []
        refine cw_n aj_d93 rfl rfl ?_
        exact ih hT1035 (cw_CQ_eq (ho1035.trans rfl) Q) f1036 hlv1041_0 hlv1041_1 hlv1041_3 hlv1041_4 hlv1041_5 (by omega) (by omega)
      · have q1039 : x1038.toInt = (0 : Int) := aw_t_ne (a := x1038.toInt) (b := (0 : Int)) rfl rfl q1039
        refine cw_n aj_d93 rfl rfl ?_
        refine cw_Wr aj_d93 rfl rfl hT1035 ?_ ?_
        · exact ⟨rfl, _, _, _, (cw_CQ_eq (ho1035.trans rfl) Q), rfl⟩
        · exact cw_gw (s := s) (a := 0) rfl (by decide) (by decide)
theorem cw_addC (htb : ak_tbOK ak_C1 tb) (hT : ak_Ty ak_C1 s h) (hd : 3 ≤ d) {w9 : Int64} (hx : x = 2 ∨ x = 14) (hi : 0 ≤ iv.toInt ∧ iv.toInt ≤ 2499) (hy : -2600 ≤ y.toInt ∧ y.toInt ≤ 2600) (hQ : cw_CQ N bb x n f iv g0 n0 B y nt g s h) : cw_K ak_C1 (fun s' r h' => s' = s ∧ ∃ (y' nt' : Int32) (g' : Nat → Int32), cw_CQ N bb x n f iv g0 n0 B y' nt' g' s' h' ∧ y'.toInt = y.toInt) tb d (cw_nC 93 (some (.inl (0, 1)))) [.ref (52 + x), .long w9] s h := by
  obtain ⟨d, rfl⟩ : ∃ e, d = e + 1 := ⟨d - 1, by omega⟩
  obtain ⟨Ih, qx, f2, a31, a34, f4, f5, Zh, nh, gh, bh⟩ := id hQ
  have hB := Ih.1
  refine cw_m (con := cw_nC 93 (some (.inl (0, 1)))) aj_m93_at (Nat.le_of_ble_eq_true rfl) ?_
  show cw_W _ _ _ _ _ _ _ _ _ _ 0 [(0, .ref (52 + x)), (1, .long w9)] []
  obtain ⟨a9, q3, -, f12, -⟩ := id Zh
  have f12 := (cw_fo_F (h := h) (by decide)).mp f12
  obtain ⟨v', f', g'⟩ := cw_tyF (i := x) (t := 59) (c := 7) (k := 12) (y := .inl (0, 10)) hT qx rfl rfl rfl
  cases (cw_F_u f' f12).2
  obtain ⟨x', e, hx'⟩ := ak_gi g'
  cases e
  dsimp only [ak_win] at hx'
  refine cw_n aj_d93 rfl rfl ?_
  refine cw_g (i := x) (v := .int nt) htb.1 aj_d93 rfl rfl (by decide) f12 ?_
  refine cw_n aj_d93 rfl rfl ?_
  refine cw_sub aj_d93 rfl (a := nt.toInt) (b := (1 : Int)) rfl rfl (by omega) (by omega) (fun x1042 ex1042 => ?_)
  refine cw_n aj_d93 rfl rfl ?_
  show cw_W _ _ _ _ _ _ _ _ _ _ 7 [(3, .int x1042), (0, .ref (52 + x)), (1, .long w9)] []
  refine cw_n aj_d93 rfl rfl ?_
  refine cw_n aj_d93 rfl rfl ?_
  refine cw_k0 (i := x) (t := 59) (con' := cw_nC 63 (some (.inr (some ([58], true))))) aj_d93 htb hT rfl rfl [_] rfl rfl qx rfl (Nat.le_of_ble_eq_true rfl) ⟨by decide, by decide⟩ (cw_rowsO1 (x := x1042) htb hT hB (by omega) hx Zh) ?_
  rintro ru1043 hu1043 hTu1043 ⟨eu1043, zu1043⟩ -
  obtain rfl := eu1043.symm
  rcases zu1043 with ⟨-, rfl⟩ | ⟨ht, j, rfl, qj, okj⟩
  · skip
    show cw_W _ _ _ _ _ _ _ _ _ _ 12 [(3, .int x1042), (0, .ref (52 + x)), (1, .long w9)] [.null]
    refine cw_n aj_d93 rfl rfl ?_
    show cw_W _ _ _ _ _ _ _ _ _ _ 14 [(4, .null), (3, .int x1042), (0, .ref (52 + x)), (1, .long w9)] []
    refine cw_n aj_d93 rfl rfl ?_
    refine cw_n aj_d93 rfl rfl ?_
    refine cw_n aj_d93 rfl rfl ?_
    refine cw_Wr aj_d93 rfl rfl hTu1043 ?_ ?_
    · exact ⟨rfl, _, _, _, hQ, rfl⟩
    · exact cw_gw (s := s) (a := 0) rfl (by decide) (by decide)
  · skip
    show cw_W _ _ _ _ _ _ _ _ _ _ 12 [(3, .int x1042), (0, .ref (52 + x)), (1, .long w9)] [.ref (52 + j)]
    refine cw_n aj_d93 rfl rfl ?_
    show cw_W _ _ _ _ _ _ _ _ _ _ 14 [(4, .ref (52 + j)), (3, .int x1042), (0, .ref (52 + x)), (1, .long w9)] []
    refine cw_n aj_d93 rfl rfl ?_
    refine cw_n aj_d93 rfl rfl ?_
    refine cw_n aj_d93 rfl rfl ?_
    obtain ⟨v1044, f1044, g1044⟩ := cw_tyF (i := j) (t := 58) (c := 6) (k := 3) (y := (.inl (0, 20000000))) hTu1043 qj rfl rfl rfl
    obtain ⟨x1044, rfl, b1044⟩ := ak_gi g1044
    dsimp only [ak_win] at b1044
    refine cw_g (i := j) (v := .int x1044) htb.1 aj_d93 rfl rfl (by decide) f1044 ?_
    refine cw_n aj_d93 rfl rfl ?_
    refine cw_c (tgt := 31) aj_d93 rfl rfl (fun q1045 => ?_) (fun q1045 => ?_)
    · have q1045 : x1044.toInt < (6 : Int) := aw_t_lt (a := x1044.toInt) (b := (6 : Int)) rfl rfl q1045
      refine cw_n aj_d93 rfl rfl ?_
      refine cw_n aj_d93 rfl rfl ?_
      show cw_W _ _ _ _ _ _ _ _ _ _ 34 [(5, .int (Int32.ofInt 0)), (4, .ref (52 + j)), (3, .int x1042), (0, .ref (52 + x)), (1, .long w9)] []
      exact cw_ac_l (by omega) htb hB qx qj (by omega) (by omega) 6 hTu1043 hQ f1044 rfl rfl rfl rfl rfl (by decide) (by rw [show (Int32.ofInt 0).toInt = 0 from rfl]; omega)
    · have q1045 : x1044.toInt ≥ (6 : Int) := aw_t_lt (a := x1044.toInt) (b := (6 : Int)) rfl rfl q1045
      refine cw_n aj_d93 rfl rfl ?_
      refine cw_Wr aj_d93 rfl rfl hTu1043 ?_ ?_
      · exact ⟨rfl, _, _, _, hQ, rfl⟩
      · exact cw_gw (s := s) (a := 0) rfl (by decide) (by decide)
theorem cw_cRow (htb : ak_tbOK ak_C1 tb) (hT : ak_Ty ak_C1 s h) (hd : 3 ≤ d)  (hx : x = 2 ∨ x = 14) (hi : 0 ≤ iv.toInt ∧ iv.toInt ≤ 2499) (hy : -2600 ≤ y.toInt ∧ y.toInt ≤ 2600) (hQ : cw_CQ N bb x n f iv g0 n0 B y nt g s h) : cw_K ak_C1 (fun s' r h' => s' = s ∧ ∃ (y' nt' : Int32) (g' : Nat → Int32), cw_CQ N bb x n f iv g0 n0 B y' nt' g' s' h' ∧ y'.toInt = y.toInt) tb d (cw_nC 94 none) [.ref (52 + 39), .int iv] s h := by
  obtain ⟨d, rfl⟩ : ∃ e, d = e + 1 := ⟨d - 1, by omega⟩
  obtain ⟨Ih, qx, f2, a31, a34, f4, f5, Zh, nh, gh, bh⟩ := id hQ
  have hB := Ih.1
  refine cw_m (con := cw_nC 94 none) aj_m94_at (Nat.le_of_ble_eq_true rfl) ?_
  show cw_W _ _ _ _ _ _ _ _ _ _ 0 [(0, .ref (52 + 39)), (1, .int iv)] []
  refine cw_n aj_d94 rfl rfl ?_
  refine cw_g (i := 39) (v := .ref (52 + x)) htb.1 aj_d94 rfl rfl (by decide) f2 ?_
  refine cw_n aj_d94 rfl rfl ?_
  refine cw_n aj_d94 rfl rfl ?_
  refine cw_k0 (i := 39) (t := 52) (con' := ap_c60) aj_d94 htb hT rfl rfl [_] rfl rfl (cw_s0 hB rfl) rfl (Nat.le_of_ble_eq_true rfl) ⟨by decide, by decide⟩ (cw_a1 (by omega) (ap_1_60 htb (cw_SP1c _ _ rfl rfl) cw_hK) hT hB rfl ⟨(cw_gR (cw_s0 hB rfl) (by decide) (by decide)), (cw_gw (a := iv.toInt) rfl (by omega) (by omega)), trivial⟩) ?_
  rintro ru1046 h1046 hT1046 ho1046 hRu1046
  have f1047 : cw_F h1046 39 0 2 (.ref (52 + x)) := cw_trF ho1046 (by decide) f2
  have f1048 : cw_F h1046 39 0 5 (.int y) := cw_trF ho1046 (by decide) f5
  have f1049 : cw_F h1046 30 4 4 (.int n) := cw_trF ho1046 (by decide) f4
  have a1050 : cw_A h1046 31 0 2500 (.inl f) := cw_trA ho1046 (by decide) a31
  have a1051 : cw_A h1046 34 0 2500 (.inl g) := cw_trA ho1046 (by decide) a34
  obtain ⟨y1052, rfl⟩ := cw_rL hRu1046
  show cw_W _ _ _ _ _ _ _ _ _ _ 9 [(0, .ref (52 + 39)), (1, .int iv)] [.long y1052, .ref (52 + x)]
  refine cw_k0 (i := x) (t := 59) (con' := ap_c62) aj_d94 htb hT1046 rfl rfl [_] rfl rfl qx rfl (Nat.le_of_ble_eq_true rfl) ⟨by decide, by decide⟩ (cw_a1 (by omega) (ap_1_62 htb (cw_SP1c _ _ rfl rfl) cw_hK) hT1046 hB rfl ⟨(cw_gR qx (by decide) (by decide)), trivial, trivial⟩) ?_
  rintro ru1053 h1053 hT1053 ho1053 hRu1053
  have f1054 : cw_F h1053 39 0 2 (.ref (52 + x)) := cw_trF ho1053 (by decide) f1047
  have f1055 : cw_F h1053 39 0 5 (.int y) := cw_trF ho1053 (by decide) f1048
  have f1056 : cw_F h1053 30 4 4 (.int n) := cw_trF ho1053 (by decide) f1049
  have a1057 : cw_A h1053 31 0 2500 (.inl f) := cw_trA ho1053 (by decide) a1050
  have a1058 : cw_A h1053 34 0 2500 (.inl g) := cw_trA ho1053 (by decide) a1051
  obtain ⟨x1059, rfl, bx1059⟩ := cw_rI hRu1053
  show cw_W _ _ _ _ _ _ _ _ _ _ 12 [(0, .ref (52 + 39)), (1, .int iv)] [.int x1059]
  refine cw_n aj_d94 rfl rfl ?_
  show cw_W _ _ _ _ _ _ _ _ _ _ 13 [(2, .int x1059), (0, .ref (52 + 39)), (1, .int iv)] []
  refine cw_n aj_d94 rfl rfl ?_
  refine cw_g (i := 39) (v := .ref (52 + x)) htb.1 aj_d94 rfl rfl (by decide) f1054 ?_
  refine cw_n aj_d94 rfl rfl ?_
  refine cw_k0 (i := x) (t := 59) (con' := cw_nC 63 (some (.inr (some ([58], true))))) aj_d94 htb hT1053 rfl rfl [_] rfl rfl qx rfl (Nat.le_of_ble_eq_true rfl) ⟨by decide, by decide⟩ (cw_rowsO1 (x := x1059) htb hT1053 hB (by omega) hx (by rw [(ho1053.trans (ho1046.trans rfl))]; exact Zh)) ?_
  rintro ru1060 hu1060 hTu1060 ⟨eu1060, zu1060⟩ -
  obtain rfl := eu1060.symm
  rcases zu1060 with ⟨-, rfl⟩ | ⟨ht, j, rfl, qj, okj⟩
  · skip
    show cw_W _ _ _ _ _ _ _ _ _ _ 21 [(2, .int x1059), (0, .ref (52 + 39)), (1, .int iv)] [.null]
    refine cw_n aj_d94 rfl rfl ?_
    show cw_W _ _ _ _ _ _ _ _ _ _ 22 [(3, .null), (2, .int x1059), (0, .ref (52 + 39)), (1, .int iv)] []
    refine cw_n aj_d94 rfl rfl ?_
    refine cw_n aj_d94 rfl rfl ?_
    refine cw_n aj_d94 rfl rfl ?_
    refine cw_n aj_d94 rfl rfl ?_
    refine cw_n aj_d94 rfl rfl ?_
    refine cw_k0 (i := 39) (t := 52) (con' := ap_c64) aj_d94 htb hTu1060 rfl rfl [_, _] rfl rfl (cw_s0 hB rfl) rfl (Nat.le_of_ble_eq_true rfl) ⟨by decide, by decide⟩ (cw_a2 (by omega) (ap_1_64 htb (cw_SPkc rfl rfl) cw_hK (cw_H1k htb)) hTu1060 (cw_I_eq (ho1053.trans (ho1046.trans rfl)) Ih) rfl ⟨(cw_gR (cw_s0 hB rfl) (by decide) (by decide)), (cw_gw (a := (4 : Int)) rfl (by omega) (by omega)), (cw_gw (a := iv.toInt) rfl (by omega) (by omega)), trivial⟩) ?_
    rintro ru1061 h1061 hT1061 ⟨Iu1061, ku1061, mu1061⟩ hRu1061
    obtain rfl := cw_rN hRu1061
    have Q1062 := cw_CQ_f Iu1061 ku1061 mu1061 (cw_CQ_eq (ho1053.trans (ho1046.trans rfl)) hQ)
    obtain ⟨Iq1062, qq1062, f2q1062, a31q1062, a34q1062, f4q1062, f5q1062, Zq1062, nq1062, gq1062, bq1062⟩ := id Q1062
    show cw_W _ _ _ _ _ _ _ _ _ _ 32 [(3, .null), (2, .int x1059), (0, .ref (52 + 39)), (1, .int iv)] []
    refine cw_Wr aj_d94 rfl rfl hT1061 ?_ ?_
    · exact ⟨rfl, _, _, _, Q1062, by omega⟩
    · trivial
  · skip
    show cw_W _ _ _ _ _ _ _ _ _ _ 21 [(2, .int x1059), (0, .ref (52 + 39)), (1, .int iv)] [.ref (52 + j)]
    refine cw_n aj_d94 rfl rfl ?_
    show cw_W _ _ _ _ _ _ _ _ _ _ 22 [(3, .ref (52 + j)), (2, .int x1059), (0, .ref (52 + 39)), (1, .int iv)] []
    refine cw_n aj_d94 rfl rfl ?_
    refine cw_n aj_d94 rfl rfl ?_
    refine cw_n aj_d94 rfl rfl ?_
    refine cw_g (i := 39) (v := .ref (52 + x)) htb.1 aj_d94 rfl rfl (by decide) f1054 ?_
    refine cw_n aj_d94 rfl rfl ?_
    refine cw_k0 (i := x) (t := 59) (con' := ap_c95) aj_d94 htb hTu1060 rfl rfl [_] rfl rfl qx rfl (Nat.le_of_ble_eq_true rfl) ⟨by decide, by decide⟩ (cw_a1 (by omega) (ap_1_95 htb (cw_SP1c _ _ rfl rfl) cw_hK) hTu1060 hB rfl ⟨(cw_gR qx (by decide) (by decide)), (cw_full _), trivial⟩) ?_
    rintro ru1063 h1063 hT1063 ho1063 hRu1063
    have f1064 : cw_F h1063 39 0 2 (.ref (52 + x)) := cw_trF ho1063 (by decide) f1054
    have f1065 : cw_F h1063 39 0 5 (.int y) := cw_trF ho1063 (by decide) f1055
    have f1066 : cw_F h1063 30 4 4 (.int n) := cw_trF ho1063 (by decide) f1056
    have a1067 : cw_A h1063 31 0 2500 (.inl f) := cw_trA ho1063 (by decide) a1057
    have a1068 : cw_A h1063 34 0 2500 (.inl g) := cw_trA ho1063 (by decide) a1058
    obtain ⟨x1069, rfl, bx1069⟩ := cw_rI hRu1063
    show cw_W _ _ _ _ _ _ _ _ _ _ 41 [(3, .ref (52 + j)), (2, .int x1059), (0, .ref (52 + 39)), (1, .int iv)] [.int x1069]
    refine cw_z (tgt := 59) aj_d94 rfl rfl (fun q1070 => ?_) (fun q1070 => ?_)
    · have q1070 : x1069.toInt ≠ (0 : Int) := aw_t_ne (a := x1069.toInt) (b := (0 : Int)) rfl rfl q1070
      refine cw_n aj_d94 rfl rfl ?_
      refine cw_n aj_d94 rfl rfl ?_
      refine cw_n aj_d94 rfl rfl ?_
      refine cw_k0 (i := 39) (t := 52) (con' := ap_c64) aj_d94 htb hT1063 rfl rfl [_, _] rfl rfl (cw_s0 hB rfl) rfl (Nat.le_of_ble_eq_true rfl) ⟨by decide, by decide⟩ (cw_a2 (by omega) (ap_1_64 htb (cw_SPkc rfl rfl) cw_hK (cw_H1k htb)) hT1063 (cw_I_eq (ho1063.trans (ho1053.trans (ho1046.trans rfl))) Ih) rfl ⟨(cw_gR (cw_s0 hB rfl) (by decide) (by decide)), (cw_gw (a := (5 : Int)) rfl (by omega) (by omega)), (cw_gw (a := iv.toInt) rfl (by omega) (by omega)), trivial⟩) ?_
      rintro ru1071 h1071 hT1071 ⟨Iu1071, ku1071, mu1071⟩ hRu1071
      obtain rfl := cw_rN hRu1071
      have Q1072 := cw_CQ_f Iu1071 ku1071 mu1071 (cw_CQ_eq (ho1063.trans (ho1053.trans (ho1046.trans rfl))) hQ)
      obtain ⟨Iq1072, qq1072, f2q1072, a31q1072, a34q1072, f4q1072, f5q1072, Zq1072, nq1072, gq1072, bq1072⟩ := id Q1072
      show cw_W _ _ _ _ _ _ _ _ _ _ 65 [(3, .ref (52 + j)), (2, .int x1059), (0, .ref (52 + 39)), (1, .int iv)] []
      refine cw_n aj_d94 rfl rfl ?_
      obtain ⟨v1073, f1073, g1073⟩ := cw_tyF (i := 39) (t := 52) (c := 0) (k := 1) (y := (.inr (some ([56], false)))) hT1071 (cw_s0 hB rfl) rfl rfl rfl
      obtain rfl := cw_gu (i := 30) hB g1073 (by decide) (by decide) (by decide)
      refine cw_g (i := 39) (v := .ref (52 + 30)) htb.1 aj_d94 rfl rfl (by decide) f1073 ?_
      refine cw_n aj_d94 rfl rfl ?_
      refine cw_n aj_d94 rfl rfl ?_
      refine cw_k0 (i := 30) (t := 56) (con' := ap_c41) aj_d94 htb hT1071 rfl rfl [_, _] rfl rfl (cw_s0 hB rfl) rfl (Nat.le_of_ble_eq_true rfl) ⟨by decide, by decide⟩ (cw_setA1 htb hT1071 hB (by omega) iv x1059) ?_
      rintro ru1074 h1074 hT1074 tu1074 hRu1074
      obtain rfl := cw_rN hRu1074
      obtain ⟨gu1074, Qu1074, vu1074⟩ := cw_CQ_set hx hi hT1071 tu1074 Q1072
      have Q1075 := Qu1074
      obtain ⟨Iq1075, qq1075, f2q1075, a31q1075, a34q1075, f4q1075, f5q1075, Zq1075, nq1075, gq1075, bq1075⟩ := id Q1075
      show cw_W _ _ _ _ _ _ _ _ _ _ 74 [(3, .ref (52 + j)), (2, .int x1059), (0, .ref (52 + 39)), (1, .int iv)] []
      refine cw_Wr aj_d94 rfl rfl hT1074 ?_ ?_
      · exact ⟨rfl, _, _, _, Q1075, by omega⟩
      · trivial
    · have q1070 : x1069.toInt = (0 : Int) := aw_t_ne (a := x1069.toInt) (b := (0 : Int)) rfl rfl q1070
      refine cw_n aj_d94 rfl rfl ?_
      obtain ⟨v1076, f1076, g1076⟩ := cw_tyF (i := j) (t := 58) (c := 6) (k := 3) (y := (.inl (0, 20000000))) hT1063 qj rfl rfl rfl
      obtain ⟨x1076, rfl, b1076⟩ := ak_gi g1076
      dsimp only [ak_win] at b1076
      refine cw_g (i := j) (v := .int x1076) htb.1 aj_d94 rfl rfl (by decide) f1076 ?_
      refine cw_n aj_d94 rfl rfl ?_
      obtain ⟨v1077, f1077, g1077⟩ := cw_tyF (i := 39) (t := 52) (c := 0) (k := 1) (y := (.inr (some ([56], false)))) hT1063 (cw_s0 hB rfl) rfl rfl rfl
      obtain rfl := cw_gu (i := 30) hB g1077 (by decide) (by decide) (by decide)
      refine cw_g (i := 39) (v := .ref (52 + 30)) htb.1 aj_d94 rfl rfl (by decide) f1077 ?_
      refine cw_n aj_d94 rfl rfl ?_
      refine cw_k0 (i := 30) (t := 56) (con' := ap_c40) aj_d94 htb hT1063 rfl rfl [_] rfl rfl (cw_s0 hB rfl) rfl (Nat.le_of_ble_eq_true rfl) ⟨by decide, by decide⟩ (cw_a1 (by omega) (ap_1_40 htb (cw_SP1c _ _ rfl rfl) cw_hK) hT1063 hB rfl ⟨(cw_gR (cw_s0 hB rfl) (by decide) (by decide)), (cw_full _), trivial⟩) ?_
      rintro ru1078 h1078 hT1078 ho1078 hRu1078
      have f1079 : cw_F h1078 39 0 2 (.ref (52 + x)) := cw_trF ho1078 (by decide) f1064
      have f1080 : cw_F h1078 39 0 5 (.int y) := cw_trF ho1078 (by decide) f1065
      have f1081 : cw_F h1078 30 4 4 (.int n) := cw_trF ho1078 (by decide) f1066
      have f1082 : cw_F h1078 j 6 3 (.int x1076) := cw_trF ho1078 (by decide) f1076
      have a1083 : cw_A h1078 31 0 2500 (.inl f) := cw_trA ho1078 (by decide) a1067
      have a1084 : cw_A h1078 34 0 2500 (.inl g) := cw_trA ho1078 (by decide) a1068
      obtain ⟨x1085, rfl, bx1085⟩ := cw_rI hRu1078
      show cw_W _ _ _ _ _ _ _ _ _ _ 56 [(3, .ref (52 + j)), (2, .int x1059), (0, .ref (52 + 39)), (1, .int iv)] [.int x1085, .int x1076]
      refine cw_c (tgt := 65) aj_d94 rfl rfl (fun q1086 => ?_) (fun q1086 => ?_)
      · have q1086 : x1076.toInt = x1085.toInt := aw_t_eq (a := x1076.toInt) (b := x1085.toInt) rfl rfl q1086
        refine cw_n aj_d94 rfl rfl ?_
        obtain ⟨v1087, f1087, g1087⟩ := cw_tyF (i := 39) (t := 52) (c := 0) (k := 1) (y := (.inr (some ([56], false)))) hT1078 (cw_s0 hB rfl) rfl rfl rfl
        obtain rfl := cw_gu (i := 30) hB g1087 (by decide) (by decide) (by decide)
        refine cw_g (i := 39) (v := .ref (52 + 30)) htb.1 aj_d94 rfl rfl (by decide) f1087 ?_
        refine cw_n aj_d94 rfl rfl ?_
        refine cw_n aj_d94 rfl rfl ?_
        refine cw_k0 (i := 30) (t := 56) (con' := ap_c41) aj_d94 htb hT1078 rfl rfl [_, _] rfl rfl (cw_s0 hB rfl) rfl (Nat.le_of_ble_eq_true rfl) ⟨by decide, by decide⟩ (cw_setA1 htb hT1078 hB (by omega) iv x1059) ?_
        rintro ru1088 h1088 hT1088 tu1088 hRu1088
        obtain rfl := cw_rN hRu1088
        obtain ⟨gu1088, Qu1088, vu1088⟩ := cw_CQ_set hx hi hT1078 tu1088 (cw_CQ_eq (ho1078.trans (ho1063.trans (ho1053.trans (ho1046.trans rfl)))) hQ)
        have Q1089 := Qu1088
        obtain ⟨Iq1089, qq1089, f2q1089, a31q1089, a34q1089, f4q1089, f5q1089, Zq1089, nq1089, gq1089, bq1089⟩ := id Q1089
        show cw_W _ _ _ _ _ _ _ _ _ _ 74 [(3, .ref (52 + j)), (2, .int x1059), (0, .ref (52 + 39)), (1, .int iv)] []
        refine cw_Wr aj_d94 rfl rfl hT1088 ?_ ?_
        · exact ⟨rfl, _, _, _, Q1089, by omega⟩
        · trivial
      · have q1086 : x1076.toInt ≠ x1085.toInt := aw_t_eq (a := x1076.toInt) (b := x1085.toInt) rfl rfl q1086
        refine cw_n aj_d94 rfl rfl ?_
        refine cw_n aj_d94 rfl rfl ?_
        refine cw_n aj_d94 rfl rfl ?_
        refine cw_k0 (i := 39) (t := 52) (con' := ap_c64) aj_d94 htb hT1078 rfl rfl [_, _] rfl rfl (cw_s0 hB rfl) rfl (Nat.le_of_ble_eq_true rfl) ⟨by decide, by decide⟩ (cw_a2 (by omega) (ap_1_64 htb (cw_SPkc rfl rfl) cw_hK (cw_H1k htb)) hT1078 (cw_I_eq (ho1078.trans (ho1063.trans (ho1053.trans (ho1046.trans rfl)))) Ih) rfl ⟨(cw_gR (cw_s0 hB rfl) (by decide) (by decide)), (cw_gw (a := (5 : Int)) rfl (by omega) (by omega)), (cw_gw (a := iv.toInt) rfl (by omega) (by omega)), trivial⟩) ?_
        rintro ru1090 h1090 hT1090 ⟨Iu1090, ku1090, mu1090⟩ hRu1090
        obtain rfl := cw_rN hRu1090
        have Q1091 := cw_CQ_f Iu1090 ku1090 mu1090 (cw_CQ_eq (ho1078.trans (ho1063.trans (ho1053.trans (ho1046.trans rfl)))) hQ)
        obtain ⟨Iq1091, qq1091, f2q1091, a31q1091, a34q1091, f4q1091, f5q1091, Zq1091, nq1091, gq1091, bq1091⟩ := id Q1091
        show cw_W _ _ _ _ _ _ _ _ _ _ 65 [(3, .ref (52 + j)), (2, .int x1059), (0, .ref (52 + 39)), (1, .int iv)] []
        refine cw_n aj_d94 rfl rfl ?_
        obtain ⟨v1092, f1092, g1092⟩ := cw_tyF (i := 39) (t := 52) (c := 0) (k := 1) (y := (.inr (some ([56], false)))) hT1090 (cw_s0 hB rfl) rfl rfl rfl
        obtain rfl := cw_gu (i := 30) hB g1092 (by decide) (by decide) (by decide)
        refine cw_g (i := 39) (v := .ref (52 + 30)) htb.1 aj_d94 rfl rfl (by decide) f1092 ?_
        refine cw_n aj_d94 rfl rfl ?_
        refine cw_n aj_d94 rfl rfl ?_
        refine cw_k0 (i := 30) (t := 56) (con' := ap_c41) aj_d94 htb hT1090 rfl rfl [_, _] rfl rfl (cw_s0 hB rfl) rfl (Nat.le_of_ble_eq_true rfl) ⟨by decide, by decide⟩ (cw_setA1 htb hT1090 hB (by omega) iv x1059) ?_
        rintro ru1093 h1093 hT1093 tu1093 hRu1093
        obtain rfl := cw_rN hRu1093
        obtain ⟨gu1093, Qu1093, vu1093⟩ := cw_CQ_set hx hi hT1090 tu1093 Q1091
        have Q1094 := Qu1093
        obtain ⟨Iq1094, qq1094, f2q1094, a31q1094, a34q1094, f4q1094, f5q1094, Zq1094, nq1094, gq1094, bq1094⟩ := id Q1094
        show cw_W _ _ _ _ _ _ _ _ _ _ 74 [(3, .ref (52 + j)), (2, .int x1059), (0, .ref (52 + 39)), (1, .int iv)] []
        refine cw_Wr aj_d94 rfl rfl hT1093 ?_ ?_
        · exact ⟨rfl, _, _, _, Q1094, by omega⟩
        · trivial
theorem cw_ea_l {d : Nat} (hd : 3 ≤ d) (htb : ak_tbOK ak_C1 tb) (hB : cw_B s) (hx : x = 2 ∨ x = 14) (hi : 0 ≤ iv.toInt ∧ iv.toInt ≤ 2499) {yv : Int} (hyv : -2600 ≤ yv ∧ yv ≤ 2600) (eS : ∃ u, s = s0 ++ u) : ∀ (M : Nat) {h : aj_H} {lv : aj_V} {kc ks : Nat} {c2 y nt : Int32} {g : Nat → Int32} (hT : ak_Ty ak_C1 s h) (Q : cw_CQ N bb x n f iv g0 n0 B y nt g s h) (ey : y.toInt = yv) (hl0 : aj_lv lv 0 = some (.ref (52 + 39))) (hl1 : aj_lv lv 1 = some (.int iv)) (hl2 : aj_lv lv 2 = some (.int c2)) (h2 : 0 ≤ c2.toInt) (hN : 6 - c2.toInt ≤ M), cw_W ak_C1 (fun s' r h' => (∃ u, s' = s0 ++ u) ∧ ∃ (y' nt' : Int32) (g' : Nat → Int32), cw_CQ N bb x n f iv g0 n0 B y' nt' g' s' h' ∧ y'.toInt = yv) tb d aj_m96 (cw_nC 96 none) s h kc ks 45 lv [] := by
  intro M
  induction M with
  | zero =>
    intro h lv kc ks c2 y nt g hT Q ey hl0 hl1 hl2 h2 hN
    obtain ⟨Ih, qx, f2, a31, a34, f4, f5, Zh, nh, gh, bh⟩ := id Q
    refine cw_l0 aj_d96 rfl rfl hl2 ?_
    refine cw_l2 aj_d96 rfl rfl hl0 ?_
    refine cw_l2 aj_d96 rfl rfl hl0 ?_
    refine cw_g (i := 39) (v := .int y) htb.1 aj_d96 rfl rfl (by decide) f5 ?_
    refine cw_k0 (i := 39) (t := 52) (con' := ap_c69) aj_d96 htb hT rfl rfl [_] rfl rfl (cw_s0 hB rfl) rfl (Nat.le_of_ble_eq_true rfl) ⟨by decide, by decide⟩ (cw_a1 (by omega) (ap_1_69 htb (cw_SP1c _ _ rfl rfl) cw_hK) hT hB rfl ⟨(cw_gR (cw_s0 hB rfl) (by decide) (by decide)), (cw_gw (a := y.toInt) rfl (by omega) (by omega)), trivial⟩) ?_
    rintro ru1095 h1095 hT1095 ho1095 hRu1095
    have f1096 : cw_F h1095 39 0 2 (.ref (52 + x)) := cw_trF ho1095 (by decide) f2
    have f1097 : cw_F h1095 39 0 5 (.int y) := cw_trF ho1095 (by decide) f5
    have f1098 : cw_F h1095 30 4 4 (.int n) := cw_trF ho1095 (by decide) f4
    have a1099 : cw_A h1095 31 0 2500 (.inl f) := cw_trA ho1095 (by decide) a31
    have a1100 : cw_A h1095 34 0 2500 (.inl g) := cw_trA ho1095 (by decide) a34
    obtain ⟨x1101, rfl, bx1101⟩ := cw_rI hRu1095
    show cw_W _ _ _ _ _ _ _ _ _ _ 54 lv [.int x1101, .int c2]
    refine cw_c (tgt := 80) aj_d96 rfl rfl (fun q1102 => ?_) (fun q1102 => ?_)
    · have q1102 : c2.toInt ≥ x1101.toInt := aw_t_ge (a := c2.toInt) (b := x1101.toInt) rfl rfl q1102
      refine cw_Wr aj_d96 rfl rfl hT1095 ?_ ?_
      · exact ⟨eS, _, _, _, (cw_CQ_eq (ho1095.trans rfl) Q), by omega⟩
      · trivial
    · have q1102 : c2.toInt < x1101.toInt := aw_t_ge (a := c2.toInt) (b := x1101.toInt) rfl rfl q1102
      exfalso
      omega
  | succ M ih =>
    intro h lv kc ks c2 y nt g hT Q ey hl0 hl1 hl2 h2 hN
    obtain ⟨Ih, qx, f2, a31, a34, f4, f5, Zh, nh, gh, bh⟩ := id Q
    refine cw_l0 aj_d96 rfl rfl hl2 ?_
    refine cw_l2 aj_d96 rfl rfl hl0 ?_
    refine cw_l2 aj_d96 rfl rfl hl0 ?_
    refine cw_g (i := 39) (v := .int y) htb.1 aj_d96 rfl rfl (by decide) f5 ?_
    refine cw_k0 (i := 39) (t := 52) (con' := ap_c69) aj_d96 htb hT rfl rfl [_] rfl rfl (cw_s0 hB rfl) rfl (Nat.le_of_ble_eq_true rfl) ⟨by decide, by decide⟩ (cw_a1 (by omega) (ap_1_69 htb (cw_SP1c _ _ rfl rfl) cw_hK) hT hB rfl ⟨(cw_gR (cw_s0 hB rfl) (by decide) (by decide)), (cw_gw (a := y.toInt) rfl (by omega) (by omega)), trivial⟩) ?_
    rintro ru1103 h1103 hT1103 ho1103 hRu1103
    have f1104 : cw_F h1103 39 0 2 (.ref (52 + x)) := cw_trF ho1103 (by decide) f2
    have f1105 : cw_F h1103 39 0 5 (.int y) := cw_trF ho1103 (by decide) f5
    have f1106 : cw_F h1103 30 4 4 (.int n) := cw_trF ho1103 (by decide) f4
    have a1107 : cw_A h1103 31 0 2500 (.inl f) := cw_trA ho1103 (by decide) a31
    have a1108 : cw_A h1103 34 0 2500 (.inl g) := cw_trA ho1103 (by decide) a34
    obtain ⟨x1109, rfl, bx1109⟩ := cw_rI hRu1103
    show cw_W _ _ _ _ _ _ _ _ _ _ 54 lv [.int x1109, .int c2]
    refine cw_c (tgt := 80) aj_d96 rfl rfl (fun q1110 => ?_) (fun q1110 => ?_)
    · have q1110 : c2.toInt ≥ x1109.toInt := aw_t_ge (a := c2.toInt) (b := x1109.toInt) rfl rfl q1110
      refine cw_Wr aj_d96 rfl rfl hT1103 ?_ ?_
      · exact ⟨eS, _, _, _, (cw_CQ_eq (ho1103.trans rfl) Q), by omega⟩
      · trivial
    · have q1110 : c2.toInt < x1109.toInt := aw_t_ge (a := c2.toInt) (b := x1109.toInt) rfl rfl q1110
      refine cw_l2 aj_d96 rfl rfl hl0 ?_
      refine cw_g (i := 39) (v := .ref (52 + x)) htb.1 aj_d96 rfl rfl (by decide) f1104 ?_
      refine cw_l2 aj_d96 rfl rfl hl0 ?_
      refine cw_l2 aj_d96 rfl rfl hl0 ?_
      refine cw_g (i := 39) (v := .int y) htb.1 aj_d96 rfl rfl (by decide) f1105 ?_
      refine cw_l0 aj_d96 rfl rfl hl2 ?_
      refine cw_k0 (i := 39) (t := 52) (con' := ap_c70) aj_d96 htb hT1103 rfl rfl [_, _] rfl rfl (cw_s0 hB rfl) rfl (Nat.le_of_ble_eq_true rfl) ⟨by decide, by decide⟩ (cw_a1 (by omega) (ap_1_70 htb (cw_SP1c _ _ rfl rfl) cw_hK) hT1103 hB rfl ⟨(cw_gR (cw_s0 hB rfl) (by decide) (by decide)), (cw_gw (a := y.toInt) rfl (by omega) (by omega)), (cw_gw (a := c2.toInt) rfl (by omega) (by omega)), trivial⟩) ?_
      rintro ru1111 h1111 hT1111 ho1111 hRu1111
      have f1112 : cw_F h1111 39 0 2 (.ref (52 + x)) := cw_trF ho1111 (by decide) f1104
      have f1113 : cw_F h1111 39 0 5 (.int y) := cw_trF ho1111 (by decide) f1105
      have f1114 : cw_F h1111 30 4 4 (.int n) := cw_trF ho1111 (by decide) f1106
      have a1115 : cw_A h1111 31 0 2500 (.inl f) := cw_trA ho1111 (by decide) a1107
      have a1116 : cw_A h1111 34 0 2500 (.inl g) := cw_trA ho1111 (by decide) a1108
      obtain ⟨y1117, rfl⟩ := cw_rL hRu1111
      show cw_W _ _ _ _ _ _ _ _ _ _ 70 lv [.long y1117, .ref (52 + x)]
      refine cw_k0 (i := x) (t := 59) (con' := cw_nC 93 (some (.inl (0, 1)))) aj_d96 htb hT1111 rfl rfl [_] rfl rfl qx rfl (Nat.le_of_ble_eq_true rfl) ⟨by decide, by decide⟩ (cw_addC (w9 := y1117) htb hT1111 (by omega) hx hi (by omega) (cw_CQ_eq (ho1111.trans (ho1103.trans rfl)) Q)) ?_
      rintro ru1118 h1118 hT1118 ⟨yu1118, nu1118, gu1118, Qu1118, eu1118⟩ hRu1118
      obtain ⟨xu1118, rfl, bxu1118⟩ := cw_rI hRu1118
      have Q1119 := Qu1118
      obtain ⟨Iq1119, qq1119, f2q1119, a31q1119, a34q1119, f4q1119, f5q1119, Zq1119, nq1119, gq1119, bq1119⟩ := id Q1119
      show cw_W _ _ _ _ _ _ _ _ _ _ 73 lv [.int xu1118]
      refine cw_n aj_d96 rfl rfl ?_
      refine cw_inc aj_d96 rfl hl2 (a := c2.toInt) rfl (by omega) (by omega) (by decide) (by decide) (fun x1120 ex1120 => ?_)
      obtain ⟨lv1121, elv1121⟩ : ∃ l, l = aj_set1 lv 2 (.int x1120) := ⟨_, rfl⟩
      rw [← elv1121]
      have hlv1121_0 : aj_lv lv1121 0 = some (.ref (52 + 39)) := cw_e1 elv1121 hl0 (by decide) (Or.inl (by decide))
      have hlv1121_1 : aj_lv lv1121 1 = some (.int iv) := cw_e1 elv1121 hl1 (by decide) (Or.inr rfl)
      have hlv1121_2 : aj_lv lv1121 2 = some (.int x1120) := by rw [elv1121]; exact ak_set1_eq _ _ _
      show cw_W _ _ _ _ _ _ _ _ _ _ 77 lv1121 []
      refine cw_n aj_d96 rfl rfl ?_
      exact ih hT1118 Q1119 (by omega) hlv1121_0 hlv1121_1 hlv1121_2 (by omega) (by omega)
theorem cw_eAns (htb : ak_tbOK ak_C1 tb) (hT : ak_Ty ak_C1 s h) (hd : 4 ≤ d)  (hx : x = 2 ∨ x = 14) (hi : 0 ≤ iv.toInt ∧ iv.toInt ≤ 2499) (hy : -2595 ≤ y.toInt ∧ y.toInt ≤ 2595) (hQ : cw_CQ N bb x n f iv g0 n0 B y nt g s h) : cw_K ak_C1 (fun s' r h' => (∃ u, s' = s ++ u) ∧ ∃ (y' nt' : Int32) (g' : Nat → Int32), cw_CQ N bb x n f iv g0 n0 B y' nt' g' s' h' ∧ y'.toInt = y.toInt - 1) tb d (cw_nC 96 none) [.ref (52 + 39), .int iv] s h := by
  obtain ⟨d, rfl⟩ : ∃ e, d = e + 1 := ⟨d - 1, by omega⟩
  obtain ⟨Ih, qx, f2, a31, a34, f4, f5, Zh, nh, gh, bh⟩ := id hQ
  have hB := Ih.1
  refine cw_m (con := cw_nC 96 none) aj_m96_at (Nat.le_of_ble_eq_true rfl) ?_
  show cw_W _ _ _ _ _ _ _ _ _ _ 0 [(0, .ref (52 + 39)), (1, .int iv)] []
  refine cw_n aj_d96 rfl rfl ?_
  obtain ⟨v1122, f1122, g1122⟩ := cw_tyF (i := 39) (t := 52) (c := 0) (k := 1) (y := (.inr (some ([56], false)))) hT (cw_s0 hB rfl) rfl rfl rfl
  obtain rfl := cw_gu (i := 30) hB g1122 (by decide) (by decide) (by decide)
  refine cw_g (i := 39) (v := .ref (52 + 30)) htb.1 aj_d96 rfl rfl (by decide) f1122 ?_
  refine cw_n aj_d96 rfl rfl ?_
  refine cw_n aj_d96 rfl rfl ?_
  refine cw_g (i := 39) (v := .ref (52 + x)) htb.1 aj_d96 rfl rfl (by decide) f2 ?_
  refine cw_n aj_d96 rfl rfl ?_
  obtain ⟨v1123, f1123, g1123⟩ := cw_tyF (i := 39) (t := 52) (c := 0) (k := 0) (y := (.inr (some ([60], false)))) hT (cw_s0 hB rfl) rfl rfl rfl
  obtain rfl := cw_gu (i := 26) hB g1123 (by decide) (by decide) (by decide)
  refine cw_g (i := 39) (v := .ref (52 + 26)) htb.1 aj_d96 rfl rfl (by decide) f1123 ?_
  refine cw_n aj_d96 rfl rfl ?_
  refine cw_g (i := 39) (v := .ref (52 + 30)) htb.1 aj_d96 rfl rfl (by decide) f1122 ?_
  refine cw_n aj_d96 rfl rfl ?_
  refine cw_k0 (i := 30) (t := 56) (con' := ap_c72) aj_d96 htb hT rfl rfl [_] rfl rfl (cw_s0 hB rfl) rfl (Nat.le_of_ble_eq_true rfl) ⟨by decide, by decide⟩ (cw_a1 (by omega) (ap_1_72 htb (cw_SP1c _ _ rfl rfl) cw_hK) hT hB rfl ⟨(cw_gR (cw_s0 hB rfl) (by decide) (by decide)), (cw_gw (a := iv.toInt) rfl (by omega) (by omega)), trivial⟩) ?_
  rintro ru1124 h1124 hT1124 ho1124 hRu1124
  have f1125 : cw_F h1124 39 0 2 (.ref (52 + x)) := cw_trF ho1124 (by decide) f2
  have f1126 : cw_F h1124 39 0 5 (.int y) := cw_trF ho1124 (by decide) f5
  have f1127 : cw_F h1124 30 4 4 (.int n) := cw_trF ho1124 (by decide) f4
  have a1128 : cw_A h1124 31 0 2500 (.inl f) := cw_trA ho1124 (by decide) a31
  have a1129 : cw_A h1124 34 0 2500 (.inl g) := cw_trA ho1124 (by decide) a34
  obtain ⟨x1130, rfl, bx1130⟩ := cw_rI hRu1124
  show cw_W _ _ _ _ _ _ _ _ _ _ 21 [(0, .ref (52 + 39)), (1, .int iv)] [.int x1130, .ref (52 + 26), .ref (52 + x), .int iv, .ref (52 + 30)]
  refine cw_n aj_d96 rfl rfl ?_
  refine cw_any aj_d96 rfl rfl (fun x1131 ex1131 => ?_)
  refine cw_k0 (i := 26) (t := 60) (con' := ap_c37) aj_d96 htb hT1124 rfl rfl [_] rfl rfl (cw_s0 hB rfl) rfl (Nat.le_of_ble_eq_true rfl) ⟨by decide, by decide⟩ (cw_a1 (by omega) (ap_1_37 htb (cw_SP1c _ _ rfl rfl) cw_hK) hT1124 hB rfl ⟨(cw_gR (cw_s0 hB rfl) (by decide) (by decide)), (cw_full _), trivial⟩) ?_
  rintro ru1132 h1132 hT1132 ho1132 hRu1132
  have f1133 : cw_F h1132 39 0 2 (.ref (52 + x)) := cw_trF ho1132 (by decide) f1125
  have f1134 : cw_F h1132 39 0 5 (.int y) := cw_trF ho1132 (by decide) f1126
  have f1135 : cw_F h1132 30 4 4 (.int n) := cw_trF ho1132 (by decide) f1127
  have a1136 : cw_A h1132 31 0 2500 (.inl f) := cw_trA ho1132 (by decide) a1128
  have a1137 : cw_A h1132 34 0 2500 (.inl g) := cw_trA ho1132 (by decide) a1129
  obtain ⟨y1138, rfl⟩ := cw_rL hRu1132
  show cw_W _ _ _ _ _ _ _ _ _ _ 26 [(0, .ref (52 + 39)), (1, .int iv)] [.long y1138, .ref (52 + x), .int iv, .ref (52 + 30)]
  refine cw_n aj_d96 rfl rfl ?_
  refine cw_k (i := x) (con' := cw_nC 92 (some (.inl ((-1), 9)))) aj_d96 htb hT1132 rfl rfl [_, _] rfl rfl (cw_cls hT1132 qx rfl) (Nat.le_of_ble_eq_true rfl) ⟨by decide, by decide⟩ (cw_addTab htb hT1132 (by omega) hx ⟨by decide, by decide⟩ (cw_CQ_eq (ho1132.trans (ho1124.trans rfl)) hQ)) ?_
  rintro u1139 ru1139 h1139 hT1139 ⟨euu1139, nu1139, Qu1139⟩ hRu1139 -
  obtain ⟨xu1139, rfl, bxu1139⟩ := cw_rI hRu1139
  obtain ⟨Su1139, eSu1139⟩ : ∃ z, z = s ++ u1139 := ⟨_, rfl⟩
  rw [← eSu1139] at Qu1139 hT1139 ⊢
  have hBu1139 := Qu1139.1.1
  have Q1140 := Qu1139
  obtain ⟨Iq1140, qq1140, f2q1140, a31q1140, a34q1140, f4q1140, f5q1140, Zq1140, nq1140, gq1140, bq1140⟩ := id Q1140
  show cw_W _ _ _ _ _ _ _ _ _ _ 30 [(0, .ref (52 + 39)), (1, .int iv)] [.int xu1139, .int iv, .ref (52 + 30)]
  refine cw_k0 (i := 30) (t := 56) (con' := ap_c41) aj_d96 htb hT1139 rfl rfl [_, _] rfl rfl (cw_s0 hBu1139 rfl) rfl (Nat.le_of_ble_eq_true rfl) ⟨by decide, by decide⟩ (cw_setA1 htb hT1139 hBu1139 (by omega) iv xu1139) ?_
  rintro ru1141 h1141 hT1141 tu1141 hRu1141
  obtain rfl := cw_rN hRu1141
  obtain ⟨gu1141, Qu1141, vu1141⟩ := cw_CQ_set hx hi hT1139 tu1141 Q1140
  have Q1142 := Qu1141
  obtain ⟨Iq1142, qq1142, f2q1142, a31q1142, a34q1142, f4q1142, f5q1142, Zq1142, nq1142, gq1142, bq1142⟩ := id Q1142
  show cw_W _ _ _ _ _ _ _ _ _ _ 33 [(0, .ref (52 + 39)), (1, .int iv)] []
  refine cw_n aj_d96 rfl rfl ?_
  refine cw_n aj_d96 rfl rfl ?_
  refine cw_g (i := 39) (v := .int y) htb.1 aj_d96 rfl rfl (by decide) f5q1142 ?_
  refine cw_n aj_d96 rfl rfl ?_
  refine cw_sub aj_d96 rfl (a := y.toInt) (b := (1 : Int)) rfl rfl (by omega) (by omega) (fun x1143 ex1143 => ?_)
  refine cw_p (i := 39) (t := 52) (c := 0) (k := 5) (v := .int x1143) (y := (.inl ((-3000), 3000))) htb aj_d96 rfl rfl hT1141 (cw_s0 hBu1139 rfl) rfl rfl rfl (cw_gw (a := x1143.toInt) rfl (by omega) (by omega)) (by decide) rfl rfl (fun hT1144 => ?_)
  have f1145 : cw_F (cw_sf h1141 39 5 (.int x1143)) 39 0 2 (.ref (52 + x)) := cw_sf_ne f2q1142 (Or.inr (by decide))
  have f1146 : cw_F (cw_sf h1141 39 5 (.int x1143)) 30 4 4 (.int n) := cw_sf_ne f4q1142 (Or.inr (by decide))
  have a1147 : cw_A (cw_sf h1141 39 5 (.int x1143)) 31 0 2500 (.inl f) := cw_sf_A a31q1142
  have a1148 : cw_A (cw_sf h1141 39 5 (.int x1143)) 34 0 2500 (.inl gu1141) := cw_sf_A a34q1142
  have f1149 : cw_F (cw_sf h1141 39 5 (.int x1143)) 39 0 5 (.int x1143) := cw_sf_same f5q1142
  have Q1150 := cw_CQ_dep hT1141 Q1142 x1143
  obtain ⟨Iq1150, qq1150, f2q1150, a31q1150, a34q1150, f4q1150, f5q1150, Zq1150, nq1150, gq1150, bq1150⟩ := id Q1150
  show cw_W _ _ _ _ _ _ _ _ _ _ 43 [(0, .ref (52 + 39)), (1, .int iv)] []
  refine cw_n aj_d96 rfl rfl ?_
  refine cw_n aj_d96 rfl rfl ?_
  show cw_W _ _ _ _ _ _ _ _ _ _ 45 [(2, .int (Int32.ofInt 0)), (0, .ref (52 + 39)), (1, .int iv)] []
  exact cw_ea_l (s0 := s) (by omega) htb hBu1139 hx hi (yv := y.toInt - 1) (by omega) ⟨u1139, eSu1139⟩ 6 hT1144 Q1150 (by omega) rfl rfl rfl (by decide) (by decide)
theorem cw_cT180 (htb : ak_tbOK ak_C1 tb) (hT : ak_Ty ak_C1 s h) (hd : 5 ≤ d)  (hx : x = 2 ∨ x = 14) (hi : 0 ≤ iv.toInt ∧ iv.toInt ≤ 2499) (hy : -2590 ≤ y.toInt ∧ y.toInt ≤ 2590) (hQ : cw_CQ N bb x n f iv g0 n0 B y nt g s h) : cw_K ak_C1 (fun s' r h' => (∃ u, s' = s ++ u) ∧ ∃ (y' nt' : Int32) (g' : Nat → Int32), cw_CQ N bb x n f iv g0 n0 B y' nt' g' s' h' ∧ (y.toInt - 1 ≤ y'.toInt ∧ y'.toInt ≤ y.toInt + 1)) tb d (cw_nC 85 none) [.ref (52 + 39), .int 180, .int iv] s h := by
  obtain ⟨d, rfl⟩ : ∃ e, d = e + 1 := ⟨d - 1, by omega⟩
  obtain ⟨Ih, qx, f2, a31, a34, f4, f5, Zh, nh, gh, bh⟩ := id hQ
  have hB := Ih.1
  refine cw_m (con := cw_nC 85 none) aj_m85_at (Nat.le_of_ble_eq_true rfl) ?_
  show cw_W _ _ _ _ _ _ _ _ _ _ 0 [(0, .ref (52 + 39)), (1, .int 180), (2, .int iv)] []
  refine cw_n aj_d85 rfl rfl ?_
  refine cw_tsw (tgt := 68) (a := (180 : Int)) aj_d85 rfl rfl ⟨by decide, by decide⟩ rfl rfl ?_
  refine cw_n aj_d85 rfl rfl ?_
  refine cw_g (i := 39) (v := .ref (52 + x)) htb.1 aj_d85 rfl rfl (by decide) f2 ?_
  refine cw_n aj_d85 rfl rfl ?_
  refine cw_n aj_d85 rfl rfl ?_
  refine cw_k0 (i := 39) (t := 52) (con' := ap_c60) aj_d85 htb hT rfl rfl [_] rfl rfl (cw_s0 hB rfl) rfl (Nat.le_of_ble_eq_true rfl) ⟨by decide, by decide⟩ (cw_a1 (by omega) (ap_1_60 htb (cw_SP1c _ _ rfl rfl) cw_hK) hT hB rfl ⟨(cw_gR (cw_s0 hB rfl) (by decide) (by decide)), (cw_gw (a := iv.toInt) rfl (by omega) (by omega)), trivial⟩) ?_
  rintro ru1151 h1151 hT1151 ho1151 hRu1151
  have f1152 : cw_F h1151 39 0 2 (.ref (52 + x)) := cw_trF ho1151 (by decide) f2
  have f1153 : cw_F h1151 39 0 5 (.int y) := cw_trF ho1151 (by decide) f5
  have f1154 : cw_F h1151 30 4 4 (.int n) := cw_trF ho1151 (by decide) f4
  have a1155 : cw_A h1151 31 0 2500 (.inl f) := cw_trA ho1151 (by decide) a31
  have a1156 : cw_A h1151 34 0 2500 (.inl g) := cw_trA ho1151 (by decide) a34
  obtain ⟨y1157, rfl⟩ := cw_rL hRu1151
  show cw_W _ _ _ _ _ _ _ _ _ _ 77 [(0, .ref (52 + 39)), (1, .int 180), (2, .int iv)] [.long y1157, .ref (52 + x)]
  refine cw_k0 (i := x) (t := 59) (con' := ap_c84) aj_d85 htb hT1151 rfl rfl [_] rfl rfl qx rfl (Nat.le_of_ble_eq_true rfl) ⟨by decide, by decide⟩ (cw_a1 (by omega) (ap_1_84 htb (cw_SP1c _ _ rfl rfl) cw_hK) hT1151 hB rfl ⟨(cw_gR qx (by decide) (by decide)), trivial, trivial⟩) ?_
  rintro ru1158 h1158 hT1158 ho1158 hRu1158
  have f1159 : cw_F h1158 39 0 2 (.ref (52 + x)) := cw_trF ho1158 (by decide) f1152
  have f1160 : cw_F h1158 39 0 5 (.int y) := cw_trF ho1158 (by decide) f1153
  have f1161 : cw_F h1158 30 4 4 (.int n) := cw_trF ho1158 (by decide) f1154
  have a1162 : cw_A h1158 31 0 2500 (.inl f) := cw_trA ho1158 (by decide) a1155
  have a1163 : cw_A h1158 34 0 2500 (.inl g) := cw_trA ho1158 (by decide) a1156
  obtain ⟨x1164, rfl, bx1164⟩ := cw_rI hRu1158
  show cw_W _ _ _ _ _ _ _ _ _ _ 80 [(0, .ref (52 + 39)), (1, .int 180), (2, .int iv)] [.int x1164]
  refine cw_z (tgt := 92) aj_d85 rfl rfl (fun q1165 => ?_) (fun q1165 => ?_)
  · have q1165 : x1164.toInt < (0 : Int) := aw_t_lt (a := x1164.toInt) (b := (0 : Int)) rfl rfl q1165
    refine cw_n aj_d85 rfl rfl ?_
    refine cw_g (i := 39) (v := .ref (52 + x)) htb.1 aj_d85 rfl rfl (by decide) f1159 ?_
    refine cw_n aj_d85 rfl rfl ?_
    refine cw_n aj_d85 rfl rfl ?_
    refine cw_k0 (i := 39) (t := 52) (con' := ap_c60) aj_d85 htb hT1158 rfl rfl [_] rfl rfl (cw_s0 hB rfl) rfl (Nat.le_of_ble_eq_true rfl) ⟨by decide, by decide⟩ (cw_a1 (by omega) (ap_1_60 htb (cw_SP1c _ _ rfl rfl) cw_hK) hT1158 hB rfl ⟨(cw_gR (cw_s0 hB rfl) (by decide) (by decide)), (cw_gw (a := iv.toInt) rfl (by omega) (by omega)), trivial⟩) ?_
    rintro ru1166 h1166 hT1166 ho1166 hRu1166
    have f1167 : cw_F h1166 39 0 2 (.ref (52 + x)) := cw_trF ho1166 (by decide) f1159
    have f1168 : cw_F h1166 39 0 5 (.int y) := cw_trF ho1166 (by decide) f1160
    have f1169 : cw_F h1166 30 4 4 (.int n) := cw_trF ho1166 (by decide) f1161
    have a1170 : cw_A h1166 31 0 2500 (.inl f) := cw_trA ho1166 (by decide) a1162
    have a1171 : cw_A h1166 34 0 2500 (.inl g) := cw_trA ho1166 (by decide) a1163
    obtain ⟨y1172, rfl⟩ := cw_rL hRu1166
    show cw_W _ _ _ _ _ _ _ _ _ _ 101 [(0, .ref (52 + 39)), (1, .int 180), (2, .int iv)] [.long y1172, .ref (52 + x)]
    refine cw_k0 (i := x) (t := 59) (con' := ap_c86) aj_d85 htb hT1166 rfl rfl [_] rfl rfl qx rfl (Nat.le_of_ble_eq_true rfl) ⟨by decide, by decide⟩ (cw_a1 (by omega) (ap_1_86 htb (cw_SP1c _ _ rfl rfl) cw_hK) hT1166 hB rfl ⟨(cw_gR qx (by decide) (by decide)), trivial, trivial⟩) ?_
    rintro ru1173 h1173 hT1173 ho1173 hRu1173
    have f1174 : cw_F h1173 39 0 2 (.ref (52 + x)) := cw_trF ho1173 (by decide) f1167
    have f1175 : cw_F h1173 39 0 5 (.int y) := cw_trF ho1173 (by decide) f1168
    have f1176 : cw_F h1173 30 4 4 (.int n) := cw_trF ho1173 (by decide) f1169
    have a1177 : cw_A h1173 31 0 2500 (.inl f) := cw_trA ho1173 (by decide) a1170
    have a1178 : cw_A h1173 34 0 2500 (.inl g) := cw_trA ho1173 (by decide) a1171
    obtain rfl := cw_rN hRu1173
    show cw_W _ _ _ _ _ _ _ _ _ _ 104 [(0, .ref (52 + 39)), (1, .int 180), (2, .int iv)] []
    refine cw_n aj_d85 rfl rfl ?_
    refine cw_Wr aj_d85 rfl rfl hT1173 ?_ ?_
    · exact ⟨⟨[], (List.append_nil _).symm⟩, _, _, _, (cw_CQ_eq (ho1173.trans (ho1166.trans (ho1158.trans (ho1151.trans rfl)))) hQ), by omega, by omega⟩
    · trivial
  · have q1165 : x1164.toInt ≥ (0 : Int) := aw_t_lt (a := x1164.toInt) (b := (0 : Int)) rfl rfl q1165
    refine cw_n aj_d85 rfl rfl ?_
    refine cw_n aj_d85 rfl rfl ?_
    refine cw_n aj_d85 rfl rfl ?_
    refine cw_k0 (i := 39) (t := 52) (con' := ap_c64) aj_d85 htb hT1158 rfl rfl [_, _] rfl rfl (cw_s0 hB rfl) rfl (Nat.le_of_ble_eq_true rfl) ⟨by decide, by decide⟩ (cw_a2 (by omega) (ap_1_64 htb (cw_SPkc rfl rfl) cw_hK (cw_H1k htb)) hT1158 (cw_I_eq (ho1158.trans (ho1151.trans rfl)) Ih) rfl ⟨(cw_gR (cw_s0 hB rfl) (by decide) (by decide)), (cw_gw (a := (3 : Int)) rfl (by omega) (by omega)), (cw_gw (a := iv.toInt) rfl (by omega) (by omega)), trivial⟩) ?_
    rintro ru1179 h1179 hT1179 ⟨Iu1179, ku1179, mu1179⟩ hRu1179
    obtain rfl := cw_rN hRu1179
    have Q1180 := cw_CQ_f Iu1179 ku1179 mu1179 (cw_CQ_eq (ho1158.trans (ho1151.trans rfl)) hQ)
    obtain ⟨Iq1180, qq1180, f2q1180, a31q1180, a34q1180, f4q1180, f5q1180, Zq1180, nq1180, gq1180, bq1180⟩ := id Q1180
    show cw_W _ _ _ _ _ _ _ _ _ _ 89 [(0, .ref (52 + 39)), (1, .int 180), (2, .int iv)] []
    refine cw_n aj_d85 rfl rfl ?_
    refine cw_Wr aj_d85 rfl rfl hT1179 ?_ ?_
    · exact ⟨⟨[], (List.append_nil _).symm⟩, _, _, _, Q1180, by omega, by omega⟩
    · trivial
theorem cw_cT181 (htb : ak_tbOK ak_C1 tb) (hT : ak_Ty ak_C1 s h) (hd : 5 ≤ d)  (hx : x = 2 ∨ x = 14) (hi : 0 ≤ iv.toInt ∧ iv.toInt ≤ 2499) (hy : -2590 ≤ y.toInt ∧ y.toInt ≤ 2590) (hQ : cw_CQ N bb x n f iv g0 n0 B y nt g s h) : cw_K ak_C1 (fun s' r h' => (∃ u, s' = s ++ u) ∧ ∃ (y' nt' : Int32) (g' : Nat → Int32), cw_CQ N bb x n f iv g0 n0 B y' nt' g' s' h' ∧ (y.toInt - 1 ≤ y'.toInt ∧ y'.toInt ≤ y.toInt + 1)) tb d (cw_nC 85 none) [.ref (52 + 39), .int 181, .int iv] s h := by
  obtain ⟨d, rfl⟩ : ∃ e, d = e + 1 := ⟨d - 1, by omega⟩
  obtain ⟨Ih, qx, f2, a31, a34, f4, f5, Zh, nh, gh, bh⟩ := id hQ
  have hB := Ih.1
  refine cw_m (con := cw_nC 85 none) aj_m85_at (Nat.le_of_ble_eq_true rfl) ?_
  show cw_W _ _ _ _ _ _ _ _ _ _ 0 [(0, .ref (52 + 39)), (1, .int 181), (2, .int iv)] []
  refine cw_n aj_d85 rfl rfl ?_
  refine cw_tsw (tgt := 107) (a := (181 : Int)) aj_d85 rfl rfl ⟨by decide, by decide⟩ rfl rfl ?_
  refine cw_n aj_d85 rfl rfl ?_
  refine cw_g (i := 39) (v := .ref (52 + x)) htb.1 aj_d85 rfl rfl (by decide) f2 ?_
  refine cw_n aj_d85 rfl rfl ?_
  refine cw_n aj_d85 rfl rfl ?_
  refine cw_k0 (i := 39) (t := 52) (con' := ap_c82) aj_d85 htb hT rfl rfl [_] rfl rfl (cw_s0 hB rfl) rfl (Nat.le_of_ble_eq_true rfl) ⟨by decide, by decide⟩ (cw_a2 (by omega) (ap_1_82 htb (cw_SPkc rfl rfl) cw_hK (cw_H1k htb)) hT Ih rfl ⟨(cw_gR (cw_s0 hB rfl) (by decide) (by decide)), (cw_gw (a := iv.toInt) rfl (by omega) (by omega)), trivial⟩) ?_
  rintro ru1181 h1181 hT1181 ⟨Iu1181, ku1181, mu1181⟩ hRu1181
  obtain ⟨x1182, rfl, bx1182⟩ := cw_rI hRu1181
  have Q1183 := cw_CQ_f Iu1181 ku1181 mu1181 hQ
  obtain ⟨Iq1183, qq1183, f2q1183, a31q1183, a34q1183, f4q1183, f5q1183, Zq1183, nq1183, gq1183, bq1183⟩ := id Q1183
  show cw_W _ _ _ _ _ _ _ _ _ _ 116 [(0, .ref (52 + 39)), (1, .int 181), (2, .int iv)] [.int x1182, .ref (52 + x)]
  refine cw_k0 (i := x) (t := 59) (con' := ap_c87) aj_d85 htb hT1181 rfl rfl [_] rfl rfl qx rfl (Nat.le_of_ble_eq_true rfl) ⟨by decide, by decide⟩ (cw_a1 (by omega) (ap_1_87 htb (cw_SP1c _ _ rfl rfl) cw_hK) hT1181 hB rfl ⟨(cw_gR qx (by decide) (by decide)), (cw_gw (a := x1182.toInt) rfl (by omega) (by omega)), trivial⟩) ?_
  rintro ru1184 h1184 hT1184 ho1184 hRu1184
  have f1185 : cw_F h1184 39 0 2 (.ref (52 + x)) := cw_trF ho1184 (by decide) f2q1183
  have f1186 : cw_F h1184 39 0 5 (.int y) := cw_trF ho1184 (by decide) f5q1183
  have f1187 : cw_F h1184 30 4 4 (.int n) := cw_trF ho1184 (by decide) f4q1183
  have a1188 : cw_A h1184 31 0 2500 (.inl f) := cw_trA ho1184 (by decide) a31q1183
  have a1189 : cw_A h1184 34 0 2500 (.inl g) := cw_trA ho1184 (by decide) a34q1183
  obtain ⟨x1190, rfl, bx1190⟩ := cw_rI hRu1184
  show cw_W _ _ _ _ _ _ _ _ _ _ 119 [(0, .ref (52 + 39)), (1, .int 181), (2, .int iv)] [.int x1190]
  refine cw_z (tgt := 232) aj_d85 rfl rfl (fun q1191 => ?_) (fun q1191 => ?_)
  · have q1191 : x1190.toInt ≠ (0 : Int) := aw_t_ne (a := x1190.toInt) (b := (0 : Int)) rfl rfl q1191
    refine cw_Wr aj_d85 rfl rfl hT1184 ?_ ?_
    · exact ⟨⟨[], (List.append_nil _).symm⟩, _, _, _, (cw_CQ_eq (ho1184.trans rfl) Q1183), by omega, by omega⟩
    · trivial
  · have q1191 : x1190.toInt = (0 : Int) := aw_t_ne (a := x1190.toInt) (b := (0 : Int)) rfl rfl q1191
    refine cw_n aj_d85 rfl rfl ?_
    refine cw_n aj_d85 rfl rfl ?_
    refine cw_n aj_d85 rfl rfl ?_
    refine cw_k0 (i := 39) (t := 52) (con' := ap_c64) aj_d85 htb hT1184 rfl rfl [_, _] rfl rfl (cw_s0 hB rfl) rfl (Nat.le_of_ble_eq_true rfl) ⟨by decide, by decide⟩ (cw_a2 (by omega) (ap_1_64 htb (cw_SPkc rfl rfl) cw_hK (cw_H1k htb)) hT1184 (cw_I_eq (ho1184.trans rfl) Iq1183) rfl ⟨(cw_gR (cw_s0 hB rfl) (by decide) (by decide)), (cw_gw (a := (5 : Int)) rfl (by omega) (by omega)), (cw_gw (a := iv.toInt) rfl (by omega) (by omega)), trivial⟩) ?_
    rintro ru1192 h1192 hT1192 ⟨Iu1192, ku1192, mu1192⟩ hRu1192
    obtain rfl := cw_rN hRu1192
    have Q1193 := cw_CQ_f Iu1192 ku1192 mu1192 (cw_CQ_eq (ho1184.trans rfl) Q1183)
    obtain ⟨Iq1193, qq1193, f2q1193, a31q1193, a34q1193, f4q1193, f5q1193, Zq1193, nq1193, gq1193, bq1193⟩ := id Q1193
    show cw_W _ _ _ _ _ _ _ _ _ _ 128 [(0, .ref (52 + 39)), (1, .int 181), (2, .int iv)] []
    refine cw_n aj_d85 rfl rfl ?_
    refine cw_Wr aj_d85 rfl rfl hT1192 ?_ ?_
    · exact ⟨⟨[], (List.append_nil _).symm⟩, _, _, _, Q1193, by omega, by omega⟩
    · trivial
theorem cw_cT182 (htb : ak_tbOK ak_C1 tb) (hT : ak_Ty ak_C1 s h) (hd : 5 ≤ d)  (hx : x = 2 ∨ x = 14) (hi : 0 ≤ iv.toInt ∧ iv.toInt ≤ 2499) (hy : -2590 ≤ y.toInt ∧ y.toInt ≤ 2590) (hQ : cw_CQ N bb x n f iv g0 n0 B y nt g s h) : cw_K ak_C1 (fun s' r h' => (∃ u, s' = s ++ u) ∧ ∃ (y' nt' : Int32) (g' : Nat → Int32), cw_CQ N bb x n f iv g0 n0 B y' nt' g' s' h' ∧ (y.toInt - 1 ≤ y'.toInt ∧ y'.toInt ≤ y.toInt + 1)) tb d (cw_nC 85 none) [.ref (52 + 39), .int 182, .int iv] s h := by
  obtain ⟨d, rfl⟩ : ∃ e, d = e + 1 := ⟨d - 1, by omega⟩
  obtain ⟨Ih, qx, f2, a31, a34, f4, f5, Zh, nh, gh, bh⟩ := id hQ
  have hB := Ih.1
  refine cw_m (con := cw_nC 85 none) aj_m85_at (Nat.le_of_ble_eq_true rfl) ?_
  show cw_W _ _ _ _ _ _ _ _ _ _ 0 [(0, .ref (52 + 39)), (1, .int 182), (2, .int iv)] []
  refine cw_n aj_d85 rfl rfl ?_
  refine cw_tsw (tgt := 131) (a := (182 : Int)) aj_d85 rfl rfl ⟨by decide, by decide⟩ rfl rfl ?_
  refine cw_n aj_d85 rfl rfl ?_
  refine cw_n aj_d85 rfl rfl ?_
  refine cw_k0 (i := 39) (t := 52) (con' := ap_c88) aj_d85 htb hT rfl rfl [_] rfl rfl (cw_s0 hB rfl) rfl (Nat.le_of_ble_eq_true rfl) ⟨by decide, by decide⟩ (cw_a2 (by omega) (ap_1_88 htb (cw_SPkc rfl rfl) cw_hK (cw_H1k htb)) hT Ih rfl ⟨(cw_gR (cw_s0 hB rfl) (by decide) (by decide)), (cw_gw (a := iv.toInt) rfl (by omega) (by omega)), trivial⟩) ?_
  rintro ru1194 h1194 hT1194 ⟨Iu1194, ku1194, mu1194⟩ hRu1194
  obtain rfl := cw_rN hRu1194
  have Q1195 := cw_CQ_f Iu1194 ku1194 mu1194 hQ
  obtain ⟨Iq1195, qq1195, f2q1195, a31q1195, a34q1195, f4q1195, f5q1195, Zq1195, nq1195, gq1195, bq1195⟩ := id Q1195
  show cw_W _ _ _ _ _ _ _ _ _ _ 136 [(0, .ref (52 + 39)), (1, .int 182), (2, .int iv)] []
  refine cw_n aj_d85 rfl rfl ?_
  refine cw_Wr aj_d85 rfl rfl hT1194 ?_ ?_
  · exact ⟨⟨[], (List.append_nil _).symm⟩, _, _, _, Q1195, by omega, by omega⟩
  · trivial
theorem cw_cT183 (htb : ak_tbOK ak_C1 tb) (hT : ak_Ty ak_C1 s h) (hd : 5 ≤ d)  (hx : x = 2 ∨ x = 14) (hi : 0 ≤ iv.toInt ∧ iv.toInt ≤ 2499) (hy : -2590 ≤ y.toInt ∧ y.toInt ≤ 2590) (hQ : cw_CQ N bb x n f iv g0 n0 B y nt g s h) : cw_K ak_C1 (fun s' r h' => (∃ u, s' = s ++ u) ∧ ∃ (y' nt' : Int32) (g' : Nat → Int32), cw_CQ N bb x n f iv g0 n0 B y' nt' g' s' h' ∧ (y.toInt - 1 ≤ y'.toInt ∧ y'.toInt ≤ y.toInt + 1)) tb d (cw_nC 85 none) [.ref (52 + 39), .int 183, .int iv] s h := by
  obtain ⟨d, rfl⟩ : ∃ e, d = e + 1 := ⟨d - 1, by omega⟩
  obtain ⟨Ih, qx, f2, a31, a34, f4, f5, Zh, nh, gh, bh⟩ := id hQ
  have hB := Ih.1
  refine cw_m (con := cw_nC 85 none) aj_m85_at (Nat.le_of_ble_eq_true rfl) ?_
  show cw_W _ _ _ _ _ _ _ _ _ _ 0 [(0, .ref (52 + 39)), (1, .int 183), (2, .int iv)] []
  refine cw_n aj_d85 rfl rfl ?_
  refine cw_tsw (tgt := 139) (a := (183 : Int)) aj_d85 rfl rfl ⟨by decide, by decide⟩ rfl rfl ?_
  refine cw_n aj_d85 rfl rfl ?_
  refine cw_g (i := 39) (v := .ref (52 + x)) htb.1 aj_d85 rfl rfl (by decide) f2 ?_
  refine cw_k0 (i := x) (t := 59) (con' := ap_c90) aj_d85 htb hT rfl rfl [] rfl rfl qx rfl (Nat.le_of_ble_eq_true rfl) ⟨by decide, by decide⟩ (cw_a1 (by omega) (ap_1_90 htb (cw_SP1c _ _ rfl rfl) cw_hK) hT hB rfl ⟨(cw_gR qx (by decide) (by decide)), trivial⟩) ?_
  rintro ru1196 h1196 hT1196 ho1196 hRu1196
  have f1197 : cw_F h1196 39 0 2 (.ref (52 + x)) := cw_trF ho1196 (by decide) f2
  have f1198 : cw_F h1196 39 0 5 (.int y) := cw_trF ho1196 (by decide) f5
  have f1199 : cw_F h1196 30 4 4 (.int n) := cw_trF ho1196 (by decide) f4
  have a1200 : cw_A h1196 31 0 2500 (.inl f) := cw_trA ho1196 (by decide) a31
  have a1201 : cw_A h1196 34 0 2500 (.inl g) := cw_trA ho1196 (by decide) a34
  obtain ⟨x1202, rfl, bx1202⟩ := cw_rI hRu1196
  show cw_W _ _ _ _ _ _ _ _ _ _ 146 [(0, .ref (52 + 39)), (1, .int 183), (2, .int iv)] [.int x1202]
  refine cw_z (tgt := 232) aj_d85 rfl rfl (fun q1203 => ?_) (fun q1203 => ?_)
  · have q1203 : x1202.toInt ≠ (0 : Int) := aw_t_ne (a := x1202.toInt) (b := (0 : Int)) rfl rfl q1203
    refine cw_Wr aj_d85 rfl rfl hT1196 ?_ ?_
    · exact ⟨⟨[], (List.append_nil _).symm⟩, _, _, _, (cw_CQ_eq (ho1196.trans rfl) hQ), by omega, by omega⟩
    · trivial
  · have q1203 : x1202.toInt = (0 : Int) := aw_t_ne (a := x1202.toInt) (b := (0 : Int)) rfl rfl q1203
    refine cw_n aj_d85 rfl rfl ?_
    refine cw_n aj_d85 rfl rfl ?_
    refine cw_n aj_d85 rfl rfl ?_
    refine cw_k0 (i := 39) (t := 52) (con' := ap_c64) aj_d85 htb hT1196 rfl rfl [_, _] rfl rfl (cw_s0 hB rfl) rfl (Nat.le_of_ble_eq_true rfl) ⟨by decide, by decide⟩ (cw_a2 (by omega) (ap_1_64 htb (cw_SPkc rfl rfl) cw_hK (cw_H1k htb)) hT1196 (cw_I_eq (ho1196.trans rfl) Ih) rfl ⟨(cw_gR (cw_s0 hB rfl) (by decide) (by decide)), (cw_gw (a := (5 : Int)) rfl (by omega) (by omega)), (cw_gw (a := iv.toInt) rfl (by omega) (by omega)), trivial⟩) ?_
    rintro ru1204 h1204 hT1204 ⟨Iu1204, ku1204, mu1204⟩ hRu1204
    obtain rfl := cw_rN hRu1204
    have Q1205 := cw_CQ_f Iu1204 ku1204 mu1204 (cw_CQ_eq (ho1196.trans rfl) hQ)
    obtain ⟨Iq1205, qq1205, f2q1205, a31q1205, a34q1205, f4q1205, f5q1205, Zq1205, nq1205, gq1205, bq1205⟩ := id Q1205
    show cw_W _ _ _ _ _ _ _ _ _ _ 155 [(0, .ref (52 + 39)), (1, .int 183), (2, .int iv)] []
    refine cw_n aj_d85 rfl rfl ?_
    refine cw_Wr aj_d85 rfl rfl hT1204 ?_ ?_
    · exact ⟨⟨[], (List.append_nil _).symm⟩, _, _, _, Q1205, by omega, by omega⟩
    · trivial
theorem cw_cT184 (htb : ak_tbOK ak_C1 tb) (hT : ak_Ty ak_C1 s h) (hd : 5 ≤ d)  (hx : x = 2 ∨ x = 14) (hi : 0 ≤ iv.toInt ∧ iv.toInt ≤ 2499) (hy : -2590 ≤ y.toInt ∧ y.toInt ≤ 2590) (hQ : cw_CQ N bb x n f iv g0 n0 B y nt g s h) : cw_K ak_C1 (fun s' r h' => (∃ u, s' = s ++ u) ∧ ∃ (y' nt' : Int32) (g' : Nat → Int32), cw_CQ N bb x n f iv g0 n0 B y' nt' g' s' h' ∧ (y.toInt - 1 ≤ y'.toInt ∧ y'.toInt ≤ y.toInt + 1)) tb d (cw_nC 85 none) [.ref (52 + 39), .int 184, .int iv] s h := by
  obtain ⟨d, rfl⟩ : ∃ e, d = e + 1 := ⟨d - 1, by omega⟩
  obtain ⟨Ih, qx, f2, a31, a34, f4, f5, Zh, nh, gh, bh⟩ := id hQ
  have hB := Ih.1
  refine cw_m (con := cw_nC 85 none) aj_m85_at (Nat.le_of_ble_eq_true rfl) ?_
  show cw_W _ _ _ _ _ _ _ _ _ _ 0 [(0, .ref (52 + 39)), (1, .int 184), (2, .int iv)] []
  refine cw_n aj_d85 rfl rfl ?_
  refine cw_tsw (tgt := 158) (a := (184 : Int)) aj_d85 rfl rfl ⟨by decide, by decide⟩ rfl rfl ?_
  refine cw_n aj_d85 rfl rfl ?_
  refine cw_n aj_d85 rfl rfl ?_
  refine cw_k0 (i := 39) (t := 52) (con' := ap_c91) aj_d85 htb hT rfl rfl [_] rfl rfl (cw_s0 hB rfl) rfl (Nat.le_of_ble_eq_true rfl) ⟨by decide, by decide⟩ (cw_a2 (by omega) (ap_1_91 htb (cw_SPkc rfl rfl) cw_hK (cw_H1k htb)) hT Ih rfl ⟨(cw_gR (cw_s0 hB rfl) (by decide) (by decide)), (cw_gw (a := iv.toInt) rfl (by omega) (by omega)), trivial⟩) ?_
  rintro ru1206 h1206 hT1206 ⟨Iu1206, ku1206, mu1206⟩ hRu1206
  obtain ⟨x1207, rfl, bx1207⟩ := cw_rI hRu1206
  have Q1208 := cw_CQ_f Iu1206 ku1206 mu1206 hQ
  obtain ⟨Iq1208, qq1208, f2q1208, a31q1208, a34q1208, f4q1208, f5q1208, Zq1208, nq1208, gq1208, bq1208⟩ := id Q1208
  show cw_W _ _ _ _ _ _ _ _ _ _ 163 [(0, .ref (52 + 39)), (1, .int 184), (2, .int iv)] [.int x1207]
  refine cw_z (tgt := 232) aj_d85 rfl rfl (fun q1209 => ?_) (fun q1209 => ?_)
  · have q1209 : x1207.toInt = (0 : Int) := aw_t_eq (a := x1207.toInt) (b := (0 : Int)) rfl rfl q1209
    refine cw_Wr aj_d85 rfl rfl hT1206 ?_ ?_
    · exact ⟨⟨[], (List.append_nil _).symm⟩, _, _, _, Q1208, by omega, by omega⟩
    · trivial
  · have q1209 : x1207.toInt ≠ (0 : Int) := aw_t_eq (a := x1207.toInt) (b := (0 : Int)) rfl rfl q1209
    refine cw_n aj_d85 rfl rfl ?_
    refine cw_g (i := 39) (v := .ref (52 + x)) htb.1 aj_d85 rfl rfl (by decide) f2q1208 ?_
    refine cw_n aj_d85 rfl rfl ?_
    refine cw_n aj_d85 rfl rfl ?_
    refine cw_k0 (i := 39) (t := 52) (con' := ap_c60) aj_d85 htb hT1206 rfl rfl [_] rfl rfl (cw_s0 hB rfl) rfl (Nat.le_of_ble_eq_true rfl) ⟨by decide, by decide⟩ (cw_a1 (by omega) (ap_1_60 htb (cw_SP1c _ _ rfl rfl) cw_hK) hT1206 hB rfl ⟨(cw_gR (cw_s0 hB rfl) (by decide) (by decide)), (cw_gw (a := iv.toInt) rfl (by omega) (by omega)), trivial⟩) ?_
    rintro ru1210 h1210 hT1210 ho1210 hRu1210
    have f1211 : cw_F h1210 39 0 2 (.ref (52 + x)) := cw_trF ho1210 (by decide) f2q1208
    have f1212 : cw_F h1210 39 0 5 (.int y) := cw_trF ho1210 (by decide) f5q1208
    have f1213 : cw_F h1210 30 4 4 (.int n) := cw_trF ho1210 (by decide) f4q1208
    have a1214 : cw_A h1210 31 0 2500 (.inl f) := cw_trA ho1210 (by decide) a31q1208
    have a1215 : cw_A h1210 34 0 2500 (.inl g) := cw_trA ho1210 (by decide) a34q1208
    obtain ⟨y1216, rfl⟩ := cw_rL hRu1210
    show cw_W _ _ _ _ _ _ _ _ _ _ 175 [(0, .ref (52 + 39)), (1, .int 184), (2, .int iv)] [.long y1216, .ref (52 + x)]
    refine cw_n aj_d85 rfl rfl ?_
    refine cw_k (i := x) (con' := cw_nC 92 (some (.inl ((-1), 9)))) aj_d85 htb hT1210 rfl rfl [_, _] rfl rfl (cw_cls hT1210 qq1208 rfl) (Nat.le_of_ble_eq_true rfl) ⟨by decide, by decide⟩ (cw_addTab htb hT1210 (by omega) hx ⟨by decide, by decide⟩ (cw_CQ_eq (ho1210.trans rfl) Q1208)) ?_
    rintro u1217 ru1217 h1217 hT1217 ⟨euu1217, nu1217, Qu1217⟩ hRu1217 -
    obtain ⟨xu1217, rfl, bxu1217⟩ := cw_rI hRu1217
    obtain ⟨Su1217, eSu1217⟩ : ∃ z, z = s ++ u1217 := ⟨_, rfl⟩
    rw [← eSu1217] at Qu1217 hT1217 ⊢
    have hBu1217 := Qu1217.1.1
    have Q1218 := Qu1217
    obtain ⟨Iq1218, qq1218, f2q1218, a31q1218, a34q1218, f4q1218, f5q1218, Zq1218, nq1218, gq1218, bq1218⟩ := id Q1218
    show cw_W _ _ _ _ _ _ _ _ _ _ 179 [(0, .ref (52 + 39)), (1, .int 184), (2, .int iv)] [.int xu1217]
    refine cw_n aj_d85 rfl rfl ?_
    refine cw_n aj_d85 rfl rfl ?_
    refine cw_Wr aj_d85 rfl rfl hT1217 ?_ ?_
    · exact ⟨⟨u1217, eSu1217⟩, _, _, _, Q1218, by omega, by omega⟩
    · trivial
theorem cw_cT185 (htb : ak_tbOK ak_C1 tb) (hT : ak_Ty ak_C1 s h) (hd : 5 ≤ d)  (hx : x = 2 ∨ x = 14) (hi : 0 ≤ iv.toInt ∧ iv.toInt ≤ 2499) (hy : -2590 ≤ y.toInt ∧ y.toInt ≤ 2590) (hQ : cw_CQ N bb x n f iv g0 n0 B y nt g s h) : cw_K ak_C1 (fun s' r h' => (∃ u, s' = s ++ u) ∧ ∃ (y' nt' : Int32) (g' : Nat → Int32), cw_CQ N bb x n f iv g0 n0 B y' nt' g' s' h' ∧ (y.toInt - 1 ≤ y'.toInt ∧ y'.toInt ≤ y.toInt + 1)) tb d (cw_nC 85 none) [.ref (52 + 39), .int 185, .int iv] s h := by
  obtain ⟨d, rfl⟩ : ∃ e, d = e + 1 := ⟨d - 1, by omega⟩
  obtain ⟨Ih, qx, f2, a31, a34, f4, f5, Zh, nh, gh, bh⟩ := id hQ
  have hB := Ih.1
  refine cw_m (con := cw_nC 85 none) aj_m85_at (Nat.le_of_ble_eq_true rfl) ?_
  show cw_W _ _ _ _ _ _ _ _ _ _ 0 [(0, .ref (52 + 39)), (1, .int 185), (2, .int iv)] []
  refine cw_n aj_d85 rfl rfl ?_
  refine cw_tsw (tgt := 183) (a := (185 : Int)) aj_d85 rfl rfl ⟨by decide, by decide⟩ rfl rfl ?_
  refine cw_n aj_d85 rfl rfl ?_
  refine cw_g (i := 39) (v := .ref (52 + x)) htb.1 aj_d85 rfl rfl (by decide) f2 ?_
  refine cw_n aj_d85 rfl rfl ?_
  refine cw_n aj_d85 rfl rfl ?_
  refine cw_k0 (i := 39) (t := 52) (con' := ap_c60) aj_d85 htb hT rfl rfl [_] rfl rfl (cw_s0 hB rfl) rfl (Nat.le_of_ble_eq_true rfl) ⟨by decide, by decide⟩ (cw_a1 (by omega) (ap_1_60 htb (cw_SP1c _ _ rfl rfl) cw_hK) hT hB rfl ⟨(cw_gR (cw_s0 hB rfl) (by decide) (by decide)), (cw_gw (a := iv.toInt) rfl (by omega) (by omega)), trivial⟩) ?_
  rintro ru1219 h1219 hT1219 ho1219 hRu1219
  have f1220 : cw_F h1219 39 0 2 (.ref (52 + x)) := cw_trF ho1219 (by decide) f2
  have f1221 : cw_F h1219 39 0 5 (.int y) := cw_trF ho1219 (by decide) f5
  have f1222 : cw_F h1219 30 4 4 (.int n) := cw_trF ho1219 (by decide) f4
  have a1223 : cw_A h1219 31 0 2500 (.inl f) := cw_trA ho1219 (by decide) a31
  have a1224 : cw_A h1219 34 0 2500 (.inl g) := cw_trA ho1219 (by decide) a34
  obtain ⟨y1225, rfl⟩ := cw_rL hRu1219
  show cw_W _ _ _ _ _ _ _ _ _ _ 192 [(0, .ref (52 + 39)), (1, .int 185), (2, .int iv)] [.long y1225, .ref (52 + x)]
  refine cw_k0 (i := x) (t := 59) (con' := cw_nC 93 (some (.inl (0, 1)))) aj_d85 htb hT1219 rfl rfl [_] rfl rfl qx rfl (Nat.le_of_ble_eq_true rfl) ⟨by decide, by decide⟩ (cw_addC (w9 := y1225) htb hT1219 (by omega) hx hi (by omega) (cw_CQ_eq (ho1219.trans rfl) hQ)) ?_
  rintro ru1226 h1226 hT1226 ⟨yu1226, nu1226, gu1226, Qu1226, eu1226⟩ hRu1226
  obtain ⟨xu1226, rfl, bxu1226⟩ := cw_rI hRu1226
  have Q1227 := Qu1226
  obtain ⟨Iq1227, qq1227, f2q1227, a31q1227, a34q1227, f4q1227, f5q1227, Zq1227, nq1227, gq1227, bq1227⟩ := id Q1227
  show cw_W _ _ _ _ _ _ _ _ _ _ 195 [(0, .ref (52 + 39)), (1, .int 185), (2, .int iv)] [.int xu1226]
  refine cw_z (tgt := 232) aj_d85 rfl rfl (fun q1228 => ?_) (fun q1228 => ?_)
  · have q1228 : xu1226.toInt ≠ (0 : Int) := aw_t_ne (a := xu1226.toInt) (b := (0 : Int)) rfl rfl q1228
    refine cw_Wr aj_d85 rfl rfl hT1226 ?_ ?_
    · exact ⟨⟨[], (List.append_nil _).symm⟩, _, _, _, Q1227, by omega, by omega⟩
    · trivial
  · have q1228 : xu1226.toInt = (0 : Int) := aw_t_ne (a := xu1226.toInt) (b := (0 : Int)) rfl rfl q1228
    refine cw_n aj_d85 rfl rfl ?_
    refine cw_n aj_d85 rfl rfl ?_
    refine cw_n aj_d85 rfl rfl ?_
    refine cw_k0 (i := 39) (t := 52) (con' := ap_c64) aj_d85 htb hT1226 rfl rfl [_, _] rfl rfl (cw_s0 hB rfl) rfl (Nat.le_of_ble_eq_true rfl) ⟨by decide, by decide⟩ (cw_a2 (by omega) (ap_1_64 htb (cw_SPkc rfl rfl) cw_hK (cw_H1k htb)) hT1226 Iq1227 rfl ⟨(cw_gR (cw_s0 hB rfl) (by decide) (by decide)), (cw_gw (a := (3 : Int)) rfl (by omega) (by omega)), (cw_gw (a := iv.toInt) rfl (by omega) (by omega)), trivial⟩) ?_
    rintro ru1229 h1229 hT1229 ⟨Iu1229, ku1229, mu1229⟩ hRu1229
    obtain rfl := cw_rN hRu1229
    have Q1230 := cw_CQ_f Iu1229 ku1229 mu1229 Q1227
    obtain ⟨Iq1230, qq1230, f2q1230, a31q1230, a34q1230, f4q1230, f5q1230, Zq1230, nq1230, gq1230, bq1230⟩ := id Q1230
    show cw_W _ _ _ _ _ _ _ _ _ _ 204 [(0, .ref (52 + 39)), (1, .int 185), (2, .int iv)] []
    refine cw_n aj_d85 rfl rfl ?_
    refine cw_Wr aj_d85 rfl rfl hT1229 ?_ ?_
    · exact ⟨⟨[], (List.append_nil _).symm⟩, _, _, _, Q1230, by omega, by omega⟩
    · trivial
theorem cw_cT186 (htb : ak_tbOK ak_C1 tb) (hT : ak_Ty ak_C1 s h) (hd : 5 ≤ d)  (hx : x = 2 ∨ x = 14) (hi : 0 ≤ iv.toInt ∧ iv.toInt ≤ 2499) (hy : -2590 ≤ y.toInt ∧ y.toInt ≤ 2590) (hQ : cw_CQ N bb x n f iv g0 n0 B y nt g s h) : cw_K ak_C1 (fun s' r h' => (∃ u, s' = s ++ u) ∧ ∃ (y' nt' : Int32) (g' : Nat → Int32), cw_CQ N bb x n f iv g0 n0 B y' nt' g' s' h' ∧ (y.toInt - 1 ≤ y'.toInt ∧ y'.toInt ≤ y.toInt + 1)) tb d (cw_nC 85 none) [.ref (52 + 39), .int 186, .int iv] s h := by
  obtain ⟨d, rfl⟩ : ∃ e, d = e + 1 := ⟨d - 1, by omega⟩
  obtain ⟨Ih, qx, f2, a31, a34, f4, f5, Zh, nh, gh, bh⟩ := id hQ
  have hB := Ih.1
  refine cw_m (con := cw_nC 85 none) aj_m85_at (Nat.le_of_ble_eq_true rfl) ?_
  show cw_W _ _ _ _ _ _ _ _ _ _ 0 [(0, .ref (52 + 39)), (1, .int 186), (2, .int iv)] []
  refine cw_n aj_d85 rfl rfl ?_
  refine cw_tsw (tgt := 207) (a := (186 : Int)) aj_d85 rfl rfl ⟨by decide, by decide⟩ rfl rfl ?_
  refine cw_n aj_d85 rfl rfl ?_
  refine cw_n aj_d85 rfl rfl ?_
  refine cw_k0 (i := 39) (t := 52) (con' := cw_nC 94 none) aj_d85 htb hT rfl rfl [_] rfl rfl (cw_s0 hB rfl) rfl (Nat.le_of_ble_eq_true rfl) ⟨by decide, by decide⟩ (cw_cRow htb hT (by omega) hx hi (by omega) hQ) ?_
  rintro ru1231 h1231 hT1231 ⟨yu1231, nu1231, gu1231, Qu1231, eu1231⟩ hRu1231
  obtain rfl := cw_rN hRu1231
  have Q1232 := Qu1231
  obtain ⟨Iq1232, qq1232, f2q1232, a31q1232, a34q1232, f4q1232, f5q1232, Zq1232, nq1232, gq1232, bq1232⟩ := id Q1232
  show cw_W _ _ _ _ _ _ _ _ _ _ 212 [(0, .ref (52 + 39)), (1, .int 186), (2, .int iv)] []
  refine cw_n aj_d85 rfl rfl ?_
  refine cw_Wr aj_d85 rfl rfl hT1231 ?_ ?_
  · exact ⟨⟨[], (List.append_nil _).symm⟩, _, _, _, Q1232, by omega, by omega⟩
  · trivial
theorem cw_cT187 (htb : ak_tbOK ak_C1 tb) (hT : ak_Ty ak_C1 s h) (hd : 5 ≤ d)  (hx : x = 2 ∨ x = 14) (hi : 0 ≤ iv.toInt ∧ iv.toInt ≤ 2499) (hy : -2590 ≤ y.toInt ∧ y.toInt ≤ 2590) (hQ : cw_CQ N bb x n f iv g0 n0 B y nt g s h) : cw_K ak_C1 (fun s' r h' => (∃ u, s' = s ++ u) ∧ ∃ (y' nt' : Int32) (g' : Nat → Int32), cw_CQ N bb x n f iv g0 n0 B y' nt' g' s' h' ∧ (y.toInt - 1 ≤ y'.toInt ∧ y'.toInt ≤ y.toInt + 1)) tb d (cw_nC 85 none) [.ref (52 + 39), .int 187, .int iv] s h := by
  obtain ⟨d, rfl⟩ : ∃ e, d = e + 1 := ⟨d - 1, by omega⟩
  obtain ⟨Ih, qx, f2, a31, a34, f4, f5, Zh, nh, gh, bh⟩ := id hQ
  have hB := Ih.1
  refine cw_m (con := cw_nC 85 none) aj_m85_at (Nat.le_of_ble_eq_true rfl) ?_
  show cw_W _ _ _ _ _ _ _ _ _ _ 0 [(0, .ref (52 + 39)), (1, .int 187), (2, .int iv)] []
  refine cw_n aj_d85 rfl rfl ?_
  refine cw_tsw (tgt := 232) (a := (187 : Int)) aj_d85 rfl rfl ⟨by decide, by decide⟩ rfl rfl ?_
  refine cw_Wr aj_d85 rfl rfl hT ?_ ?_
  · exact ⟨⟨[], (List.append_nil _).symm⟩, _, _, _, hQ, by omega, by omega⟩
  · trivial
theorem cw_cT188 (htb : ak_tbOK ak_C1 tb) (hT : ak_Ty ak_C1 s h) (hd : 5 ≤ d)  (hx : x = 2 ∨ x = 14) (hi : 0 ≤ iv.toInt ∧ iv.toInt ≤ 2499) (hy : -2590 ≤ y.toInt ∧ y.toInt ≤ 2590) (hQ : cw_CQ N bb x n f iv g0 n0 B y nt g s h) : cw_K ak_C1 (fun s' r h' => (∃ u, s' = s ++ u) ∧ ∃ (y' nt' : Int32) (g' : Nat → Int32), cw_CQ N bb x n f iv g0 n0 B y' nt' g' s' h' ∧ (y.toInt - 1 ≤ y'.toInt ∧ y'.toInt ≤ y.toInt + 1)) tb d (cw_nC 85 none) [.ref (52 + 39), .int 188, .int iv] s h := by
  obtain ⟨d, rfl⟩ : ∃ e, d = e + 1 := ⟨d - 1, by omega⟩
  obtain ⟨Ih, qx, f2, a31, a34, f4, f5, Zh, nh, gh, bh⟩ := id hQ
  have hB := Ih.1
  refine cw_m (con := cw_nC 85 none) aj_m85_at (Nat.le_of_ble_eq_true rfl) ?_
  show cw_W _ _ _ _ _ _ _ _ _ _ 0 [(0, .ref (52 + 39)), (1, .int 188), (2, .int iv)] []
  refine cw_n aj_d85 rfl rfl ?_
  refine cw_tsw (tgt := 232) (a := (188 : Int)) aj_d85 rfl rfl ⟨by decide, by decide⟩ rfl rfl ?_
  refine cw_Wr aj_d85 rfl rfl hT ?_ ?_
  · exact ⟨⟨[], (List.append_nil _).symm⟩, _, _, _, hQ, by omega, by omega⟩
  · trivial
theorem cw_cT189 (htb : ak_tbOK ak_C1 tb) (hT : ak_Ty ak_C1 s h) (hd : 5 ≤ d)  (hx : x = 2 ∨ x = 14) (hi : 0 ≤ iv.toInt ∧ iv.toInt ≤ 2499) (hy : -2590 ≤ y.toInt ∧ y.toInt ≤ 2590) (hQ : cw_CQ N bb x n f iv g0 n0 B y nt g s h) : cw_K ak_C1 (fun s' r h' => (∃ u, s' = s ++ u) ∧ ∃ (y' nt' : Int32) (g' : Nat → Int32), cw_CQ N bb x n f iv g0 n0 B y' nt' g' s' h' ∧ (y.toInt - 1 ≤ y'.toInt ∧ y'.toInt ≤ y.toInt + 1)) tb d (cw_nC 85 none) [.ref (52 + 39), .int 189, .int iv] s h := by
  obtain ⟨d, rfl⟩ : ∃ e, d = e + 1 := ⟨d - 1, by omega⟩
  obtain ⟨Ih, qx, f2, a31, a34, f4, f5, Zh, nh, gh, bh⟩ := id hQ
  have hB := Ih.1
  refine cw_m (con := cw_nC 85 none) aj_m85_at (Nat.le_of_ble_eq_true rfl) ?_
  show cw_W _ _ _ _ _ _ _ _ _ _ 0 [(0, .ref (52 + 39)), (1, .int 189), (2, .int iv)] []
  refine cw_n aj_d85 rfl rfl ?_
  refine cw_tsw (tgt := 232) (a := (189 : Int)) aj_d85 rfl rfl ⟨by decide, by decide⟩ rfl rfl ?_
  refine cw_Wr aj_d85 rfl rfl hT ?_ ?_
  · exact ⟨⟨[], (List.append_nil _).symm⟩, _, _, _, hQ, by omega, by omega⟩
  · trivial
theorem cw_cT190 (htb : ak_tbOK ak_C1 tb) (hT : ak_Ty ak_C1 s h) (hd : 5 ≤ d)  (hx : x = 2 ∨ x = 14) (hi : 0 ≤ iv.toInt ∧ iv.toInt ≤ 2499) (hy : -2590 ≤ y.toInt ∧ y.toInt ≤ 2590) (hQ : cw_CQ N bb x n f iv g0 n0 B y nt g s h) : cw_K ak_C1 (fun s' r h' => (∃ u, s' = s ++ u) ∧ ∃ (y' nt' : Int32) (g' : Nat → Int32), cw_CQ N bb x n f iv g0 n0 B y' nt' g' s' h' ∧ (y.toInt - 1 ≤ y'.toInt ∧ y'.toInt ≤ y.toInt + 1)) tb d (cw_nC 85 none) [.ref (52 + 39), .int 190, .int iv] s h := by
  obtain ⟨d, rfl⟩ : ∃ e, d = e + 1 := ⟨d - 1, by omega⟩
  obtain ⟨Ih, qx, f2, a31, a34, f4, f5, Zh, nh, gh, bh⟩ := id hQ
  have hB := Ih.1
  refine cw_m (con := cw_nC 85 none) aj_m85_at (Nat.le_of_ble_eq_true rfl) ?_
  show cw_W _ _ _ _ _ _ _ _ _ _ 0 [(0, .ref (52 + 39)), (1, .int 190), (2, .int iv)] []
  refine cw_n aj_d85 rfl rfl ?_
  refine cw_tsw (tgt := 232) (a := (190 : Int)) aj_d85 rfl rfl ⟨by decide, by decide⟩ rfl rfl ?_
  refine cw_Wr aj_d85 rfl rfl hT ?_ ?_
  · exact ⟨⟨[], (List.append_nil _).symm⟩, _, _, _, hQ, by omega, by omega⟩
  · trivial
theorem cw_cT191 (htb : ak_tbOK ak_C1 tb) (hT : ak_Ty ak_C1 s h) (hd : 5 ≤ d)  (hx : x = 2 ∨ x = 14) (hi : 0 ≤ iv.toInt ∧ iv.toInt ≤ 2499) (hy : -2590 ≤ y.toInt ∧ y.toInt ≤ 2590) (hQ : cw_CQ N bb x n f iv g0 n0 B y nt g s h) : cw_K ak_C1 (fun s' r h' => (∃ u, s' = s ++ u) ∧ ∃ (y' nt' : Int32) (g' : Nat → Int32), cw_CQ N bb x n f iv g0 n0 B y' nt' g' s' h' ∧ (y.toInt - 1 ≤ y'.toInt ∧ y'.toInt ≤ y.toInt + 1)) tb d (cw_nC 85 none) [.ref (52 + 39), .int 191, .int iv] s h := by
  obtain ⟨d, rfl⟩ : ∃ e, d = e + 1 := ⟨d - 1, by omega⟩
  obtain ⟨Ih, qx, f2, a31, a34, f4, f5, Zh, nh, gh, bh⟩ := id hQ
  have hB := Ih.1
  refine cw_m (con := cw_nC 85 none) aj_m85_at (Nat.le_of_ble_eq_true rfl) ?_
  show cw_W _ _ _ _ _ _ _ _ _ _ 0 [(0, .ref (52 + 39)), (1, .int 191), (2, .int iv)] []
  refine cw_n aj_d85 rfl rfl ?_
  refine cw_tsw (tgt := 215) (a := (191 : Int)) aj_d85 rfl rfl ⟨by decide, by decide⟩ rfl rfl ?_
  refine cw_n aj_d85 rfl rfl ?_
  refine cw_n aj_d85 rfl rfl ?_
  refine cw_k0 (i := 39) (t := 52) (con' := ap_c91) aj_d85 htb hT rfl rfl [_] rfl rfl (cw_s0 hB rfl) rfl (Nat.le_of_ble_eq_true rfl) ⟨by decide, by decide⟩ (cw_a2 (by omega) (ap_1_91 htb (cw_SPkc rfl rfl) cw_hK (cw_H1k htb)) hT Ih rfl ⟨(cw_gR (cw_s0 hB rfl) (by decide) (by decide)), (cw_gw (a := iv.toInt) rfl (by omega) (by omega)), trivial⟩) ?_
  rintro ru1233 h1233 hT1233 ⟨Iu1233, ku1233, mu1233⟩ hRu1233
  obtain ⟨x1234, rfl, bx1234⟩ := cw_rI hRu1233
  have Q1235 := cw_CQ_f Iu1233 ku1233 mu1233 hQ
  obtain ⟨Iq1235, qq1235, f2q1235, a31q1235, a34q1235, f4q1235, f5q1235, Zq1235, nq1235, gq1235, bq1235⟩ := id Q1235
  show cw_W _ _ _ _ _ _ _ _ _ _ 220 [(0, .ref (52 + 39)), (1, .int 191), (2, .int iv)] [.int x1234]
  refine cw_n aj_d85 rfl rfl ?_
  refine cw_n aj_d85 rfl rfl ?_
  refine cw_Wr aj_d85 rfl rfl hT1233 ?_ ?_
  · exact ⟨⟨[], (List.append_nil _).symm⟩, _, _, _, Q1235, by omega, by omega⟩
  · trivial
theorem cw_cT192 (htb : ak_tbOK ak_C1 tb) (hT : ak_Ty ak_C1 s h) (hd : 5 ≤ d)  (hx : x = 2 ∨ x = 14) (hi : 0 ≤ iv.toInt ∧ iv.toInt ≤ 2499) (hy : -2590 ≤ y.toInt ∧ y.toInt ≤ 2590) (hQ : cw_CQ N bb x n f iv g0 n0 B y nt g s h) : cw_K ak_C1 (fun s' r h' => (∃ u, s' = s ++ u) ∧ ∃ (y' nt' : Int32) (g' : Nat → Int32), cw_CQ N bb x n f iv g0 n0 B y' nt' g' s' h' ∧ (y.toInt - 1 ≤ y'.toInt ∧ y'.toInt ≤ y.toInt + 1)) tb d (cw_nC 85 none) [.ref (52 + 39), .int 192, .int iv] s h := by
  obtain ⟨d, rfl⟩ : ∃ e, d = e + 1 := ⟨d - 1, by omega⟩
  obtain ⟨Ih, qx, f2, a31, a34, f4, f5, Zh, nh, gh, bh⟩ := id hQ
  have hB := Ih.1
  refine cw_m (con := cw_nC 85 none) aj_m85_at (Nat.le_of_ble_eq_true rfl) ?_
  show cw_W _ _ _ _ _ _ _ _ _ _ 0 [(0, .ref (52 + 39)), (1, .int 192), (2, .int iv)] []
  refine cw_n aj_d85 rfl rfl ?_
  refine cw_tsw (tgt := 224) (a := (192 : Int)) aj_d85 rfl rfl ⟨by decide, by decide⟩ rfl rfl ?_
  refine cw_n aj_d85 rfl rfl ?_
  refine cw_n aj_d85 rfl rfl ?_
  refine cw_k (i := 39) (con' := cw_nC 96 none) aj_d85 htb hT rfl rfl [_] rfl rfl (cw_cls hT (cw_s0 hB rfl) rfl) (Nat.le_of_ble_eq_true rfl) ⟨by decide, by decide⟩ (cw_eAns htb hT (by omega) hx hi (by omega) hQ) ?_
  rintro u1236 ru1236 h1236 hT1236 ⟨euu1236, yu1236, nu1236, gu1236, Qu1236, eu1236⟩ hRu1236 -
  obtain rfl := cw_rN hRu1236
  obtain ⟨Su1236, eSu1236⟩ : ∃ z, z = s ++ u1236 := ⟨_, rfl⟩
  rw [← eSu1236] at Qu1236 hT1236 ⊢
  have hBu1236 := Qu1236.1.1
  have Q1237 := Qu1236
  obtain ⟨Iq1237, qq1237, f2q1237, a31q1237, a34q1237, f4q1237, f5q1237, Zq1237, nq1237, gq1237, bq1237⟩ := id Q1237
  show cw_W _ _ _ _ _ _ _ _ _ _ 229 [(0, .ref (52 + 39)), (1, .int 192), (2, .int iv)] []
  refine cw_n aj_d85 rfl rfl ?_
  refine cw_Wr aj_d85 rfl rfl hT1236 ?_ ?_
  · exact ⟨⟨u1236, eSu1236⟩, _, _, _, Q1237, by omega, by omega⟩
  · trivial
theorem cw_cTo (htb : ak_tbOK ak_C1 tb) (hT : ak_Ty ak_C1 s h) (hd : 5 ≤ d) (hv : v.toInt < 180 ∨ 193 ≤ v.toInt) (hx : x = 2 ∨ x = 14) (hi : 0 ≤ iv.toInt ∧ iv.toInt ≤ 2499) (hy : -2590 ≤ y.toInt ∧ y.toInt ≤ 2590) (hQ : cw_CQ N bb x n f iv g0 n0 B y nt g s h) : cw_K ak_C1 (fun s' r h' => (∃ u, s' = s ++ u) ∧ ∃ (y' nt' : Int32) (g' : Nat → Int32), cw_CQ N bb x n f iv g0 n0 B y' nt' g' s' h' ∧ (y.toInt - 1 ≤ y'.toInt ∧ y'.toInt ≤ y.toInt + 1)) tb d (cw_nC 85 none) [.ref (52 + 39), .int v, .int iv] s h := by
  obtain ⟨d, rfl⟩ : ∃ e, d = e + 1 := ⟨d - 1, by omega⟩
  obtain ⟨Ih, qx, f2, a31, a34, f4, f5, Zh, nh, gh, bh⟩ := id hQ
  have hB := Ih.1
  refine cw_m (con := cw_nC 85 none) aj_m85_at (Nat.le_of_ble_eq_true rfl) ?_
  show cw_W _ _ _ _ _ _ _ _ _ _ 0 [(0, .ref (52 + 39)), (1, .int v), (2, .int iv)] []
  refine cw_n aj_d85 rfl rfl ?_
  refine cw_tsd (tgt := 232) (a := v.toInt) aj_d85 rfl rfl (by omega) rfl ?_
  refine cw_Wr aj_d85 rfl rfl hT ?_ ?_
  · exact ⟨⟨[], (List.append_nil _).symm⟩, _, _, _, hQ, by omega, by omega⟩
  · trivial
end CW85
