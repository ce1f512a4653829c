/-! UNDERSTAND, READ, LEARN, ASK: NO BYTE IS LEFT (rows of 87, 89, with the field of the bytes) -/
/-- the same, but the bytes stay -/
def cw_no (c : ak_Con) : ak_Con := (c.1, c.2.1, c.2.2.1, (c.2.2.2.1.1, c.2.2.2.1.2.filter (fun q => !(q == (10, 1)))), c.2.2.2.2)
section CWA33
variable {Φ : List Nat → Option Value → aj_H → Prop} {tb : aj_T} {con : ak_Con} {d : Nat} {s s' s2 s0 : List Nat} {h h' h2 h0 h1 : aj_H} {i j p q x c k l l' a : Nat} {b b' b2 : Int} {o o' o2 o0 : cw_O} {E : List Nat} {n nt n0 iv y y' v t wd x1 : Int32} {w : Value} {f g g0 : Nat → Int32} {B N : Prop} {bb : Int}
theorem cw_Wx {T : ak_TT} {mm : aj_M} {con con' : ak_Con} {kc ks pc : Nat} {lv : aj_V} {st : List Value} {Φ' : List Nat → Option Value → aj_H → Prop} (hM : (∀ t ∈ con'.2.2.2.1.1, t ∈ con.2.2.2.1.1) ∧ ∀ q ∈ con'.2.2.2.1.2, q ∈ con.2.2.2.1.2) (hr : con'.2.2.1 = con.2.2.1) (k : cw_W T Φ' tb d mm con' s h kc ks pc lv st) (hΦ : ∀ s' r h', Φ' s' r h' → ak_Ev T con'.2.2.2.1 s h h' → Φ s' r h') : cw_W T Φ tb d mm con s h kc ks pc lv st := by
  obtain ⟨u, r, h', k1, k2, k3, k4, k5⟩ := k
  exact ⟨u, r, h', k1, k2, hΦ _ _ _ k3 k4, ak_Ev_sub hM k4, by rw [← hr]; exact k5⟩
theorem cw_und1 (htb : ak_tbOK ak_C0 tb) (htG : cw_tbG tb) (hT : ak_Ty ak_C0 s h) (hI : cw_I cw_XB s h) (hd : 7 ≤ d) (hx : x = 2 ∨ x = 14) (qx : s[x]? = some 59) (hx1 : x1.toInt = 130 ∨ x1.toInt = 138) (hZ : cw_Z N x nt bb (cw_o h)) : cw_K ak_C0 (fun s' _ h' => cw_PU N bb x s' h' ∧ cw_F h' 0 10 1 (.int (Int32.ofInt 0))) tb d (cw_nU 20 none) [.ref (52 + 0), .int x1, .ref (52 + x)] s h := by
  obtain ⟨d, rfl⟩ : ∃ e, d = e + 1 := ⟨d - 1, by omega⟩
  have hB := hI.1
  refine cw_m (con := cw_nU 20 none) aj_m20_at (Nat.le_of_ble_eq_true rfl) ?_
  show cw_W _ _ _ _ _ _ _ _ _ _ 0 [(0, .ref (52 + 0)), (1, .int x1), (2, .ref (52 + x))] []
  refine cw_n aj_d20 rfl rfl ?_
  obtain ⟨v1001, f1001, g1001⟩ := cw_tyF (i := 0) (t := 62) (c := 10) (k := 5) (y := (.inr (some ([60], false)))) hT (cw_s0 hB rfl) rfl rfl rfl
  obtain rfl := cw_gu (i := 26) hB g1001 (by decide) (by decide) (by decide)
  refine cw_g (i := 0) (v := .ref (52 + 26)) htb.1 aj_d20 rfl rfl (by decide) f1001 ?_
  refine cw_n aj_d20 rfl rfl ?_
  obtain ⟨v1002, f1002, g1002⟩ := cw_tyF (i := 0) (t := 62) (c := 10) (k := 0) (y := (.inr (some ([64], false)))) hT (cw_s0 hB rfl) rfl rfl rfl
  obtain rfl := cw_gu (i := 1) hB g1002 (by decide) (by decide) (by decide)
  refine cw_g (i := 0) (v := .ref (52 + 1)) htb.1 aj_d20 rfl rfl (by decide) f1002 ?_
  refine cw_n aj_d20 rfl rfl ?_
  obtain ⟨v1003, f1003, g1003⟩ := cw_tyF (i := 0) (t := 62) (c := 10) (k := 1) (y := (.inl (0, 4000))) hT (cw_s0 hB rfl) rfl rfl rfl
  obtain ⟨x1003, rfl, b1003⟩ := ak_gi g1003
  dsimp only [ak_win] at b1003
  refine cw_g (i := 0) (v := .int x1003) htb.1 aj_d20 rfl rfl (by decide) f1003 ?_
  refine cw_k0 (i := 26) (t := 60) (con' := cw_n21) aj_d20 htb hT rfl rfl [_, _] rfl rfl (cw_s0 hB rfl) rfl (Nat.le_of_ble_eq_true rfl) ⟨by decide, by decide⟩ (cw_scan htb hT hB (by omega) hI.2.1 (by omega)) ?_
  rintro r1 h1 hT1 ⟨k1, w1⟩ hR1
  obtain rfl := cw_rN hR1
  have I1 : cw_I cw_XB s h1 := ⟨hB, w1, cw_dis_ex k1 (by decide) hI.2.2.1, cw_gd_ex k1 (by decide) hI.2.2.2.1, cw_HR_ex k1 (by decide) (by decide) hI.2.2.2.2⟩
  have Z1 := cw_Z_ex hT hB k1 (by decide) ⟨by decide, by decide⟩ hZ
  show cw_W _ _ _ _ _ _ _ _ _ _ 15 [(0, .ref (52 + 0)), (1, .int x1), (2, .ref (52 + x))] []
  refine cw_n aj_d20 rfl rfl ?_
  refine cw_n aj_d20 rfl rfl ?_
  refine cw_p (i := 0) (t := 62) (c := 10) (k := 1) (v := .int (Int32.ofInt 0)) (y := (.inl (0, 4000))) htb aj_d20 rfl rfl hT1 (cw_s0 hB rfl) rfl rfl rfl (cw_gw (a := (0 : Int)) rfl (by omega) (by omega)) (by decide) rfl rfl (fun hT1004 => ?_)
  obtain ⟨v1005, f1005, g1005⟩ := cw_tyF (i := 0) (t := 62) (c := 10) (k := 1) (y := (.inl (0, 4000))) hT1 (cw_s0 hB rfl) rfl rfl rfl
  obtain ⟨x1005, rfl, b1005⟩ := ak_gi g1005
  dsimp only [ak_win] at b1005
  have f1006 : cw_F (cw_sf h1 0 1 (.int (Int32.ofInt 0))) 0 10 1 (.int (Int32.ofInt 0)) := cw_sf_same f1005
  refine cw_Wx (con' := cw_no (cw_nU 20 none)) ⟨by decide, by decide⟩ rfl (Φ' := fun s' _ h' => cw_PU N bb x s' h') ?_ (fun s' r h' q1 q2 => ⟨q1, cw_Fev q2 (by decide) f1006⟩)
  refine cw_n aj_d20 rfl rfl ?_
  obtain ⟨v1007, f1007, g1007⟩ := cw_tyF (i := 0) (t := 62) (c := 10) (k := 6) (y := (.inr (some ([56], false)))) hT1004 (cw_s0 hB rfl) rfl rfl rfl
  obtain rfl := cw_gu (i := 30) hB g1007 (by decide) (by decide) (by decide)
  refine cw_g (i := 0) (v := .ref (52 + 30)) htb.1 aj_d20 rfl rfl (by decide) f1007 ?_
  obtain ⟨v1008, f1008, g1008⟩ := cw_tyF (i := 30) (t := 56) (c := 4) (k := 4) (y := (.inl (0, 2500))) hT1004 (cw_s0 hB rfl) rfl rfl rfl
  obtain ⟨x1008, rfl, b1008⟩ := ak_gi g1008
  dsimp only [ak_win] at b1008
  obtain ⟨v1009, f1009, g1009⟩ := cw_tyF (i := 30) (t := 56) (c := 4) (k := 5) (y := (.inl ((-2147483648), 2147483647))) hT1004 (cw_s0 hB rfl) rfl rfl rfl
  obtain ⟨x1009, rfl, b1009⟩ := ak_gi g1009
  dsimp only [ak_win] at b1009
  refine cw_k0 (i := 30) (t := 56) (con' := ap_c31) aj_d20 htb hT1004 rfl rfl [] rfl rfl (cw_s0 hB rfl) rfl (Nat.le_of_ble_eq_true rfl) ⟨by decide, by decide⟩ (cw_empty htb hT1004 hB (by omega)) ?_
  rintro r3 h3 hT3 ⟨rfl, e3⟩ hR3
  have k3 : cw_ex [30] (cw_o (cw_sf h1 0 1 (.int (Int32.ofInt 0)))) (cw_o h3) := by
    rw [e3]
    exact cw_ex_tr (cw_ex_tr (cw_ex_sf (by decide)) (cw_ex_sf (by decide))) (cw_ex_sf (by decide))
  have I2 : cw_I cw_XB s (cw_sf h1 0 1 (.int (Int32.ofInt 0))) := cw_I_eq ((cw_o_sf f1005 (by decide)).trans rfl) I1
  have Z2 : cw_Z N x nt bb (cw_o (cw_sf h1 0 1 (.int (Int32.ofInt 0)))) := cw_Z_eq ((cw_o_sf f1005 (by decide)).trans rfl) Z1
  have Z3 := cw_Z_ex hT1004 hB k3 (by decide) ⟨by decide, by decide⟩ Z2
  have p5 : cw_F h3 30 4 5 (.int 0) := by
    rw [e3]
    exact cw_sf_ne (cw_sf_same (cw_sf_ne f1009 (Or.inr (by decide)))) (Or.inr (by decide))
  have p4 : cw_F h3 30 4 4 (.int 0) := by
    rw [e3]
    exact cw_sf_ne (cw_sf_ne (cw_sf_same f1008) (Or.inr (by decide))) (Or.inr (by decide))
  show cw_W _ _ _ _ _ _ _ _ _ _ 27 [(0, .ref (52 + 0)), (1, .int x1), (2, .ref (52 + x))] []
  refine cw_n aj_d20 rfl rfl ?_
  obtain ⟨v1010, f1010, g1010⟩ := cw_tyF (i := 0) (t := 62) (c := 10) (k := 7) (y := (.inr (some ([55], false)))) hT3 (cw_s0 hB rfl) rfl rfl rfl
  obtain rfl := cw_gu (i := 35) hB g1010 (by decide) (by decide) (by decide)
  refine cw_g (i := 0) (v := .ref (52 + 35)) htb.1 aj_d20 rfl rfl (by decide) f1010 ?_
  refine cw_n aj_d20 rfl rfl ?_
  refine cw_k0 (i := 35) (t := 55) (con' := cw_nP 32 none) aj_d20 htb hT3 rfl rfl [_] rfl rfl (cw_s0 hB rfl) rfl (Nat.le_of_ble_eq_true rfl) ⟨by decide, by decide⟩ (cw_parse htb htG hT3 hB (by omega) hx1 p5 p4) ?_
  rintro r4 h4 hT4 ⟨e4, g4⟩ hR4
  obtain rfl := cw_rN hR4
  have I4 : cw_I cw_XB s h4 := ⟨hB, cw_wds_ex e4 (by decide) (cw_wds_ex k3 (by decide) I2.2.1), cw_dis_ex e4 (by decide) (cw_dis_ex k3 (by decide) I2.2.2.1), g4, cw_HR_ex e4 (by decide) (by decide) (cw_HR_ex k3 (by decide) (by decide) I2.2.2.2.2)⟩
  have Z4 := cw_Z_ex hT3 hB e4 (by decide) ⟨by decide, by decide⟩ Z3
  show cw_W _ _ _ _ _ _ _ _ _ _ 35 [(0, .ref (52 + 0)), (1, .int x1), (2, .ref (52 + x))] []
  refine cw_n aj_d20 rfl rfl ?_
  obtain ⟨v1011, f1011, g1011⟩ := cw_tyF (i := 0) (t := 62) (c := 10) (k := 6) (y := (.inr (some ([56], false)))) hT4 (cw_s0 hB rfl) rfl rfl rfl
  obtain rfl := cw_gu (i := 30) hB g1011 (by decide) (by decide) (by decide)
  refine cw_g (i := 0) (v := .ref (52 + 30)) htb.1 aj_d20 rfl rfl (by decide) f1011 ?_
  obtain ⟨v1012, f1012, g1012⟩ := cw_tyF (i := 30) (t := 56) (c := 4) (k := 5) (y := (.inl ((-2147483648), 2147483647))) hT4 (cw_s0 hB rfl) rfl rfl rfl
  obtain ⟨x1012, rfl, b1012⟩ := ak_gi g1012
  dsimp only [ak_win] at b1012
  refine cw_g (i := 30) (v := .int x1012) htb.1 aj_d20 rfl rfl (by decide) f1012 ?_
  refine cw_z (tgt := 53) aj_d20 rfl rfl (fun q1013 => ?_) (fun q1013 => ?_)
  · have q1013 : x1012.toInt ≠ (0 : Int) := aw_t_ne (a := x1012.toInt) (b := (0 : Int)) rfl rfl q1013
    refine cw_Wr aj_d20 rfl rfl hT4 ?_ ?_
    · exact ⟨I4, Or.inl ⟨x1012, by omega, (cw_fo_F (by decide)).mpr f1012⟩⟩
    · trivial
  · have q1013 : x1012.toInt = (0 : Int) := aw_t_ne (a := x1012.toInt) (b := (0 : Int)) rfl rfl q1013
    refine cw_n aj_d20 rfl rfl ?_
    obtain ⟨v1014, f1014, g1014⟩ := cw_tyF (i := 0) (t := 62) (c := 10) (k := 8) (y := (.inr (some ([52], false)))) hT4 (cw_s0 hB rfl) rfl rfl rfl
    obtain rfl := cw_gu (i := 39) hB g1014 (by decide) (by decide) (by decide)
    refine cw_g (i := 0) (v := .ref (52 + 39)) htb.1 aj_d20 rfl rfl (by decide) f1014 ?_
    refine cw_n aj_d20 rfl rfl ?_
    obtain ⟨v1015, f1015, g1015⟩ := cw_tyF (i := 30) (t := 56) (c := 4) (k := 4) (y := (.inl (0, 2500))) hT4 (cw_s0 hB rfl) rfl rfl rfl
    obtain ⟨x1015, rfl, b1015⟩ := ak_gi g1015
    dsimp only [ak_win] at b1015
    obtain ⟨n1016, z1016, a1016, p1016l, p1016r, p1016⟩ := cw_tyA (i := 31) (t := 79) (kd := 0) (n1 := 2500) (n2 := 2500) (y := (.inl ((-2147483648), 2147483647))) hT4 (cw_s0 hB rfl) rfl
    obtain rfl : n1016 = 2500 := Nat.le_antisymm p1016r p1016l
    obtain ⟨fn1016, rfl, p1016c⟩ := cw_xi p1016
    obtain ⟨n1017, z1017, a1017, p1017l, p1017r, p1017⟩ := cw_tyA (i := 34) (t := 82) (kd := 0) (n1 := 2500) (n2 := 2500) (y := (.inl ((-2147483648), 2147483647))) hT4 (cw_s0 hB rfl) rfl
    obtain rfl : n1017 = 2500 := Nat.le_antisymm p1017r p1017l
    obtain ⟨fn1017, rfl, p1017c⟩ := cw_xi p1017
    refine cw_k (i := 39) (con' := cw_nC 56 none) aj_d20 htb hT4 rfl rfl [_] rfl rfl (cw_cls hT4 (cw_s0 hB rfl) rfl) (Nat.le_of_ble_eq_true rfl) ⟨by decide, by decide⟩ (cw_check htb hT4 I4 (by omega) hx qx (by omega) a1016 a1017 f1015 Z4) ?_
    rintro u ru hu hTu ⟨y', nt', g', Q', L'⟩ hRu -
    obtain rfl := cw_rN hRu
    show cw_W _ _ _ _ _ _ _ _ _ _ 53 [(0, .ref (52 + 0)), (1, .int x1), (2, .ref (52 + x))] []
    refine cw_Wr aj_d20 rfl rfl hTu ?_ ?_
    · exact ⟨Q'.1, Or.inr ⟨_, _, _, _, _, Q', L', by omega⟩⟩
    · trivial
end CWA33
section CWA33B
variable {Φ : List Nat → Option Value → aj_H → Prop} {tb : aj_T} {con : ak_Con} {d : Nat} {s s' s2 s0 : List Nat} {h h' h2 h0 h1 : aj_H} {i j p q x c k l l' a : Nat} {o o' o2 o0 : cw_O} {n nt iv y v t x1 : Int32} {w : Value} {f g : Nat → Int32} {N : Prop} {bb : Int}
theorem cw_read1 (htb : ak_tbOK ak_C0 tb) (htG : cw_tbG tb) (hT : ak_Ty ak_C0 s h) (hI : cw_I cw_XB s h) (hd : 9 ≤ d) : cw_K ak_C0 (fun s' _ h' => cw_I cw_XB s' h' ∧ cw_F h' 0 10 1 (.int (Int32.ofInt 0))) tb d cw_nR [.ref (52 + 0)] s h := by
  obtain ⟨d, rfl⟩ : ∃ e, d = e + 1 := ⟨d - 1, by omega⟩
  have hB := hI.1
  refine cw_m (con := cw_nR) aj_m19_at (Nat.le_of_ble_eq_true rfl) ?_
  show cw_W _ _ _ _ _ _ _ _ _ _ 0 [(0, .ref (52 + 0))] []
  refine cw_n aj_d19 rfl rfl ?_
  obtain ⟨v1034, f1034, g1034⟩ := cw_tyF (i := 0) (t := 62) (c := 10) (k := 4) (y := (.inr (some ([59], false)))) hT (cw_s0 hB rfl) rfl rfl rfl
  obtain ⟨i1034, rfl, q1034⟩ := cw_gr g1034 (by decide)
  refine cw_g (i := 0) (v := .ref (52 + i1034)) htb.1 aj_d19 rfl rfl (by decide) f1034 ?_
  have hx := cw_cell59 hB q1034
  refine cw_k0 (i := i1034) (t := 59) (con' := ap_c2) aj_d19 htb hT rfl rfl [] rfl rfl q1034 rfl (Nat.le_of_ble_eq_true rfl) ⟨by decide, by decide⟩ (cw_emptyS htb hT hI (by omega) q1034) ?_
  rintro r1 h1 hT1 ⟨I1, Z1, k1⟩ hR1
  obtain rfl := cw_rN hR1
  have s1 : cw_F h1 0 10 4 (.ref (52 + i1034)) := cw_kp_F k1 (fun z => absurd z.2.1 (by decide)) (by decide) f1034
  show cw_W _ _ _ _ _ _ _ _ _ _ 7 [(0, .ref (52 + 0))] []
  refine cw_n aj_d19 rfl rfl ?_
  refine cw_n aj_d19 rfl rfl ?_
  refine cw_n aj_d19 rfl rfl ?_
  refine cw_g (i := 0) (v := .ref (52 + i1034)) htb.1 aj_d19 rfl rfl (by decide) s1 ?_
  refine cw_k (i := 0) (con' := cw_nU 20 none) aj_d19 htb hT1 rfl rfl [_, _] rfl rfl (cw_cls hT1 (cw_s0 hB rfl) rfl) (Nat.le_of_ble_eq_true rfl) ⟨by decide, by decide⟩ (cw_und1 (N := False) (bb := 30) (nt := 0) htb htG hT1 I1 (by omega) hx q1034 (Or.inl rfl) Z1) ?_
  rintro u1 ru1 hu1 hTu1 ⟨Pu1, Fu1⟩ hRu1 Eu1
  obtain rfl := cw_rN hRu1
  obtain ⟨Su1, eSu1⟩ : ∃ z, z = s ++ u1 := ⟨_, rfl⟩
  rw [← eSu1] at Pu1 hTu1 ⊢
  have hBu1 := Pu1.1.1
  have qxu1 : Su1[i1034]? = some 59 := by
    rw [eSu1]
    exact cw_sapp q1034
  have s2 : cw_F hu1 0 10 4 (.ref (52 + i1034)) := cw_EvF Eu1 (by decide) s1
  show cw_W _ _ _ _ _ _ _ _ _ _ 18 [(0, .ref (52 + 0))] []
  refine cw_Wx (con' := cw_no cw_nR) ⟨by decide, by decide⟩ rfl (Φ' := fun s' _ h' => cw_I cw_XB s' h') ?_ (fun s' r h' q1 q2 => ⟨q1, cw_Fev q2 (by decide) Fu1⟩)
  refine cw_n aj_d19 rfl rfl ?_
  obtain ⟨v1035, f1035, g1035⟩ := cw_tyF (i := 0) (t := 62) (c := 10) (k := 6) (y := (.inr (some ([56], false)))) hTu1 (cw_s0 hBu1 rfl) rfl rfl rfl
  obtain rfl := cw_gu (i := 30) hBu1 g1035 (by decide) (by decide) (by decide)
  refine cw_g (i := 0) (v := .ref (52 + 30)) htb.1 aj_d19 rfl rfl (by decide) f1035 ?_
  obtain ⟨v1036, f1036, g1036⟩ := cw_tyF (i := 30) (t := 56) (c := 4) (k := 5) (y := (.inl ((-2147483648), 2147483647))) hTu1 (cw_s0 hBu1 rfl) rfl rfl rfl
  obtain ⟨x1036, rfl, b1036⟩ := ak_gi g1036
  dsimp only [ak_win] at b1036
  refine cw_g (i := 30) (v := .int x1036) htb.1 aj_d19 rfl rfl (by decide) f1036 ?_
  refine cw_z (tgt := 39) aj_d19 rfl rfl (fun q1037 => ?_) (fun q1037 => ?_)
  · have q1037 : x1036.toInt ≠ (0 : Int) := aw_t_ne (a := x1036.toInt) (b := (0 : Int)) rfl rfl q1037
    refine cw_n aj_d19 rfl rfl ?_
    refine cw_n aj_d19 rfl rfl ?_
    refine cw_g (i := 0) (v := .ref (52 + 30)) htb.1 aj_d19 rfl rfl (by decide) f1035 ?_
    refine cw_g (i := 30) (v := .int x1036) htb.1 aj_d19 rfl rfl (by decide) f1036 ?_
    refine cw_z (tgt := 54) aj_d19 rfl rfl (fun q1038 => ?_) (fun q1038 => ?_)
    · have q1038 : x1036.toInt ≠ (0 : Int) := aw_t_ne (a := x1036.toInt) (b := (0 : Int)) rfl rfl q1038
      refine cw_n aj_d19 rfl rfl ?_
      refine cw_g (i := 0) (v := .ref (52 + 30)) htb.1 aj_d19 rfl rfl (by decide) f1035 ?_
      obtain ⟨v1039, f1039, g1039⟩ := cw_tyF (i := 30) (t := 56) (c := 4) (k := 6) (y := (.inl ((-2147483648), 2147483647))) hTu1 (cw_s0 hBu1 rfl) rfl rfl rfl
      obtain ⟨x1039, rfl, b1039⟩ := ak_gi g1039
      dsimp only [ak_win] at b1039
      refine cw_g (i := 30) (v := .int x1039) htb.1 aj_d19 rfl rfl (by decide) f1039 ?_
      refine cw_p (i := 0) (t := 62) (c := 10) (k := 2) (v := .int x1039) (y := (.inl ((-2147483648), 2147483647))) htb aj_d19 rfl rfl hTu1 (cw_s0 hBu1 rfl) rfl rfl rfl (cw_full _) (by decide) rfl rfl (fun hT1040 => ?_)
      obtain ⟨v1041, f1041, g1041⟩ := cw_tyF (i := 0) (t := 62) (c := 10) (k := 2) (y := (.inl ((-2147483648), 2147483647))) hTu1 (cw_s0 hBu1 rfl) rfl rfl rfl
      obtain ⟨x1041, rfl, b1041⟩ := ak_gi g1041
      dsimp only [ak_win] at b1041
      have f1042 : cw_F (cw_sf hu1 0 2 (.int x1039)) 0 10 4 (.ref (52 + i1034)) := cw_sf_ne s2 (Or.inr (by decide))
      have f1043 : cw_F (cw_sf hu1 0 2 (.int x1039)) 0 10 6 (.ref (52 + 30)) := cw_sf_ne f1035 (Or.inr (by decide))
      have f1044 : cw_F (cw_sf hu1 0 2 (.int x1039)) 30 4 5 (.int x1036) := cw_sf_ne f1036 (Or.inr (by decide))
      have f1045 : cw_F (cw_sf hu1 0 2 (.int x1039)) 30 4 6 (.int x1039) := cw_sf_ne f1039 (Or.inr (by decide))
      have f1046 : cw_F (cw_sf hu1 0 2 (.int x1039)) 0 10 2 (.int x1039) := cw_sf_same f1041
      refine cw_n aj_d19 rfl rfl ?_
      refine cw_g (i := 0) (v := .ref (52 + 30)) htb.1 aj_d19 rfl rfl (by decide) f1043 ?_
      refine cw_g (i := 30) (v := .int x1036) htb.1 aj_d19 rfl rfl (by decide) f1044 ?_
      refine cw_z (tgt := 96) aj_d19 rfl rfl (fun q1047 => ?_) (fun q1047 => ?_)
      · have q1047 : x1036.toInt ≠ (0 : Int) := aw_t_ne (a := x1036.toInt) (b := (0 : Int)) rfl rfl q1047
        refine cw_n aj_d19 rfl rfl ?_
        refine cw_g (i := 0) (v := .ref (52 + 30)) htb.1 aj_d19 rfl rfl (by decide) f1043 ?_
        refine cw_g (i := 30) (v := .int x1036) htb.1 aj_d19 rfl rfl (by decide) f1044 ?_
        refine cw_Wr aj_d19 rfl rfl hT1040 ?_ ?_
        · exact (cw_I_eq ((cw_o_sf f1041 (by decide)).trans rfl) Pu1.1)
        · exact cw_full _
      · have q1047 : x1036.toInt = (0 : Int) := aw_t_ne (a := x1036.toInt) (b := (0 : Int)) rfl rfl q1047
        refine cw_n aj_d19 rfl rfl ?_
        obtain ⟨v1048, f1048, g1048⟩ := cw_tyF (i := 0) (t := 62) (c := 10) (k := 3) (y := (.inr (some ([59], false)))) hT1040 (cw_s0 hBu1 rfl) rfl rfl rfl
        obtain ⟨i1048, rfl, q1048⟩ := cw_gr g1048 (by decide)
        refine cw_g (i := 0) (v := .ref (52 + i1048)) htb.1 aj_d19 rfl rfl (by decide) f1048 ?_
        refine cw_n aj_d19 rfl rfl ?_
        show cw_W _ _ _ _ _ _ _ _ _ _ 79 [(1, .ref (52 + i1048)), (0, .ref (52 + 0))] []
        refine cw_n aj_d19 rfl rfl ?_
        refine cw_n aj_d19 rfl rfl ?_
        refine cw_g (i := 0) (v := .ref (52 + i1034)) htb.1 aj_d19 rfl rfl (by decide) f1042 ?_
        refine cw_p (i := 0) (t := 62) (c := 10) (k := 3) (v := .ref (52 + i1034)) (y := (.inr (some ([59], false)))) htb aj_d19 rfl rfl hT1040 (cw_s0 hBu1 rfl) rfl rfl rfl (cw_gR qxu1 (by decide) (by decide)) (by decide) rfl rfl (fun hT1049 => ?_)
        have f1050 : cw_F (cw_sf (cw_sf hu1 0 2 (.int x1039)) 0 3 (.ref (52 + i1034))) 0 10 4 (.ref (52 + i1034)) := cw_sf_ne f1042 (Or.inr (by decide))
        have f1051 : cw_F (cw_sf (cw_sf hu1 0 2 (.int x1039)) 0 3 (.ref (52 + i1034))) 0 10 6 (.ref (52 + 30)) := cw_sf_ne f1043 (Or.inr (by decide))
        have f1052 : cw_F (cw_sf (cw_sf hu1 0 2 (.int x1039)) 0 3 (.ref (52 + i1034))) 30 4 5 (.int x1036) := cw_sf_ne f1044 (Or.inr (by decide))
        have f1053 : cw_F (cw_sf (cw_sf hu1 0 2 (.int x1039)) 0 3 (.ref (52 + i1034))) 30 4 6 (.int x1039) := cw_sf_ne f1045 (Or.inr (by decide))
        have f1054 : cw_F (cw_sf (cw_sf hu1 0 2 (.int x1039)) 0 3 (.ref (52 + i1034))) 0 10 2 (.int x1039) := cw_sf_ne f1046 (Or.inr (by decide))
        have f1055 : cw_F (cw_sf (cw_sf hu1 0 2 (.int x1039)) 0 3 (.ref (52 + i1034))) 0 10 3 (.ref (52 + i1034)) := cw_sf_same f1048
        have I87 := cw_I_cA (T := ak_C0) (w := .ref (52 + i1034)) rfl rfl hT1040 (cw_I_eq ((cw_o_sf f1041 (by decide)).trans rfl) Pu1.1) f1048
        refine cw_n aj_d19 rfl rfl ?_
        refine cw_n aj_d19 rfl rfl ?_
        refine cw_p (i := 0) (t := 62) (c := 10) (k := 4) (v := .ref (52 + i1048)) (y := (.inr (some ([59], false)))) htb aj_d19 rfl rfl hT1049 (cw_s0 hBu1 rfl) rfl rfl rfl (cw_gR q1048 (by decide) (by decide)) (by decide) rfl rfl (fun hT1056 => ?_)
        have f1057 : cw_F (cw_sf (cw_sf (cw_sf hu1 0 2 (.int x1039)) 0 3 (.ref (52 + i1034))) 0 4 (.ref (52 + i1048))) 0 10 6 (.ref (52 + 30)) := cw_sf_ne f1051 (Or.inr (by decide))
        have f1058 : cw_F (cw_sf (cw_sf (cw_sf hu1 0 2 (.int x1039)) 0 3 (.ref (52 + i1034))) 0 4 (.ref (52 + i1048))) 30 4 5 (.int x1036) := cw_sf_ne f1052 (Or.inr (by decide))
        have f1059 : cw_F (cw_sf (cw_sf (cw_sf hu1 0 2 (.int x1039)) 0 3 (.ref (52 + i1034))) 0 4 (.ref (52 + i1048))) 30 4 6 (.int x1039) := cw_sf_ne f1053 (Or.inr (by decide))
        have f1060 : cw_F (cw_sf (cw_sf (cw_sf hu1 0 2 (.int x1039)) 0 3 (.ref (52 + i1034))) 0 4 (.ref (52 + i1048))) 0 10 2 (.int x1039) := cw_sf_ne f1054 (Or.inr (by decide))
        have f1061 : cw_F (cw_sf (cw_sf (cw_sf hu1 0 2 (.int x1039)) 0 3 (.ref (52 + i1034))) 0 4 (.ref (52 + i1048))) 0 10 3 (.ref (52 + i1034)) := cw_sf_ne f1055 (Or.inr (by decide))
        have f1062 : cw_F (cw_sf (cw_sf (cw_sf hu1 0 2 (.int x1039)) 0 3 (.ref (52 + i1034))) 0 4 (.ref (52 + i1048))) 0 10 4 (.ref (52 + i1048)) := cw_sf_same f1050
        have I92 := cw_I_cA (T := ak_C0) (w := .ref (52 + i1048)) rfl rfl hT1049 I87 f1050
        refine cw_n aj_d19 rfl rfl ?_
        refine cw_k0 (i := 0) (t := 62) (con' := ap_c150) aj_d19 htb hT1056 rfl rfl [] rfl rfl (cw_s0 hBu1 rfl) rfl (Nat.le_of_ble_eq_true rfl) ⟨by decide, by decide⟩ (cw_a1 (by omega) (ap_0_150 htb (cw_SP1c _ _ rfl rfl) cw_hK) hT1056 hBu1 rfl ⟨(cw_gR (cw_s0 hBu1 rfl) (by decide) (by decide)), trivial⟩) ?_
        rintro ru1063 h1063 hT1063 ho1063 hRu1063
        have f1064 : cw_F h1063 30 4 5 (.int x1036) := cw_trF ho1063 (by decide) f1058
        have f1065 : cw_F h1063 30 4 6 (.int x1039) := cw_trF ho1063 (by decide) f1059
        have f1066 : cw_F h1063 0 10 3 (.ref (52 + i1034)) := cw_trF ho1063 (by decide) f1061
        have f1067 : cw_F h1063 0 10 4 (.ref (52 + i1048)) := cw_trF ho1063 (by decide) f1062
        obtain rfl := cw_rN hRu1063
        show cw_W _ _ _ _ _ _ _ _ _ _ 96 [(1, .ref (52 + i1048)), (0, .ref (52 + 0))] []
        refine cw_n aj_d19 rfl rfl ?_
        obtain ⟨v1068, f1068, g1068⟩ := cw_tyF (i := 0) (t := 62) (c := 10) (k := 6) (y := (.inr (some ([56], false)))) hT1063 (cw_s0 hBu1 rfl) rfl rfl rfl
        obtain rfl := cw_gu (i := 30) hBu1 g1068 (by decide) (by decide) (by decide)
        refine cw_g (i := 0) (v := .ref (52 + 30)) htb.1 aj_d19 rfl rfl (by decide) f1068 ?_
        refine cw_g (i := 30) (v := .int x1036) htb.1 aj_d19 rfl rfl (by decide) f1064 ?_
        refine cw_Wr aj_d19 rfl rfl hT1063 ?_ ?_
        · exact (cw_I_eq (ho1063.trans rfl) I92)
        · exact cw_full _
    · have q1038 : x1036.toInt = (0 : Int) := aw_t_ne (a := x1036.toInt) (b := (0 : Int)) rfl rfl q1038
      refine cw_n aj_d19 rfl rfl ?_
      refine cw_n aj_d19 rfl rfl ?_
      refine cw_p (i := 0) (t := 62) (c := 10) (k := 2) (v := .int (Int32.ofInt (-1))) (y := (.inl ((-2147483648), 2147483647))) htb aj_d19 rfl rfl hTu1 (cw_s0 hBu1 rfl) rfl rfl rfl (cw_full _) (by decide) rfl rfl (fun hT1069 => ?_)
      obtain ⟨v1070, f1070, g1070⟩ := cw_tyF (i := 0) (t := 62) (c := 10) (k := 2) (y := (.inl ((-2147483648), 2147483647))) hTu1 (cw_s0 hBu1 rfl) rfl rfl rfl
      obtain ⟨x1070, rfl, b1070⟩ := ak_gi g1070
      dsimp only [ak_win] at b1070
      have f1071 : cw_F (cw_sf hu1 0 2 (.int (Int32.ofInt (-1)))) 0 10 4 (.ref (52 + i1034)) := cw_sf_ne s2 (Or.inr (by decide))
      have f1072 : cw_F (cw_sf hu1 0 2 (.int (Int32.ofInt (-1)))) 0 10 6 (.ref (52 + 30)) := cw_sf_ne f1035 (Or.inr (by decide))
      have f1073 : cw_F (cw_sf hu1 0 2 (.int (Int32.ofInt (-1)))) 30 4 5 (.int x1036) := cw_sf_ne f1036 (Or.inr (by decide))
      have f1074 : cw_F (cw_sf hu1 0 2 (.int (Int32.ofInt (-1)))) 0 10 2 (.int (Int32.ofInt (-1))) := cw_sf_same f1070
      refine cw_n aj_d19 rfl rfl ?_
      refine cw_g (i := 0) (v := .ref (52 + 30)) htb.1 aj_d19 rfl rfl (by decide) f1072 ?_
      refine cw_g (i := 30) (v := .int x1036) htb.1 aj_d19 rfl rfl (by decide) f1073 ?_
      refine cw_z (tgt := 96) aj_d19 rfl rfl (fun q1075 => ?_) (fun q1075 => ?_)
      · have q1075 : x1036.toInt ≠ (0 : Int) := aw_t_ne (a := x1036.toInt) (b := (0 : Int)) rfl rfl q1075
        refine cw_n aj_d19 rfl rfl ?_
        refine cw_g (i := 0) (v := .ref (52 + 30)) htb.1 aj_d19 rfl rfl (by decide) f1072 ?_
        refine cw_g (i := 30) (v := .int x1036) htb.1 aj_d19 rfl rfl (by decide) f1073 ?_
        refine cw_Wr aj_d19 rfl rfl hT1069 ?_ ?_
        · exact (cw_I_eq ((cw_o_sf f1070 (by decide)).trans rfl) Pu1.1)
        · exact cw_full _
      · have q1075 : x1036.toInt = (0 : Int) := aw_t_ne (a := x1036.toInt) (b := (0 : Int)) rfl rfl q1075
        refine cw_n aj_d19 rfl rfl ?_
        obtain ⟨v1076, f1076, g1076⟩ := cw_tyF (i := 0) (t := 62) (c := 10) (k := 3) (y := (.inr (some ([59], false)))) hT1069 (cw_s0 hBu1 rfl) rfl rfl rfl
        obtain ⟨i1076, rfl, q1076⟩ := cw_gr g1076 (by decide)
        refine cw_g (i := 0) (v := .ref (52 + i1076)) htb.1 aj_d19 rfl rfl (by decide) f1076 ?_
        refine cw_n aj_d19 rfl rfl ?_
        show cw_W _ _ _ _ _ _ _ _ _ _ 79 [(1, .ref (52 + i1076)), (0, .ref (52 + 0))] []
        refine cw_n aj_d19 rfl rfl ?_
        refine cw_n aj_d19 rfl rfl ?_
        refine cw_g (i := 0) (v := .ref (52 + i1034)) htb.1 aj_d19 rfl rfl (by decide) f1071 ?_
        refine cw_p (i := 0) (t := 62) (c := 10) (k := 3) (v := .ref (52 + i1034)) (y := (.inr (some ([59], false)))) htb aj_d19 rfl rfl hT1069 (cw_s0 hBu1 rfl) rfl rfl rfl (cw_gR qxu1 (by decide) (by decide)) (by decide) rfl rfl (fun hT1077 => ?_)
        have f1078 : cw_F (cw_sf (cw_sf hu1 0 2 (.int (Int32.ofInt (-1)))) 0 3 (.ref (52 + i1034))) 0 10 4 (.ref (52 + i1034)) := cw_sf_ne f1071 (Or.inr (by decide))
        have f1079 : cw_F (cw_sf (cw_sf hu1 0 2 (.int (Int32.ofInt (-1)))) 0 3 (.ref (52 + i1034))) 0 10 6 (.ref (52 + 30)) := cw_sf_ne f1072 (Or.inr (by decide))
        have f1080 : cw_F (cw_sf (cw_sf hu1 0 2 (.int (Int32.ofInt (-1)))) 0 3 (.ref (52 + i1034))) 30 4 5 (.int x1036) := cw_sf_ne f1073 (Or.inr (by decide))
        have f1081 : cw_F (cw_sf (cw_sf hu1 0 2 (.int (Int32.ofInt (-1)))) 0 3 (.ref (52 + i1034))) 0 10 2 (.int (Int32.ofInt (-1))) := cw_sf_ne f1074 (Or.inr (by decide))
        have f1082 : cw_F (cw_sf (cw_sf hu1 0 2 (.int (Int32.ofInt (-1)))) 0 3 (.ref (52 + i1034))) 0 10 3 (.ref (52 + i1034)) := cw_sf_same f1076
        have I87 := cw_I_cA (T := ak_C0) (w := .ref (52 + i1034)) rfl rfl hT1069 (cw_I_eq ((cw_o_sf f1070 (by decide)).trans rfl) Pu1.1) f1076
        refine cw_n aj_d19 rfl rfl ?_
        refine cw_n aj_d19 rfl rfl ?_
        refine cw_p (i := 0) (t := 62) (c := 10) (k := 4) (v := .ref (52 + i1076)) (y := (.inr (some ([59], false)))) htb aj_d19 rfl rfl hT1077 (cw_s0 hBu1 rfl) rfl rfl rfl (cw_gR q1076 (by decide) (by decide)) (by decide) rfl rfl (fun hT1083 => ?_)
        have f1084 : cw_F (cw_sf (cw_sf (cw_sf hu1 0 2 (.int (Int32.ofInt (-1)))) 0 3 (.ref (52 + i1034))) 0 4 (.ref (52 + i1076))) 0 10 6 (.ref (52 + 30)) := cw_sf_ne f1079 (Or.inr (by decide))
        have f1085 : cw_F (cw_sf (cw_sf (cw_sf hu1 0 2 (.int (Int32.ofInt (-1)))) 0 3 (.ref (52 + i1034))) 0 4 (.ref (52 + i1076))) 30 4 5 (.int x1036) := cw_sf_ne f1080 (Or.inr (by decide))
        have f1086 : cw_F (cw_sf (cw_sf (cw_sf hu1 0 2 (.int (Int32.ofInt (-1)))) 0 3 (.ref (52 + i1034))) 0 4 (.ref (52 + i1076))) 0 10 2 (.int (Int32.ofInt (-1))) := cw_sf_ne f1081 (Or.inr (by decide))
        have f1087 : cw_F (cw_sf (cw_sf (cw_sf hu1 0 2 (.int (Int32.ofInt (-1)))) 0 3 (.ref (52 + i1034))) 0 4 (.ref (52 + i1076))) 0 10 3 (.ref (52 + i1034)) := cw_sf_ne f1082 (Or.inr (by decide))
        have f1088 : cw_F (cw_sf (cw_sf (cw_sf hu1 0 2 (.int (Int32.ofInt (-1)))) 0 3 (.ref (52 + i1034))) 0 4 (.ref (52 + i1076))) 0 10 4 (.ref (52 + i1076)) := cw_sf_same f1078
        have I92 := cw_I_cA (T := ak_C0) (w := .ref (52 + i1076)) rfl rfl hT1077 I87 f1078
        refine cw_n aj_d19 rfl rfl ?_
        refine cw_k0 (i := 0) (t := 62) (con' := ap_c150) aj_d19 htb hT1083 rfl rfl [] rfl rfl (cw_s0 hBu1 rfl) rfl (Nat.le_of_ble_eq_true rfl) ⟨by decide, by decide⟩ (cw_a1 (by omega) (ap_0_150 htb (cw_SP1c _ _ rfl rfl) cw_hK) hT1083 hBu1 rfl ⟨(cw_gR (cw_s0 hBu1 rfl) (by decide) (by decide)), trivial⟩) ?_
        rintro ru1089 h1089 hT1089 ho1089 hRu1089
        have f1090 : cw_F h1089 30 4 5 (.int x1036) := cw_trF ho1089 (by decide) f1085
        have f1091 : cw_F h1089 0 10 3 (.ref (52 + i1034)) := cw_trF ho1089 (by decide) f1087
        have f1092 : cw_F h1089 0 10 4 (.ref (52 + i1076)) := cw_trF ho1089 (by decide) f1088
        obtain rfl := cw_rN hRu1089
        show cw_W _ _ _ _ _ _ _ _ _ _ 96 [(1, .ref (52 + i1076)), (0, .ref (52 + 0))] []
        refine cw_n aj_d19 rfl rfl ?_
        obtain ⟨v1093, f1093, g1093⟩ := cw_tyF (i := 0) (t := 62) (c := 10) (k := 6) (y := (.inr (some ([56], false)))) hT1089 (cw_s0 hBu1 rfl) rfl rfl rfl
        obtain rfl := cw_gu (i := 30) hBu1 g1093 (by decide) (by decide) (by decide)
        refine cw_g (i := 0) (v := .ref (52 + 30)) htb.1 aj_d19 rfl rfl (by decide) f1093 ?_
        refine cw_g (i := 30) (v := .int x1036) htb.1 aj_d19 rfl rfl (by decide) f1090 ?_
        refine cw_Wr aj_d19 rfl rfl hT1089 ?_ ?_
        · exact (cw_I_eq (ho1089.trans rfl) I92)
        · exact cw_full _
  · have q1037 : x1036.toInt = (0 : Int) := aw_t_ne (a := x1036.toInt) (b := (0 : Int)) rfl rfl q1037
    refine cw_n aj_d19 rfl rfl ?_
    obtain ⟨v1094, f1094, g1094⟩ := cw_tyF (i := 0) (t := 62) (c := 10) (k := 9) (y := (.inr (some ([61], false)))) hTu1 (cw_s0 hBu1 rfl) rfl rfl rfl
    obtain rfl := cw_gu (i := 43) hBu1 g1094 (by decide) (by decide) (by decide)
    refine cw_g (i := 0) (v := .ref (52 + 43)) htb.1 aj_d19 rfl rfl (by decide) f1094 ?_
    refine cw_n aj_d19 rfl rfl ?_
    refine cw_g (i := 0) (v := .ref (52 + i1034)) htb.1 aj_d19 rfl rfl (by decide) s2 ?_
    obtain ⟨n9, f9, nt9, g9, hn9, a31, a34, f49, Z9, G9⟩ := cw_PU_0 Pu1 f1036 (by omega)
    refine cw_k (i := 43) (con' := cw_nW 97 none) aj_d19 htb hTu1 rfl rfl [_] rfl rfl (cw_cls hTu1 (cw_s0 hBu1 rfl) rfl) (Nat.le_of_ble_eq_true rfl) ⟨by decide, by decide⟩ (cw_work htb hTu1 Pu1.1 (by omega) hx qxu1 hn9 a31 a34 f49 Z9 G9) ?_
    rintro u2 ru2 hu2 hTu2 Pu2 hRu2 Eu2
    obtain rfl := cw_rN hRu2
    obtain ⟨Su2, eSu2⟩ : ∃ z, z = Su1 ++ u2 := ⟨_, rfl⟩
    rw [← eSu2] at Pu2 hTu2 ⊢
    have hBu2 := Pu2.2.1
    have s3 : cw_F hu2 0 10 4 (.ref (52 + i1034)) := cw_EvF Eu2 (by decide) s2
    have qxu2 : Su2[i1034]? = some 59 := by
      rw [eSu2]
      exact cw_sapp qxu1
    show cw_W _ _ _ _ _ _ _ _ _ _ 39 [(0, .ref (52 + 0))] []
    refine cw_n aj_d19 rfl rfl ?_
    refine cw_n aj_d19 rfl rfl ?_
    obtain ⟨v1095, f1095, g1095⟩ := cw_tyF (i := 0) (t := 62) (c := 10) (k := 6) (y := (.inr (some ([56], false)))) hTu2 (cw_s0 hBu2 rfl) rfl rfl rfl
    obtain rfl := cw_gu (i := 30) hBu2 g1095 (by decide) (by decide) (by decide)
    refine cw_g (i := 0) (v := .ref (52 + 30)) htb.1 aj_d19 rfl rfl (by decide) f1095 ?_
    obtain ⟨v1096, f1096, g1096⟩ := cw_tyF (i := 30) (t := 56) (c := 4) (k := 5) (y := (.inl ((-2147483648), 2147483647))) hTu2 (cw_s0 hBu2 rfl) rfl rfl rfl
    obtain ⟨x1096, rfl, b1096⟩ := ak_gi g1096
    dsimp only [ak_win] at b1096
    refine cw_g (i := 30) (v := .int x1096) htb.1 aj_d19 rfl rfl (by decide) f1096 ?_
    refine cw_z (tgt := 54) aj_d19 rfl rfl (fun q1097 => ?_) (fun q1097 => ?_)
    · have q1097 : x1096.toInt ≠ (0 : Int) := aw_t_ne (a := x1096.toInt) (b := (0 : Int)) rfl rfl q1097
      refine cw_n aj_d19 rfl rfl ?_
      refine cw_g (i := 0) (v := .ref (52 + 30)) htb.1 aj_d19 rfl rfl (by decide) f1095 ?_
      obtain ⟨v1098, f1098, g1098⟩ := cw_tyF (i := 30) (t := 56) (c := 4) (k := 6) (y := (.inl ((-2147483648), 2147483647))) hTu2 (cw_s0 hBu2 rfl) rfl rfl rfl
      obtain ⟨x1098, rfl, b1098⟩ := ak_gi g1098
      dsimp only [ak_win] at b1098
      refine cw_g (i := 30) (v := .int x1098) htb.1 aj_d19 rfl rfl (by decide) f1098 ?_
      refine cw_p (i := 0) (t := 62) (c := 10) (k := 2) (v := .int x1098) (y := (.inl ((-2147483648), 2147483647))) htb aj_d19 rfl rfl hTu2 (cw_s0 hBu2 rfl) rfl rfl rfl (cw_full _) (by decide) rfl rfl (fun hT1099 => ?_)
      obtain ⟨v1100, f1100, g1100⟩ := cw_tyF (i := 0) (t := 62) (c := 10) (k := 2) (y := (.inl ((-2147483648), 2147483647))) hTu2 (cw_s0 hBu2 rfl) rfl rfl rfl
      obtain ⟨x1100, rfl, b1100⟩ := ak_gi g1100
      dsimp only [ak_win] at b1100
      have f1101 : cw_F (cw_sf hu2 0 2 (.int x1098)) 0 10 4 (.ref (52 + i1034)) := cw_sf_ne s3 (Or.inr (by decide))
      have f1102 : cw_F (cw_sf hu2 0 2 (.int x1098)) 0 10 6 (.ref (52 + 30)) := cw_sf_ne f1095 (Or.inr (by decide))
      have f1103 : cw_F (cw_sf hu2 0 2 (.int x1098)) 30 4 5 (.int x1096) := cw_sf_ne f1096 (Or.inr (by decide))
      have f1104 : cw_F (cw_sf hu2 0 2 (.int x1098)) 30 4 6 (.int x1098) := cw_sf_ne f1098 (Or.inr (by decide))
      have f1105 : cw_F (cw_sf hu2 0 2 (.int x1098)) 0 10 2 (.int x1098) := cw_sf_same f1100
      refine cw_n aj_d19 rfl rfl ?_
      refine cw_g (i := 0) (v := .ref (52 + 30)) htb.1 aj_d19 rfl rfl (by decide) f1102 ?_
      refine cw_g (i := 30) (v := .int x1096) htb.1 aj_d19 rfl rfl (by decide) f1103 ?_
      refine cw_z (tgt := 96) aj_d19 rfl rfl (fun q1106 => ?_) (fun q1106 => ?_)
      · have q1106 : x1096.toInt ≠ (0 : Int) := aw_t_ne (a := x1096.toInt) (b := (0 : Int)) rfl rfl q1106
        refine cw_n aj_d19 rfl rfl ?_
        refine cw_g (i := 0) (v := .ref (52 + 30)) htb.1 aj_d19 rfl rfl (by decide) f1102 ?_
        refine cw_g (i := 30) (v := .int x1096) htb.1 aj_d19 rfl rfl (by decide) f1103 ?_
        refine cw_Wr aj_d19 rfl rfl hT1099 ?_ ?_
        · exact (cw_I_eq ((cw_o_sf f1100 (by decide)).trans rfl) Pu2.2)
        · exact cw_full _
      · have q1106 : x1096.toInt = (0 : Int) := aw_t_ne (a := x1096.toInt) (b := (0 : Int)) rfl rfl q1106
        refine cw_n aj_d19 rfl rfl ?_
        obtain ⟨v1107, f1107, g1107⟩ := cw_tyF (i := 0) (t := 62) (c := 10) (k := 3) (y := (.inr (some ([59], false)))) hT1099 (cw_s0 hBu2 rfl) rfl rfl rfl
        obtain ⟨i1107, rfl, q1107⟩ := cw_gr g1107 (by decide)
        refine cw_g (i := 0) (v := .ref (52 + i1107)) htb.1 aj_d19 rfl rfl (by decide) f1107 ?_
        refine cw_n aj_d19 rfl rfl ?_
        show cw_W _ _ _ _ _ _ _ _ _ _ 79 [(1, .ref (52 + i1107)), (0, .ref (52 + 0))] []
        refine cw_n aj_d19 rfl rfl ?_
        refine cw_n aj_d19 rfl rfl ?_
        refine cw_g (i := 0) (v := .ref (52 + i1034)) htb.1 aj_d19 rfl rfl (by decide) f1101 ?_
        refine cw_p (i := 0) (t := 62) (c := 10) (k := 3) (v := .ref (52 + i1034)) (y := (.inr (some ([59], false)))) htb aj_d19 rfl rfl hT1099 (cw_s0 hBu2 rfl) rfl rfl rfl (cw_gR qxu2 (by decide) (by decide)) (by decide) rfl rfl (fun hT1108 => ?_)
        have f1109 : cw_F (cw_sf (cw_sf hu2 0 2 (.int x1098)) 0 3 (.ref (52 + i1034))) 0 10 4 (.ref (52 + i1034)) := cw_sf_ne f1101 (Or.inr (by decide))
        have f1110 : cw_F (cw_sf (cw_sf hu2 0 2 (.int x1098)) 0 3 (.ref (52 + i1034))) 0 10 6 (.ref (52 + 30)) := cw_sf_ne f1102 (Or.inr (by decide))
        have f1111 : cw_F (cw_sf (cw_sf hu2 0 2 (.int x1098)) 0 3 (.ref (52 + i1034))) 30 4 5 (.int x1096) := cw_sf_ne f1103 (Or.inr (by decide))
        have f1112 : cw_F (cw_sf (cw_sf hu2 0 2 (.int x1098)) 0 3 (.ref (52 + i1034))) 30 4 6 (.int x1098) := cw_sf_ne f1104 (Or.inr (by decide))
        have f1113 : cw_F (cw_sf (cw_sf hu2 0 2 (.int x1098)) 0 3 (.ref (52 + i1034))) 0 10 2 (.int x1098) := cw_sf_ne f1105 (Or.inr (by decide))
        have f1114 : cw_F (cw_sf (cw_sf hu2 0 2 (.int x1098)) 0 3 (.ref (52 + i1034))) 0 10 3 (.ref (52 + i1034)) := cw_sf_same f1107
        have I87 := cw_I_cA (T := ak_C0) (w := .ref (52 + i1034)) rfl rfl hT1099 (cw_I_eq ((cw_o_sf f1100 (by decide)).trans rfl) Pu2.2) f1107
        refine cw_n aj_d19 rfl rfl ?_
        refine cw_n aj_d19 rfl rfl ?_
        refine cw_p (i := 0) (t := 62) (c := 10) (k := 4) (v := .ref (52 + i1107)) (y := (.inr (some ([59], false)))) htb aj_d19 rfl rfl hT1108 (cw_s0 hBu2 rfl) rfl rfl rfl (cw_gR q1107 (by decide) (by decide)) (by decide) rfl rfl (fun hT1115 => ?_)
        have f1116 : cw_F (cw_sf (cw_sf (cw_sf hu2 0 2 (.int x1098)) 0 3 (.ref (52 + i1034))) 0 4 (.ref (52 + i1107))) 0 10 6 (.ref (52 + 30)) := cw_sf_ne f1110 (Or.inr (by decide))
        have f1117 : cw_F (cw_sf (cw_sf (cw_sf hu2 0 2 (.int x1098)) 0 3 (.ref (52 + i1034))) 0 4 (.ref (52 + i1107))) 30 4 5 (.int x1096) := cw_sf_ne f1111 (Or.inr (by decide))
        have f1118 : cw_F (cw_sf (cw_sf (cw_sf hu2 0 2 (.int x1098)) 0 3 (.ref (52 + i1034))) 0 4 (.ref (52 + i1107))) 30 4 6 (.int x1098) := cw_sf_ne f1112 (Or.inr (by decide))
        have f1119 : cw_F (cw_sf (cw_sf (cw_sf hu2 0 2 (.int x1098)) 0 3 (.ref (52 + i1034))) 0 4 (.ref (52 + i1107))) 0 10 2 (.int x1098) := cw_sf_ne f1113 (Or.inr (by decide))
        have f1120 : cw_F (cw_sf (cw_sf (cw_sf hu2 0 2 (.int x1098)) 0 3 (.ref (52 + i1034))) 0 4 (.ref (52 + i1107))) 0 10 3 (.ref (52 + i1034)) := cw_sf_ne f1114 (Or.inr (by decide))
        have f1121 : cw_F (cw_sf (cw_sf (cw_sf hu2 0 2 (.int x1098)) 0 3 (.ref (52 + i1034))) 0 4 (.ref (52 + i1107))) 0 10 4 (.ref (52 + i1107)) := cw_sf_same f1109
        have I92 := cw_I_cA (T := ak_C0) (w := .ref (52 + i1107)) rfl rfl hT1108 I87 f1109
        refine cw_n aj_d19 rfl rfl ?_
        refine cw_k0 (i := 0) (t := 62) (con' := ap_c150) aj_d19 htb hT1115 rfl rfl [] rfl rfl (cw_s0 hBu2 rfl) rfl (Nat.le_of_ble_eq_true rfl) ⟨by decide, by decide⟩ (cw_a1 (by omega) (ap_0_150 htb (cw_SP1c _ _ rfl rfl) cw_hK) hT1115 hBu2 rfl ⟨(cw_gR (cw_s0 hBu2 rfl) (by decide) (by decide)), trivial⟩) ?_
        rintro ru1122 h1122 hT1122 ho1122 hRu1122
        have f1123 : cw_F h1122 30 4 5 (.int x1096) := cw_trF ho1122 (by decide) f1117
        have f1124 : cw_F h1122 30 4 6 (.int x1098) := cw_trF ho1122 (by decide) f1118
        have f1125 : cw_F h1122 0 10 3 (.ref (52 + i1034)) := cw_trF ho1122 (by decide) f1120
        have f1126 : cw_F h1122 0 10 4 (.ref (52 + i1107)) := cw_trF ho1122 (by decide) f1121
        obtain rfl := cw_rN hRu1122
        show cw_W _ _ _ _ _ _ _ _ _ _ 96 [(1, .ref (52 + i1107)), (0, .ref (52 + 0))] []
        refine cw_n aj_d19 rfl rfl ?_
        obtain ⟨v1127, f1127, g1127⟩ := cw_tyF (i := 0) (t := 62) (c := 10) (k := 6) (y := (.inr (some ([56], false)))) hT1122 (cw_s0 hBu2 rfl) rfl rfl rfl
        obtain rfl := cw_gu (i := 30) hBu2 g1127 (by decide) (by decide) (by decide)
        refine cw_g (i := 0) (v := .ref (52 + 30)) htb.1 aj_d19 rfl rfl (by decide) f1127 ?_
        refine cw_g (i := 30) (v := .int x1096) htb.1 aj_d19 rfl rfl (by decide) f1123 ?_
        refine cw_Wr aj_d19 rfl rfl hT1122 ?_ ?_
        · exact (cw_I_eq (ho1122.trans rfl) I92)
        · exact cw_full _
    · have q1097 : x1096.toInt = (0 : Int) := aw_t_ne (a := x1096.toInt) (b := (0 : Int)) rfl rfl q1097
      refine cw_n aj_d19 rfl rfl ?_
      refine cw_n aj_d19 rfl rfl ?_
      refine cw_p (i := 0) (t := 62) (c := 10) (k := 2) (v := .int (Int32.ofInt (-1))) (y := (.inl ((-2147483648), 2147483647))) htb aj_d19 rfl rfl hTu2 (cw_s0 hBu2 rfl) rfl rfl rfl (cw_full _) (by decide) rfl rfl (fun hT1128 => ?_)
      obtain ⟨v1129, f1129, g1129⟩ := cw_tyF (i := 0) (t := 62) (c := 10) (k := 2) (y := (.inl ((-2147483648), 2147483647))) hTu2 (cw_s0 hBu2 rfl) rfl rfl rfl
      obtain ⟨x1129, rfl, b1129⟩ := ak_gi g1129
      dsimp only [ak_win] at b1129
      have f1130 : cw_F (cw_sf hu2 0 2 (.int (Int32.ofInt (-1)))) 0 10 4 (.ref (52 + i1034)) := cw_sf_ne s3 (Or.inr (by decide))
      have f1131 : cw_F (cw_sf hu2 0 2 (.int (Int32.ofInt (-1)))) 0 10 6 (.ref (52 + 30)) := cw_sf_ne f1095 (Or.inr (by decide))
      have f1132 : cw_F (cw_sf hu2 0 2 (.int (Int32.ofInt (-1)))) 30 4 5 (.int x1096) := cw_sf_ne f1096 (Or.inr (by decide))
      have f1133 : cw_F (cw_sf hu2 0 2 (.int (Int32.ofInt (-1)))) 0 10 2 (.int (Int32.ofInt (-1))) := cw_sf_same f1129
      refine cw_n aj_d19 rfl rfl ?_
      refine cw_g (i := 0) (v := .ref (52 + 30)) htb.1 aj_d19 rfl rfl (by decide) f1131 ?_
      refine cw_g (i := 30) (v := .int x1096) htb.1 aj_d19 rfl rfl (by decide) f1132 ?_
      refine cw_z (tgt := 96) aj_d19 rfl rfl (fun q1134 => ?_) (fun q1134 => ?_)
      · have q1134 : x1096.toInt ≠ (0 : Int) := aw_t_ne (a := x1096.toInt) (b := (0 : Int)) rfl rfl q1134
        refine cw_n aj_d19 rfl rfl ?_
        refine cw_g (i := 0) (v := .ref (52 + 30)) htb.1 aj_d19 rfl rfl (by decide) f1131 ?_
        refine cw_g (i := 30) (v := .int x1096) htb.1 aj_d19 rfl rfl (by decide) f1132 ?_
        refine cw_Wr aj_d19 rfl rfl hT1128 ?_ ?_
        · exact (cw_I_eq ((cw_o_sf f1129 (by decide)).trans rfl) Pu2.2)
        · exact cw_full _
      · have q1134 : x1096.toInt = (0 : Int) := aw_t_ne (a := x1096.toInt) (b := (0 : Int)) rfl rfl q1134
        refine cw_n aj_d19 rfl rfl ?_
        obtain ⟨v1135, f1135, g1135⟩ := cw_tyF (i := 0) (t := 62) (c := 10) (k := 3) (y := (.inr (some ([59], false)))) hT1128 (cw_s0 hBu2 rfl) rfl rfl rfl
        obtain ⟨i1135, rfl, q1135⟩ := cw_gr g1135 (by decide)
        refine cw_g (i := 0) (v := .ref (52 + i1135)) htb.1 aj_d19 rfl rfl (by decide) f1135 ?_
        refine cw_n aj_d19 rfl rfl ?_
        show cw_W _ _ _ _ _ _ _ _ _ _ 79 [(1, .ref (52 + i1135)), (0, .ref (52 + 0))] []
        refine cw_n aj_d19 rfl rfl ?_
        refine cw_n aj_d19 rfl rfl ?_
        refine cw_g (i := 0) (v := .ref (52 + i1034)) htb.1 aj_d19 rfl rfl (by decide) f1130 ?_
        refine cw_p (i := 0) (t := 62) (c := 10) (k := 3) (v := .ref (52 + i1034)) (y := (.inr (some ([59], false)))) htb aj_d19 rfl rfl hT1128 (cw_s0 hBu2 rfl) rfl rfl rfl (cw_gR qxu2 (by decide) (by decide)) (by decide) rfl rfl (fun hT1136 => ?_)
        have f1137 : cw_F (cw_sf (cw_sf hu2 0 2 (.int (Int32.ofInt (-1)))) 0 3 (.ref (52 + i1034))) 0 10 4 (.ref (52 + i1034)) := cw_sf_ne f1130 (Or.inr (by decide))
        have f1138 : cw_F (cw_sf (cw_sf hu2 0 2 (.int (Int32.ofInt (-1)))) 0 3 (.ref (52 + i1034))) 0 10 6 (.ref (52 + 30)) := cw_sf_ne f1131 (Or.inr (by decide))
        have f1139 : cw_F (cw_sf (cw_sf hu2 0 2 (.int (Int32.ofInt (-1)))) 0 3 (.ref (52 + i1034))) 30 4 5 (.int x1096) := cw_sf_ne f1132 (Or.inr (by decide))
        have f1140 : cw_F (cw_sf (cw_sf hu2 0 2 (.int (Int32.ofInt (-1)))) 0 3 (.ref (52 + i1034))) 0 10 2 (.int (Int32.ofInt (-1))) := cw_sf_ne f1133 (Or.inr (by decide))
        have f1141 : cw_F (cw_sf (cw_sf hu2 0 2 (.int (Int32.ofInt (-1)))) 0 3 (.ref (52 + i1034))) 0 10 3 (.ref (52 + i1034)) := cw_sf_same f1135
        have I87 := cw_I_cA (T := ak_C0) (w := .ref (52 + i1034)) rfl rfl hT1128 (cw_I_eq ((cw_o_sf f1129 (by decide)).trans rfl) Pu2.2) f1135
        refine cw_n aj_d19 rfl rfl ?_
        refine cw_n aj_d19 rfl rfl ?_
        refine cw_p (i := 0) (t := 62) (c := 10) (k := 4) (v := .ref (52 + i1135)) (y := (.inr (some ([59], false)))) htb aj_d19 rfl rfl hT1136 (cw_s0 hBu2 rfl) rfl rfl rfl (cw_gR q1135 (by decide) (by decide)) (by decide) rfl rfl (fun hT1142 => ?_)
        have f1143 : cw_F (cw_sf (cw_sf (cw_sf hu2 0 2 (.int (Int32.ofInt (-1)))) 0 3 (.ref (52 + i1034))) 0 4 (.ref (52 + i1135))) 0 10 6 (.ref (52 + 30)) := cw_sf_ne f1138 (Or.inr (by decide))
        have f1144 : cw_F (cw_sf (cw_sf (cw_sf hu2 0 2 (.int (Int32.ofInt (-1)))) 0 3 (.ref (52 + i1034))) 0 4 (.ref (52 + i1135))) 30 4 5 (.int x1096) := cw_sf_ne f1139 (Or.inr (by decide))
        have f1145 : cw_F (cw_sf (cw_sf (cw_sf hu2 0 2 (.int (Int32.ofInt (-1)))) 0 3 (.ref (52 + i1034))) 0 4 (.ref (52 + i1135))) 0 10 2 (.int (Int32.ofInt (-1))) := cw_sf_ne f1140 (Or.inr (by decide))
        have f1146 : cw_F (cw_sf (cw_sf (cw_sf hu2 0 2 (.int (Int32.ofInt (-1)))) 0 3 (.ref (52 + i1034))) 0 4 (.ref (52 + i1135))) 0 10 3 (.ref (52 + i1034)) := cw_sf_ne f1141 (Or.inr (by decide))
        have f1147 : cw_F (cw_sf (cw_sf (cw_sf hu2 0 2 (.int (Int32.ofInt (-1)))) 0 3 (.ref (52 + i1034))) 0 4 (.ref (52 + i1135))) 0 10 4 (.ref (52 + i1135)) := cw_sf_same f1137
        have I92 := cw_I_cA (T := ak_C0) (w := .ref (52 + i1135)) rfl rfl hT1136 I87 f1137
        refine cw_n aj_d19 rfl rfl ?_
        refine cw_k0 (i := 0) (t := 62) (con' := ap_c150) aj_d19 htb hT1142 rfl rfl [] rfl rfl (cw_s0 hBu2 rfl) rfl (Nat.le_of_ble_eq_true rfl) ⟨by decide, by decide⟩ (cw_a1 (by omega) (ap_0_150 htb (cw_SP1c _ _ rfl rfl) cw_hK) hT1142 hBu2 rfl ⟨(cw_gR (cw_s0 hBu2 rfl) (by decide) (by decide)), trivial⟩) ?_
        rintro ru1148 h1148 hT1148 ho1148 hRu1148
        have f1149 : cw_F h1148 30 4 5 (.int x1096) := cw_trF ho1148 (by decide) f1144
        have f1150 : cw_F h1148 0 10 3 (.ref (52 + i1034)) := cw_trF ho1148 (by decide) f1146
        have f1151 : cw_F h1148 0 10 4 (.ref (52 + i1135)) := cw_trF ho1148 (by decide) f1147
        obtain rfl := cw_rN hRu1148
        show cw_W _ _ _ _ _ _ _ _ _ _ 96 [(1, .ref (52 + i1135)), (0, .ref (52 + 0))] []
        refine cw_n aj_d19 rfl rfl ?_
        obtain ⟨v1152, f1152, g1152⟩ := cw_tyF (i := 0) (t := 62) (c := 10) (k := 6) (y := (.inr (some ([56], false)))) hT1148 (cw_s0 hBu2 rfl) rfl rfl rfl
        obtain rfl := cw_gu (i := 30) hBu2 g1152 (by decide) (by decide) (by decide)
        refine cw_g (i := 0) (v := .ref (52 + 30)) htb.1 aj_d19 rfl rfl (by decide) f1152 ?_
        refine cw_g (i := 30) (v := .int x1096) htb.1 aj_d19 rfl rfl (by decide) f1149 ?_
        refine cw_Wr aj_d19 rfl rfl hT1148 ?_ ?_
        · exact (cw_I_eq (ho1148.trans rfl) I92)
        · exact cw_full _
/-- learn -/
theorem cw_learn1 (htb : ak_tbOK ak_C0 tb) (htG : cw_tbG tb) (hT : ak_Ty ak_C0 s h) (hI : cw_I cw_XB s h) (hd : 9 ≤ d) : cw_K ak_C0 (fun s' _ h' => cw_I cw_XB s' h' ∧ cw_F h' 0 10 1 (.int (Int32.ofInt 0))) tb d ap_c154 [.ref (52 + 0)] s h := by
  obtain ⟨d, rfl⟩ : ∃ e, d = e + 1 := ⟨d - 1, by omega⟩
  have hB := hI.1
  refine cw_m (con := ap_c154) aj_m154_at (Nat.le_of_ble_eq_true rfl) ?_
  show cw_W _ _ _ _ _ _ _ _ _ _ 0 [(0, .ref (52 + 0))] []
  refine cw_n aj_d154 rfl rfl ?_
  refine cw_n aj_d154 rfl rfl ?_
  refine cw_n aj_d154 rfl rfl ?_
  obtain ⟨v3, f3, g3⟩ := cw_tyF (i := 0) (t := 62) (c := 10) (k := 3) (y := (.inr (some ([59], false)))) hT (cw_s0 hB rfl) rfl rfl rfl
  obtain ⟨x, rfl, qx⟩ := cw_gr g3 (by decide)
  refine cw_g (i := 0) (v := .ref (52 + x)) htb.1 aj_d154 rfl rfl (by decide) f3 ?_
  obtain ⟨nt, hZ⟩ := cw_Z_ty hT hB qx
  refine cw_k (i := 0) (con' := cw_nU 20 none) aj_d154 htb hT rfl rfl [_, _] rfl rfl (cw_cls hT (cw_s0 hB rfl) rfl) (Nat.le_of_ble_eq_true rfl) ⟨by decide, by decide⟩ (cw_und1 htb htG hT hI (by omega) (cw_cell59 hB qx) qx (Or.inr rfl) hZ) ?_
  rintro u ru hu hTu ⟨Pu, Fu⟩ hRu Eu
  obtain rfl := cw_rN hRu
  show cw_W _ _ _ _ _ _ _ _ _ _ 11 [(0, .ref (52 + 0))] []
  refine cw_Wx (con' := cw_no ap_c154) ⟨by decide, by decide⟩ rfl (Φ' := fun s' _ h' => cw_I cw_XB s' h') ?_ (fun s' r h' q1 q2 => ⟨q1, cw_Fev q2 (by decide) Fu⟩)
  exact cw_seg htb (cw_I_c rfl rfl) aj_d154 (cs := [(12, ap_c155), (28, ap_c157), (60, ap_c148), (77, ap_c150)]) (List.forall_mem_cons.mpr ⟨ak_CT_mono (k := 8) (by omega) (ap_0_155 htb (cw_I_c rfl rfl) cw_hK (cw_H0 htb htG)), List.forall_mem_cons.mpr ⟨ak_CT_mono (k := 2) (by omega) (ap_0_157 htb (cw_I_c rfl rfl) cw_hK), List.forall_mem_cons.mpr ⟨ak_CT_mono (k := 2) (by omega) (ap_0_148 htb (cw_I_c rfl rfl) cw_hK), List.forall_mem_cons.mpr ⟨ak_CT_mono (k := 2) (by omega) (ap_0_150 htb (cw_I_c rfl rfl) cw_hK), fun _ h => nomatch h⟩⟩⟩⟩) (Φ := fun s' _ h' => cw_I cw_XB s' h') (fun _ _ _ q _ => q) (fs := []) (fl := []) (pts := []) (sps := []) (C := []) (W0 := []) (P0 := 4) (n := 48) (by decide +kernel) (fun _ h => nomatch h) (a := ak_ptAS (((11, [(0, .inr (some ([62], false)))], [], [], [], 0, 0, 0), []) : ak_P2).1) (R := []) (pc := 11) (s ++ u) hu _ _ _ _ hTu Pu.1 ⟨(cw_gLc rfl (cw_gR (cw_s0 Pu.1.1 rfl) (by decide) (by decide)) cw_gLn), trivial, fun _ h => nomatch h⟩ (fun _ h => nomatch h)
/-- ask -/
theorem cw_ask1 (htb : ak_tbOK ak_C0 tb) (htG : cw_tbG tb) (hT : ak_Ty ak_C0 s h) (hI : cw_I cw_XB s h) (hd : 9 ≤ d) : cw_K ak_C0 (fun s' _ h' => cw_I cw_XB s' h' ∧ cw_F h' 0 10 1 (.int (Int32.ofInt 0))) tb d ap_c161 [.ref (52 + 0)] s h := by
  obtain ⟨d, rfl⟩ : ∃ e, d = e + 1 := ⟨d - 1, by omega⟩
  have hB := hI.1
  refine cw_m (con := ap_c161) aj_m161_at (Nat.le_of_ble_eq_true rfl) ?_
  show cw_W _ _ _ _ _ _ _ _ _ _ 0 [(0, .ref (52 + 0))] []
  refine cw_n aj_d161 rfl rfl ?_
  refine cw_n aj_d161 rfl rfl ?_
  refine cw_n aj_d161 rfl rfl ?_
  obtain ⟨v3, f3, g3⟩ := cw_tyF (i := 0) (t := 62) (c := 10) (k := 3) (y := (.inr (some ([59], false)))) hT (cw_s0 hB rfl) rfl rfl rfl
  obtain ⟨x, rfl, qx⟩ := cw_gr g3 (by decide)
  refine cw_g (i := 0) (v := .ref (52 + x)) htb.1 aj_d161 rfl rfl (by decide) f3 ?_
  obtain ⟨nt, hZ⟩ := cw_Z_ty hT hB qx
  refine cw_k (i := 0) (con' := cw_nU 20 none) aj_d161 htb hT rfl rfl [_, _] rfl rfl (cw_cls hT (cw_s0 hB rfl) rfl) (Nat.le_of_ble_eq_true rfl) ⟨by decide, by decide⟩ (cw_und1 htb htG hT hI (by omega) (cw_cell59 hB qx) qx (Or.inr rfl) hZ) ?_
  rintro u ru hu hTu ⟨Pu, Fu⟩ hRu Eu
  obtain rfl := cw_rN hRu
  show cw_W _ _ _ _ _ _ _ _ _ _ 11 [(0, .ref (52 + 0))] []
  refine cw_Wx (con' := cw_no ap_c161) ⟨by decide, by decide⟩ rfl (Φ' := fun s' _ h' => cw_I cw_XB s' h') ?_ (fun s' r h' q1 q2 => ⟨q1, cw_Fev q2 (by decide) Fu⟩)
  exact cw_seg htb (cw_I_c rfl rfl) aj_d161 (cs := [(12, ap_c155), (28, ap_c162), (35, ap_c152), (46, ap_c157)]) (List.forall_mem_cons.mpr ⟨ak_CT_mono (k := 8) (by omega) (ap_0_155 htb (cw_I_c rfl rfl) cw_hK (cw_H0 htb htG)), List.forall_mem_cons.mpr ⟨ak_CT_mono (k := 2) (by omega) (ap_0_162 htb (cw_I_c rfl rfl) cw_hK), List.forall_mem_cons.mpr ⟨ak_CT_mono (k := 1) (by omega) (ap_0_152 htb (cw_I_c rfl rfl) cw_hK), List.forall_mem_cons.mpr ⟨ak_CT_mono (k := 2) (by omega) (ap_0_157 htb (cw_I_c rfl rfl) cw_hK), fun _ h => nomatch h⟩⟩⟩⟩) (Φ := fun s' _ h' => cw_I cw_XB s' h') (fun _ _ _ q _ => q) (fs := []) (fl := []) (pts := []) (sps := []) (C := []) (W0 := []) (P0 := 4) (n := 29) (by decide +kernel) (fun _ h => nomatch h) (a := ak_ptAS (((11, [(0, .inr (some ([62], false)))], [], [], [], 0, 0, 0), []) : ak_P2).1) (R := []) (pc := 11) (s ++ u) hu _ _ _ _ hTu Pu.1 ⟨(cw_gLc rfl (cw_gR (cw_s0 Pu.1.1 rfl) (by decide) (by decide)) cw_gLn), trivial, fun _ h => nomatch h⟩ (fun _ h => nomatch h)
end CWA33B
