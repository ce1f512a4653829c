/-! ROWS JOINED, BY HAND (printed by wip/p2/cwalk/g71.py) -/
section CW71
variable {tb : aj_T} {s : List Nat} {h h' h0 : aj_H} {d : Nat} {i j p : Nat} {b b' b2 : Int} {o o' o2 : cw_O} {v w : Int32}
theorem cw_and7 {v y : Int32} (e : y = v &&& (Int8.ofInt 7).toInt32) : 0 ≤ y.toInt ∧ y.toInt ≤ 7 := by
  subst e
  have e3 : ((Int8.ofInt 7).toInt32).toBitVec = 7#32 := by decide
  have e : (v &&& (Int8.ofInt 7).toInt32).toInt = (v.toBitVec &&& 7#32).toInt := by
    rw [← e3]
    rfl
  rw [e]
  have hle : (v.toBitVec &&& 7#32).toNat ≤ 7 := by
    rw [BitVec.toNat_and]
    exact Nat.and_le_right
  rw [BitVec.toInt_eq_toNat_of_lt (by omega)]
  omega
theorem cw_gLn {s : List Nat} {old : Nat → Int} {lv : aj_V} : ak_gL s old lv [] := fun _ h => nomatch h
theorem cw_gLc {s : List Nat} {old : Nat → Int} {lv : aj_V} {j : Nat} {x : ak_A} {v : Value} {L : ak_L} (h1 : aj_lv lv j = some v) (h2 : ak_gam s x v) (h3 : ak_gL s old lv L) : ak_gL s old lv ((j, x, none) :: L) := by
  intro q hq
  rcases List.mem_cons.mp hq with rfl | hq
  · exact ⟨v, h1, h2, fun z hz => by cases hz⟩
  · exact h3 q hq
theorem cw_gLi {s : List Nat} {lv : aj_V} {j : Nat} {iv : Int × Int} {x : Int32} {L : ak_L} (h1 : aj_lv lv j = some (.int x)) (h2 : iv.1 ≤ x.toInt ∧ x.toInt ≤ iv.2) (h3 : ak_gL s (ak_iv lv) lv L) : ak_gL s (ak_iv lv) lv ((j, .inl iv, some 0) :: L) := by
  intro q hq
  rcases List.mem_cons.mp hq with rfl | hq
  · refine ⟨_, h1, h2, fun z hz => ?_⟩
    cases hz
    refine ⟨x, rfl, ?_⟩
    show x.toInt = ak_iv lv j + 0
    unfold ak_iv
    rw [h1]
    simp
  · exact h3 q hq
/-- no rows -/
theorem cw_clear (htb : ak_tbOK ak_CW tb) (hT : ak_Ty ak_CW s h) (hI : cw_I cw_XB s h) (hd : 2 ≤ d) {x : Int32} (hx : 0 ≤ x.toInt ∧ x.toInt ≤ 20000000) (qi : s[i]? = some 58) : cw_K ak_CW (fun s' r h' => s' = s ∧ r = none ∧ cw_I cw_XB s h' ∧ cw_kp (cw_Ei i) cw_E0 (cw_o h) (cw_o h') ∧ ∃ z : Int32, z.toInt = 0 ∧ cw_F h' i 6 4 (.int z) ∧ cw_F h' i 6 3 (.int x)) tb d (cw_nW 116 none) [.ref (52 + i), .int x] s h := by
  obtain ⟨d, rfl⟩ : ∃ e, d = e + 1 := ⟨d - 1, by omega⟩
  have hB := hI.1
  refine cw_m (con := cw_nW 116 none) aj_m116_at (Nat.le_of_ble_eq_true rfl) ?_
  show cw_W _ _ _ _ _ _ _ _ _ _ 0 [(0, .ref (52 + i)), (1, .int x)] []
  refine cw_n aj_d116 rfl rfl ?_
  refine cw_n aj_d116 rfl rfl ?_
  obtain ⟨v1, f1, g1⟩ := cw_tyF (i := i) (t := 58) (c := 6) (k := 3) (y := (.inl (0, 20000000))) hT qi rfl rfl rfl
  obtain ⟨x1, rfl, b1⟩ := ak_gi g1
  dsimp only [ak_win] at b1
  obtain ⟨v2, f2, g2⟩ := cw_tyF (i := i) (t := 58) (c := 6) (k := 4) (y := (.inl (0, 20000000))) hT qi rfl rfl rfl
  obtain ⟨x2, rfl, b2⟩ := ak_gi g2
  dsimp only [ak_win] at b2
  refine cw_p (i := i) (t := 58) (c := 6) (k := 3) (v := .int x) (y := (.inl (0, 20000000))) htb aj_d116 rfl rfl hT qi rfl rfl rfl (cw_gw (a := x.toInt) rfl (by omega) (by omega)) (by decide) rfl rfl (fun hT3 => ?_)
  have f4 : cw_F (cw_sf h i 3 (.int x)) i 6 4 (.int x2) := cw_sf_ne f2 (Or.inr (by decide))
  have f5 : cw_F (cw_sf h i 3 (.int x)) i 6 3 (.int x) := cw_sf_same f1
  refine cw_n aj_d116 rfl rfl ?_
  refine cw_n aj_d116 rfl rfl ?_
  refine cw_p (i := i) (t := 58) (c := 6) (k := 4) (v := .int (Int32.ofInt 0)) (y := (.inl (0, 20000000))) htb aj_d116 rfl rfl hT3 qi rfl rfl rfl (cw_gw (a := (0 : Int)) rfl (by omega) (by omega)) (by decide) rfl rfl (fun hT6 => ?_)
  have f7 : cw_F (cw_sf (cw_sf h i 3 (.int x)) i 4 (.int (Int32.ofInt 0))) i 6 3 (.int x) := cw_sf_ne f5 (Or.inr (by decide))
  have f8 : cw_F (cw_sf (cw_sf h i 3 (.int x)) i 4 (.int (Int32.ofInt 0))) i 6 4 (.int (Int32.ofInt 0)) := cw_sf_same f4
  refine cw_n aj_d116 rfl rfl ?_
  obtain ⟨v9, f9, g9⟩ := cw_tyF (i := i) (t := 58) (c := 6) (k := 2) (y := (.inr (some ([96], false)))) hT6 qi rfl rfl rfl
  obtain ⟨i9, rfl, q9⟩ := cw_gr g9 (by decide)
  refine cw_g (i := i) (v := .ref (52 + i9)) htb.1 aj_d116 rfl rfl (by decide) f9 ?_
  refine cw_n aj_d116 rfl rfl ?_
  refine cw_ks0 (con' := ap_c117) aj_d116 hT6 rfl rfl rfl [_, _] rfl rfl (Nat.le_of_ble_eq_true rfl) ⟨by decide, by decide⟩ (cw_a1 (by omega) (ap_W_117 htb (cw_SP1c _ _ rfl rfl) cw_hK) hT6 hB rfl ⟨(cw_gR q9 (by decide) (by decide)), (cw_gw (a := (0 : Int)) rfl (by omega) (by omega)), trivial⟩) ?_
  rintro ru10 h10 hT10 ho10 hRu10
  have f11 : cw_F h10 i 6 3 (.int x) := cw_trF ho10 (by decide) f7
  have f12 : cw_F h10 i 6 4 (.int (Int32.ofInt 0)) := cw_trF ho10 (by decide) f8
  obtain rfl := cw_rN hRu10
  show cw_W _ _ _ _ _ _ _ _ _ _ 18 [(0, .ref (52 + i)), (1, .int x)] []
  refine cw_Wr aj_d116 rfl rfl hT10 ?_ ?_
  · exact ⟨rfl, rfl, cw_I_eq (ho10.trans rfl) (cw_I_sfX hT3 (cw_I_sfX hT hI f1 (Or.inl rfl) hx.2) f4 (Or.inr rfl) (by decide)), cw_kp_tr (cw_kp_tr (cw_kp_sf f1 ⟨rfl, rfl⟩) (cw_kp_sf f4 ⟨rfl, rfl⟩)) (cw_kp_eq (ho10.trans rfl)), _, rfl, f12, f11⟩
  · trivial
/-- too many rows -/
theorem cw_fullT (htb : ak_tbOK ak_CW tb) (hT : ak_Ty ak_CW s h) (hI : cw_I cw_XB s h) (hd : 2 ≤ d) {x : Int32} (hx : 0 ≤ x.toInt ∧ x.toInt ≤ 2499) : cw_K ak_CW (fun s' r h' => s' = s ∧ r = none ∧ cw_I cw_XB s h' ∧ cw_kp (fun _ c k => c = 4 ∧ k ≠ 4) cw_E0 (cw_o h) (cw_o h')) tb d (cw_nW 107 none) [.ref (52 + 43), .int x] s h := by
  obtain ⟨d, rfl⟩ : ∃ e, d = e + 1 := ⟨d - 1, by omega⟩
  have hB := hI.1
  refine cw_m (con := cw_nW 107 none) aj_m107_at (Nat.le_of_ble_eq_true rfl) ?_
  show cw_W _ _ _ _ _ _ _ _ _ _ 0 [(0, .ref (52 + 43)), (1, .int x)] []
  refine cw_n aj_d107 rfl rfl ?_
  obtain ⟨v13, f13, g13⟩ := cw_tyF (i := 43) (t := 61) (c := 9) (k := 1) (y := (.inr (some ([56], false)))) hT (cw_s0 hB rfl) rfl rfl rfl
  obtain rfl := cw_gu (i := 30) hB g13 (by decide) (by decide) (by decide)
  refine cw_g (i := 43) (v := .ref (52 + 30)) htb.1 aj_d107 rfl rfl (by decide) f13 ?_
  refine cw_n aj_d107 rfl rfl ?_
  refine cw_n aj_d107 rfl rfl ?_
  obtain ⟨v14, f14, g14⟩ := cw_tyF (i := 43) (t := 61) (c := 9) (k := 0) (y := (.inr (some ([60], false)))) hT (cw_s0 hB rfl) rfl rfl rfl
  obtain rfl := cw_gu (i := 26) hB g14 (by decide) (by decide) (by decide)
  refine cw_g (i := 43) (v := .ref (52 + 26)) htb.1 aj_d107 rfl rfl (by decide) f14 ?_
  refine cw_n aj_d107 rfl rfl ?_
  refine cw_g (i := 43) (v := .ref (52 + 30)) htb.1 aj_d107 rfl rfl (by decide) f13 ?_
  refine cw_n aj_d107 rfl rfl ?_
  refine cw_k0 (i := 30) (t := 56) (con' := ap_c72) aj_d107 htb hT rfl rfl [_] rfl rfl (cw_s0 hB rfl) rfl (Nat.le_of_ble_eq_true rfl) ⟨by decide, by decide⟩ (cw_a1 (by omega) (ap_W_72 htb (cw_SP1c _ _ rfl rfl) cw_hK) hT hB rfl ⟨(cw_gR (cw_s0 hB rfl) (by decide) (by decide)), (cw_gw (a := x.toInt) rfl (by omega) (by omega)), trivial⟩) ?_
  rintro ru15 h15 hT15 ho15 hRu15
  obtain ⟨x16, rfl, bx16⟩ := cw_rI hRu15
  show cw_W _ _ _ _ _ _ _ _ _ _ 18 [(0, .ref (52 + 43)), (1, .int x)] [.int x16, .ref (52 + 26), .int (Int8.ofInt 6).toInt32, .ref (52 + 30)]
  refine cw_k0 (i := 26) (t := 60) (con' := ap_c43) aj_d107 htb hT15 rfl rfl [_] rfl rfl (cw_s0 hB rfl) rfl (Nat.le_of_ble_eq_true rfl) ⟨by decide, by decide⟩ (cw_a1 (by omega) (ap_W_43 htb (cw_SP1c _ _ rfl rfl) cw_hK) hT15 hB rfl ⟨(cw_gR (cw_s0 hB rfl) (by decide) (by decide)), (cw_full _), trivial⟩) ?_
  rintro ru17 h17 hT17 ho17 hRu17
  obtain ⟨x18, rfl, bx18⟩ := cw_rI hRu17
  show cw_W _ _ _ _ _ _ _ _ _ _ 21 [(0, .ref (52 + 43)), (1, .int x)] [.int x18, .int (Int8.ofInt 6).toInt32, .ref (52 + 30)]
  obtain ⟨v19, f19, g19⟩ := cw_tyF (i := 30) (t := 56) (c := 4) (k := 5) (y := (.inl ((-2147483648), 2147483647))) hT17 (cw_s0 hB rfl) rfl rfl rfl
  obtain ⟨x19, rfl, b19⟩ := ak_gi g19
  dsimp only [ak_win] at b19
  obtain ⟨v20, f20, g20⟩ := cw_tyF (i := 30) (t := 56) (c := 4) (k := 6) (y := (.inl ((-2147483648), 2147483647))) hT17 (cw_s0 hB rfl) rfl rfl rfl
  obtain ⟨x20, rfl, b20⟩ := ak_gi g20
  dsimp only [ak_win] at b20
  refine cw_k0 (i := 30) (t := 56) (con' := ap_c44) aj_d107 htb hT17 rfl rfl [_, _] rfl rfl (cw_s0 hB rfl) rfl (Nat.le_of_ble_eq_true rfl) ⟨by decide, by decide⟩ (cw_failW htb hT17 hB (by omega) (Int8.ofInt 6).toInt32 x18) ?_
  rintro rf hf hTf ⟨rfl, qf⟩ hRf
  have If := cw_failI f19 f20 (by decide) qf (cw_I_eq (ho17.trans (ho15.trans rfl)) hI)
  have kf : cw_kp (fun _ c k => c = 4 ∧ k ≠ 4) cw_E0 (cw_o h) (cw_o hf) := by
    rcases qf with rfl | rfl
    · exact cw_kp_eq (ho17.trans (ho15.trans rfl))
    · exact cw_kp_tr (cw_kp_eq (ho17.trans (ho15.trans rfl))) (cw_kp_tr (cw_kp_sf f19 ⟨rfl, by decide⟩) (cw_kp_sf (cw_sf_ne f20 (Or.inr (by decide))) ⟨rfl, by decide⟩))
  show cw_W _ _ _ _ _ _ _ _ _ _ 24 [(0, .ref (52 + 43)), (1, .int x)] []
  refine cw_Wr aj_d107 rfl rfl hTf ?_ ?_
  · exact ⟨rfl, rfl, If, kf⟩
  · trivial
theorem cw_nc_l {d : Nat} (htb : ak_tbOK ak_CW tb) (hB : cw_B s) (qj : s[j]? = some 58) (fw : cw_F h j 6 3 (.int w)) (hw : 0 ≤ w.toInt ∧ w.toInt ≤ 20000000) {a m : Int32} : ∀ (n : Nat) {lv : aj_V} {kc ks : Nat} {x3 x4 : Int32} (hT : ak_Ty ak_CW s h) (hl0 : aj_lv lv 0 = some (.ref (52 + j))) (hl1 : aj_lv lv 1 = some (.int a)) (hl2 : aj_lv lv 2 = some (.int m)) (hl3 : aj_lv lv 3 = some (.int x3)) (hl4 : aj_lv lv 4 = some (.int x4)) (h34 : 0 ≤ x3.toInt ∧ x3.toInt ≤ x4.toInt ∧ x3.toInt ≤ w.toInt) (h8 : 8 ≤ a.toInt → x3.toInt = 0) (hn : 20000000 - x4.toInt ≤ n), cw_W ak_CW (fun s' r h' => s' = s ∧ h' = h ∧ ∃ x : Int32, r = some (.int x) ∧ 0 ≤ x.toInt ∧ x.toInt ≤ w.toInt ∧ (8 ≤ a.toInt → x.toInt = 0)) tb d aj_m119 (cw_nW 119 (some (.inl (0, 20000000)))) s h kc ks 5 lv [] := by
  intro n
  induction n with
  | zero =>
    intro lv kc ks x3 x4 hT hl0 hl1 hl2 hl3 hl4 h34 h8 hn
    refine cw_l0 aj_d119 rfl rfl hl4 ?_
    refine cw_l2 aj_d119 rfl rfl hl0 ?_
    refine cw_g (i := j) (v := .int w) htb.1 aj_d119 rfl rfl (by decide) fw ?_
    refine cw_c (tgt := 41) aj_d119 rfl rfl (fun q21 => ?_) (fun q21 => ?_)
    · have q21 : x4.toInt ≥ w.toInt := aw_t_ge (a := x4.toInt) (b := w.toInt) rfl rfl q21
      refine cw_l0 aj_d119 rfl rfl hl3 ?_
      refine cw_Wr aj_d119 rfl rfl hT ?_ ?_
      · exact ⟨rfl, rfl, _, rfl, by omega, by omega, h8⟩
      · exact cw_gw (s := s) (a := x3.toInt) rfl (by omega) (by omega)
    · have q21 : x4.toInt < w.toInt := aw_t_ge (a := x4.toInt) (b := w.toInt) rfl rfl q21
      exfalso
      omega
  | succ n ih =>
    intro lv kc ks x3 x4 hT hl0 hl1 hl2 hl3 hl4 h34 h8 hn
    refine cw_l0 aj_d119 rfl rfl hl4 ?_
    refine cw_l2 aj_d119 rfl rfl hl0 ?_
    refine cw_g (i := j) (v := .int w) htb.1 aj_d119 rfl rfl (by decide) fw ?_
    refine cw_c (tgt := 41) aj_d119 rfl rfl (fun q22 => ?_) (fun q22 => ?_)
    · have q22 : x4.toInt ≥ w.toInt := aw_t_ge (a := x4.toInt) (b := w.toInt) rfl rfl q22
      refine cw_l0 aj_d119 rfl rfl hl3 ?_
      refine cw_Wr aj_d119 rfl rfl hT ?_ ?_
      · exact ⟨rfl, rfl, _, rfl, by omega, by omega, h8⟩
      · exact cw_gw (s := s) (a := x3.toInt) rfl (by omega) (by omega)
    · have q22 : x4.toInt < w.toInt := aw_t_ge (a := x4.toInt) (b := w.toInt) rfl rfl q22
      refine cw_l0 aj_d119 rfl rfl hl3 ?_
      refine cw_l0 aj_d119 rfl rfl hl2 ?_
      refine cw_n aj_d119 rfl rfl ?_
      refine cw_l0 aj_d119 rfl rfl hl4 ?_
      refine cw_mul aj_d119 rfl (a := (3 : Int)) (b := x4.toInt) rfl rfl (by omega) (by omega) (fun x23 ex23 => ?_)
      refine cw_any aj_d119 rfl rfl (fun x24 ex24 => ?_)
      refine cw_n aj_d119 rfl rfl ?_
      refine cw_any aj_d119 rfl rfl (fun x25 ex25 => ?_)
      have b7 := cw_and7 ex25
      refine cw_l0 aj_d119 rfl rfl hl1 ?_
      refine cw_c (tgt := 32) aj_d119 rfl rfl (fun q26 => ?_) (fun q26 => ?_)
      · have q26 : x25.toInt < a.toInt := aw_t_lt (a := x25.toInt) (b := a.toInt) rfl rfl q26
        refine cw_n aj_d119 rfl rfl ?_
        refine cw_add aj_d119 rfl (a := x3.toInt) (b := (0 : Int)) rfl rfl (by omega) (by omega) (fun x27 ex27 => ?_)
        refine cw_t0 (j := 3) aj_d119 rfl (by decide) rfl ?_
        obtain ⟨lv28, elv28⟩ : ∃ l, l = aj_set1 lv 3 (.int x27) := ⟨_, rfl⟩
        rw [← elv28]
        have hlv28_0 : aj_lv lv28 0 = some (.ref (52 + j)) := cw_e1 elv28 hl0 (by decide) (Or.inl (by decide))
        have hlv28_1 : aj_lv lv28 1 = some (.int a) := cw_e1 elv28 hl1 (by decide) (Or.inl (by decide))
        have hlv28_2 : aj_lv lv28 2 = some (.int m) := cw_e1 elv28 hl2 (by decide) (Or.inr rfl)
        have hlv28_4 : aj_lv lv28 4 = some (.int x4) := cw_e1 elv28 hl4 (by decide) (Or.inl (by decide))
        have hlv28_3 : aj_lv lv28 3 = some (.int x27) := by rw [elv28]; exact ak_set1_eq _ _ _
        show cw_W _ _ _ _ _ _ _ _ _ _ 35 lv28 []
        refine cw_inc aj_d119 rfl hlv28_4 (a := x4.toInt) rfl (by omega) (by omega) (by decide) (by decide) (fun x29 ex29 => ?_)
        obtain ⟨lv30, elv30⟩ : ∃ l, l = aj_set1 lv28 4 (.int x29) := ⟨_, rfl⟩
        rw [← elv30]
        have hlv30_3 : aj_lv lv30 3 = some (.int x27) := cw_e1 elv30 hlv28_3 (by decide) (Or.inr rfl)
        have hlv30_0 : aj_lv lv30 0 = some (.ref (52 + j)) := cw_e1 elv30 hlv28_0 (by decide) (Or.inl (by decide))
        have hlv30_1 : aj_lv lv30 1 = some (.int a) := cw_e1 elv30 hlv28_1 (by decide) (Or.inl (by decide))
        have hlv30_2 : aj_lv lv30 2 = some (.int m) := cw_e1 elv30 hlv28_2 (by decide) (Or.inl (by decide))
        have hlv30_4 : aj_lv lv30 4 = some (.int x29) := by rw [elv30]; exact ak_set1_eq _ _ _
        show cw_W _ _ _ _ _ _ _ _ _ _ 38 lv30 []
        refine cw_n aj_d119 rfl rfl ?_
        exact ih hT hlv30_0 hlv30_1 hlv30_2 hlv30_3 hlv30_4 (by omega) (by omega) (by omega)
      · have q26 : x25.toInt ≥ a.toInt := aw_t_lt (a := x25.toInt) (b := a.toInt) rfl rfl q26
        refine cw_n aj_d119 rfl rfl ?_
        refine cw_n aj_d119 rfl rfl ?_
        refine cw_add aj_d119 rfl (a := x3.toInt) (b := (1 : Int)) rfl rfl (by omega) (by omega) (fun x31 ex31 => ?_)
        refine cw_t0 (j := 3) aj_d119 rfl (by decide) rfl ?_
        obtain ⟨lv32, elv32⟩ : ∃ l, l = aj_set1 lv 3 (.int x31) := ⟨_, rfl⟩
        rw [← elv32]
        have hlv32_0 : aj_lv lv32 0 = some (.ref (52 + j)) := cw_e1 elv32 hl0 (by decide) (Or.inl (by decide))
        have hlv32_1 : aj_lv lv32 1 = some (.int a) := cw_e1 elv32 hl1 (by decide) (Or.inl (by decide))
        have hlv32_2 : aj_lv lv32 2 = some (.int m) := cw_e1 elv32 hl2 (by decide) (Or.inr rfl)
        have hlv32_4 : aj_lv lv32 4 = some (.int x4) := cw_e1 elv32 hl4 (by decide) (Or.inl (by decide))
        have hlv32_3 : aj_lv lv32 3 = some (.int x31) := by rw [elv32]; exact ak_set1_eq _ _ _
        show cw_W _ _ _ _ _ _ _ _ _ _ 35 lv32 []
        refine cw_inc aj_d119 rfl hlv32_4 (a := x4.toInt) rfl (by omega) (by omega) (by decide) (by decide) (fun x33 ex33 => ?_)
        obtain ⟨lv34, elv34⟩ : ∃ l, l = aj_set1 lv32 4 (.int x33) := ⟨_, rfl⟩
        rw [← elv34]
        have hlv34_3 : aj_lv lv34 3 = some (.int x31) := cw_e1 elv34 hlv32_3 (by decide) (Or.inr rfl)
        have hlv34_0 : aj_lv lv34 0 = some (.ref (52 + j)) := cw_e1 elv34 hlv32_0 (by decide) (Or.inl (by decide))
        have hlv34_1 : aj_lv lv34 1 = some (.int a) := cw_e1 elv34 hlv32_1 (by decide) (Or.inl (by decide))
        have hlv34_2 : aj_lv lv34 2 = some (.int m) := cw_e1 elv34 hlv32_2 (by decide) (Or.inl (by decide))
        have hlv34_4 : aj_lv lv34 4 = some (.int x33) := by rw [elv34]; exact ak_set1_eq _ _ _
        show cw_W _ _ _ _ _ _ _ _ _ _ 38 lv34 []
        refine cw_n aj_d119 rfl rfl ?_
        exact ih hT hlv34_0 hlv34_1 hlv34_2 hlv34_3 hlv34_4 (by omega) (by omega) (by omega)
/-- how many COLUMNS are new -/
theorem cw_newC (htb : ak_tbOK ak_CW tb) (hT : ak_Ty ak_CW s h) (hI : cw_I cw_XB s h) (hd : 1 ≤ d) {a m : Int32} (qj : s[j]? = some 58) (fw : cw_F h j 6 3 (.int w)) (hw : 0 ≤ w.toInt ∧ w.toInt ≤ 20000000) : cw_K ak_CW (fun s' r h' => s' = s ∧ h' = h ∧ ∃ x : Int32, r = some (.int x) ∧ 0 ≤ x.toInt ∧ x.toInt ≤ w.toInt ∧ (8 ≤ a.toInt → x.toInt = 0)) tb d (cw_nW 119 (some (.inl (0, 20000000)))) [.ref (52 + j), .int a, .int m] s h := by
  obtain ⟨d, rfl⟩ : ∃ e, d = e + 1 := ⟨d - 1, by omega⟩
  have hB := hI.1
  refine cw_m (con := cw_nW 119 (some (.inl (0, 20000000)))) aj_m119_at (Nat.le_of_ble_eq_true rfl) ?_
  show cw_W _ _ _ _ _ _ _ _ _ _ 0 [(0, .ref (52 + j)), (1, .int a), (2, .int m)] []
  obtain ⟨lv, elv⟩ : ∃ l : aj_V, l = [(0, .ref (52 + j)), (1, .int a), (2, .int m)] := ⟨_, rfl⟩
  rw [← elv]
  have hl0 : aj_lv lv 0 = some (.ref (52 + j)) := by rw [elv]; rfl
  have hl1 : aj_lv lv 1 = some (.int a) := by rw [elv]; rfl
  have hl2 : aj_lv lv 2 = some (.int m) := by rw [elv]; rfl
  refine cw_n aj_d119 rfl rfl ?_
  refine cw_t0 (j := 3) aj_d119 rfl (by decide) rfl ?_
  obtain ⟨lv35, elv35⟩ : ∃ l, l = aj_set1 lv 3 (.int (Int32.ofInt 0)) := ⟨_, rfl⟩
  rw [← elv35]
  have hlv35_0 : aj_lv lv35 0 = some (.ref (52 + j)) := cw_e1 elv35 hl0 (by decide) (Or.inl (by decide))
  have hlv35_1 : aj_lv lv35 1 = some (.int a) := cw_e1 elv35 hl1 (by decide) (Or.inl (by decide))
  have hlv35_2 : aj_lv lv35 2 = some (.int m) := cw_e1 elv35 hl2 (by decide) (Or.inr rfl)
  have hlv35_3 : aj_lv lv35 3 = some (.int (Int32.ofInt 0)) := by rw [elv35]; exact ak_set1_eq _ _ _
  show cw_W _ _ _ _ _ _ _ _ _ _ 2 lv35 []
  refine cw_n aj_d119 rfl rfl ?_
  refine cw_t0 (j := 4) aj_d119 rfl (by decide) rfl ?_
  obtain ⟨lv36, elv36⟩ : ∃ l, l = aj_set1 lv35 4 (.int (Int32.ofInt 0)) := ⟨_, rfl⟩
  rw [← elv36]
  have hlv36_3 : aj_lv lv36 3 = some (.int (Int32.ofInt 0)) := cw_e1 elv36 hlv35_3 (by decide) (Or.inr rfl)
  have hlv36_0 : aj_lv lv36 0 = some (.ref (52 + j)) := cw_e1 elv36 hlv35_0 (by decide) (Or.inl (by decide))
  have hlv36_1 : aj_lv lv36 1 = some (.int a) := cw_e1 elv36 hlv35_1 (by decide) (Or.inl (by decide))
  have hlv36_2 : aj_lv lv36 2 = some (.int m) := cw_e1 elv36 hlv35_2 (by decide) (Or.inl (by decide))
  have hlv36_4 : aj_lv lv36 4 = some (.int (Int32.ofInt 0)) := by rw [elv36]; exact ak_set1_eq _ _ _
  show cw_W _ _ _ _ _ _ _ _ _ _ 5 lv36 []
  exact cw_nc_l htb hB qj fw hw 20000000 hT hlv36_0 hlv36_1 hlv36_2 hlv36_3 hlv36_4 ⟨by decide, by decide, hw.1⟩ (fun _ => by decide) (by decide)
/-- a row of two -/
theorem cw_joinRow (htb : ak_tbOK ak_CW tb) (hT : ak_Ty ak_CW s h) (hI : cw_I cw_XB s h) (hd : 4 ≤ d) {row oth m : Int32} (qi : s[i]? = some 58) (qj : s[j]? = some 58) (qp : s[p]? = some 58) (fs : cw_F h 43 9 5 (.ref (52 + p))) (fp : cw_F h p 6 4 (.int v)) (hv : 0 ≤ v.toInt ∧ v.toInt ≤ 19999999) (hr : 0 ≤ row.toInt ∧ row.toInt ≤ 19999999) (ho : 0 ≤ oth.toInt ∧ oth.toInt ≤ 19999999) : cw_K ak_CW (fun s' r h' => s' = s ∧ r = none ∧ cw_I cw_XB s h' ∧ cw_kp (cw_Eh p) cw_E0 (cw_o h) (cw_o h') ∧ ∃ y : Int32, y.toInt = v.toInt + 1 ∧ cw_F h' p 6 4 (.int y)) tb d (cw_nW 118 none) [.ref (52 + 43), .ref (52 + i), .int row, .ref (52 + j), .int oth, .int m] s h := by
  obtain ⟨d, rfl⟩ : ∃ e, d = e + 1 := ⟨d - 1, by omega⟩
  have hB := hI.1
  refine cw_m (con := cw_nW 118 none) aj_m118_at (Nat.le_of_ble_eq_true rfl) ?_
  show cw_W _ _ _ _ _ _ _ _ _ _ 0 [(0, .ref (52 + 43)), (1, .ref (52 + i)), (2, .int row), (3, .ref (52 + j)), (4, .int oth), (5, .int m)] []
  refine cw_n aj_d118 rfl rfl ?_
  refine cw_g (i := 43) (v := .ref (52 + p)) htb.1 aj_d118 rfl rfl (by decide) fs ?_
  refine cw_n aj_d118 rfl rfl ?_
  refine cw_n aj_d118 rfl rfl ?_
  refine cw_k0 (i := p) (t := 58) (con' := cw_nW 102 (some (.inl (0, 20000000)))) aj_d118 htb hT rfl rfl [_, _] rfl rfl qp rfl (Nat.le_of_ble_eq_true rfl) ⟨by decide, by decide⟩ (cw_addFrom htb hT hI (by omega) (row := row) qp qi fp (by omega) (by omega)) ?_
  rintro raf37 haf37 hTaf37 ⟨Iaf37, kaf37, rfl, yaf37, eyaf37, faf37⟩ hRaf37
  have f38 : cw_F haf37 43 9 5 (.ref (52 + p)) := cw_kp_F kaf37 (by rintro ⟨-, z, z2⟩; revert z z2; decide) (by decide) fs
  show cw_W _ _ _ _ _ _ _ _ _ _ 9 [(0, .ref (52 + 43)), (1, .ref (52 + i)), (2, .int row), (3, .ref (52 + j)), (4, .int oth), (5, .int m)] [.int v]
  refine cw_n aj_d118 rfl rfl ?_
  show cw_W _ _ _ _ _ _ _ _ _ _ 11 [(6, .int v), (0, .ref (52 + 43)), (1, .ref (52 + i)), (2, .int row), (3, .ref (52 + j)), (4, .int oth), (5, .int m)] []
  refine cw_n aj_d118 rfl rfl ?_
  obtain ⟨v39, f39, g39⟩ := cw_tyF (i := i) (t := 58) (c := 6) (k := 3) (y := (.inl (0, 20000000))) hTaf37 qi rfl rfl rfl
  obtain ⟨x39, rfl, b39⟩ := ak_gi g39
  dsimp only [ak_win] at b39
  refine cw_g (i := i) (v := .int x39) htb.1 aj_d118 rfl rfl (by decide) f39 ?_
  refine cw_n aj_d118 rfl rfl ?_
  show cw_W _ _ _ _ _ _ _ _ _ _ 17 [(7, .int x39), (6, .int v), (0, .ref (52 + 43)), (1, .ref (52 + i)), (2, .int row), (3, .ref (52 + j)), (4, .int oth), (5, .int m)] []
  refine cw_n aj_d118 rfl rfl ?_
  refine cw_n aj_d118 rfl rfl ?_
  show cw_W _ _ _ _ _ _ _ _ _ _ 20 [(8, .int (Int32.ofInt 0)), (7, .int x39), (6, .int v), (0, .ref (52 + 43)), (1, .ref (52 + i)), (2, .int row), (3, .ref (52 + j)), (4, .int oth), (5, .int m)] []
  refine cw_Wmono (fun s' r h' hh => ?_) (cw_seg htb (cw_SP1c s haf37 rfl rfl) aj_d118 (cs := [(59, ap_c103), (67, ap_c104), (70, ap_c105), (89, ap_c112), (124, ap_c113), (138, ap_c109)]) (List.forall_mem_cons.mpr ⟨ak_CT_mono (k := 1) (by omega) (ap_W_103 htb (cw_SP1c _ _ rfl rfl) cw_hK), List.forall_mem_cons.mpr ⟨ak_CT_mono (k := 1) (by omega) (ap_W_104 htb (cw_SP1c _ _ rfl rfl) cw_hK), List.forall_mem_cons.mpr ⟨ak_CT_mono (k := 1) (by omega) (ap_W_105 htb (cw_SP1c _ _ rfl rfl) cw_hK), List.forall_mem_cons.mpr ⟨ak_CT_mono (k := 2) (by omega) (ap_W_112 htb (cw_SP1c _ _ rfl rfl) cw_hK), List.forall_mem_cons.mpr ⟨ak_CT_mono (k := 3) (by omega) (ap_W_113 htb (cw_SP1c _ _ rfl rfl) cw_hK), List.forall_mem_cons.mpr ⟨ak_CT_mono (k := 1) (by omega) (ap_W_109 htb (cw_SP1c _ _ rfl rfl) cw_hK), fun _ h => nomatch h⟩⟩⟩⟩⟩⟩) (Φ := fun s' r h' => (cw_B s' ∧ (s' = s ∧ cw_o h' = cw_o haf37)) ∧ r = none) (fun _ _ _ q z => ⟨q, cw_rN z⟩) (fs := []) (fl := []) (pts := [((141, [(0, .inr (some ([61], false))), (1, .inr (some ([58], false))), (2, .inl (0, 19999999)), (3, .inr (some ([58], false))), (4, .inl (0, 19999999)), (5, .inl ((-2147483648), 2147483647)), (6, .inl (0, 20000000)), (7, .inl ((-2147483648), 2147483647)), (8, .inl (0, 1023))], [], [((3, 3), (0, 20000000))], [0, 6], 103079215129, 0, 0), []), ((20, [(0, .inr (some ([61], false))), (1, .inr (some ([58], false))), (2, .inl (0, 19999999)), (3, .inr (some ([58], false))), (4, .inl (0, 19999999)), (5, .inl ((-2147483648), 2147483647)), (6, .inl (0, 20000000)), (7, .inl ((-2147483648), 2147483647)), (8, .inl (0, 20000000))], [], [], [6, 0], 154618822695, 0, 0), []), ((76, [(0, .inr (some ([61], false))), (1, .inr (some ([58], false))), (2, .inl (0, 19999999)), (3, .inr (some ([58], false))), (4, .inl (0, 19999999)), (5, .inl ((-2147483648), 2147483647)), (6, .inl (0, 20000000)), (7, .inl ((-2147483648), 2147483647)), (8, .inl (0, 19999999))], [], [((1, 3), (0, 20000000)), ((3, 3), (1, 20000000))], [6, 0], 154618822692, 0, 0), []), ((99, [(0, .inr (some ([61], false))), (1, .inr (some ([58], false))), (2, .inl (0, 19999999)), (3, .inr (some ([58], false))), (4, .inl (0, 19999999)), (5, .inl ((-2147483648), 2147483647)), (6, .inl (0, 20000000)), (7, .inl ((-2147483648), 2147483647)), (8, .inl (0, 1024))], [], [((3, 3), (0, 20000000))], [0, 6], 103079215130, 0, 0), [])]) (sps := []) (C := [(8, true, 2147483647), (8, true, 2147483647)]) (W0 := [0, 0]) (P0 := 412316860512) (n := 79) (by decide +kernel) (fun _ h => nomatch h) (a := ak_ptAS (((20, [(0, .inr (some ([61], false))), (1, .inr (some ([58], false))), (2, .inl (0, 19999999)), (3, .inr (some ([58], false))), (4, .inl (0, 19999999)), (5, .inl ((-2147483648), 2147483647)), (6, .inl (0, 20000000)), (7, .inl ((-2147483648), 2147483647)), (8, .inl (0, 20000000))], [], [], [6, 0], 154618822695, 0, 0), []) : ak_P2).1) (R := []) (pc := 20) s haf37 _ _ _ _ hTaf37 ⟨hB, rfl, rfl⟩ ⟨(cw_gLc rfl (cw_gR (cw_s0 hB rfl) (by decide) (by decide)) (cw_gLc rfl (cw_gR qi (by decide) (by decide)) (cw_gLi rfl ⟨by omega, by omega⟩ (cw_gLc rfl (cw_gR qj (by decide) (by decide)) (cw_gLi rfl ⟨by omega, by omega⟩ (cw_gLi rfl (cw_full _) (cw_gLi rfl ⟨by omega, by omega⟩ (cw_gLi rfl (cw_full _) (cw_gLi rfl ⟨by decide, by decide⟩ cw_gLn))))))))), trivial, fun _ h => nomatch h⟩ (fun _ h => nomatch h))
  obtain ⟨⟨-, rfl, ho⟩, rfl⟩ := hh
  exact ⟨rfl, rfl, cw_I_eq ho Iaf37, cw_kp_tr kaf37 (cw_kp_eq ho), _, eyaf37, cw_trF ho (by decide) faf37⟩
end CW71
