/-! SINK, MAYBES (printed by wip/p2/ref/r30.py) -/
section ARA30
variable {tb : aj_T} {s : List Nat} {h : aj_H} {S S' S1 S2 : aj_S} {d n : Nat} {g g' : aw_gh} {F A : List Nat} {G : aj_S → Prop}
theorem ar_pk {r w : Int32} (hr : 0 ≤ r.toInt ∧ r.toInt ≤ 29) (hw : 0 ≤ w.toInt ∧ w.toInt ≤ 1023) : 0 ≤ ((r <<< ((Int8.ofInt 10).toInt32 &&& 31)) ||| w).toInt ∧ ((r <<< ((Int8.ofInt 10).toInt32 &&& 31)) ||| w).toInt ≤ 30719 := by
  obtain ⟨e1, e2⟩ := ak_nn_of hr.1
  obtain ⟨e3, e4⟩ := ak_nn_of hw.1
  have q : (((Int8.ofInt 10).toInt32 &&& 31).toBitVec.smod 32).toNat = 10 := by decide +kernel
  have e5 : (r <<< ((Int8.ofInt 10).toInt32 &&& 31)).toBitVec = r.toBitVec <<< 10 := by
    show r.toBitVec <<< (((Int8.ofInt 10).toInt32 &&& 31).toBitVec.smod 32).toNat = _
    rw [q]
  have e6 : ((r <<< ((Int8.ofInt 10).toInt32 &&& 31)) ||| w).toBitVec.toNat = r.toBitVec.toNat * 1024 + w.toBitVec.toNat := by
    rw [Int32.toBitVec_or, BitVec.toNat_or, e5, BitVec.toNat_shiftLeft, Nat.shiftLeft_eq]
    have e7 : r.toBitVec.toNat * 2 ^ 10 % 2 ^ 32 = 2 ^ 10 * r.toBitVec.toNat := by
      rw [Nat.mod_eq_of_lt (by omega)]
      omega
    rw [e7, ← Nat.two_pow_add_eq_or_of_lt (by omega)]
    omega
  have e8 := ak_nat_of e6 (by omega)
  omega
theorem ar_sink (hU : aw_U tb s h) (hT : ak_Ty ak_TN s (aj_mh h S)) (hG : aw_B S) (hd : 6 ≤ d) {x y z : Int32} (hx : 0 ≤ x.toInt ∧ x.toInt ≤ 19) (hy : 0 ≤ y.toInt ∧ y.toInt < z.toInt) (hz : z.toInt ≤ 30720) : aw_K tb h d 295 [.ref 117, .int x, .int y, .int z] S (fun r S' => ak_Ty ak_TN s (aj_mh h S') ∧ aw_fr [] [31] S S' ∧ r = none ∧ aw_B S') := by
  obtain ⟨d, rfl⟩ : ∃ e, d = e + 1 := ⟨d - 1, by omega⟩
  have hs : aw_sT s := aw_hy_sT hU.2.2
  refine aw_m aj_m295_at rfl (Nat.le_of_ble_eq_true rfl) ?_
  show aw_W _ _ _ _ 0 [(0, .ref 117), (1, .int x), (2, .int y), (3, .int z)] [] _ _
  obtain ⟨lv1, elv1⟩ : ∃ l : aj_V, l = [(0, .ref 117), (1, .int x), (2, .int y), (3, .int z)] := ⟨_, rfl⟩
  rw [← elv1]
  have hlv1_0 : aj_lv lv1 0 = some (.ref 117) := by rw [elv1]; rfl
  have hlv1_1 : aj_lv lv1 1 = some (.int x) := by rw [elv1]; rfl
  have hlv1_2 : aj_lv lv1 2 = some (.int y) := by rw [elv1]; rfl
  have hlv1_3 : aj_lv lv1 3 = some (.int z) := by rw [elv1]; rfl
  have hI2 : aw_I s h (aw_sm S) S := ⟨hT, aw_sm_rf⟩
  have fr3 : aw_fr [] [31] S S := aw_fr_rf
  refine aw_l0 aj_d295 rfl rfl hlv1_2 ?_
  refine aw_t0 (j := 4) aj_d295 rfl (by decide) rfl ?_
  obtain ⟨lv4, elv4⟩ : ∃ l, l = aj_set1 lv1 4 (.int y) := ⟨_, rfl⟩
  rw [← elv4]
  have hlv4_0 : aj_lv lv4 0 = some (.ref 117) := cw_e1 elv4 hlv1_0 (by decide) (Or.inl (by decide))
  have hlv4_1 : aj_lv lv4 1 = some (.int x) := cw_e1 elv4 hlv1_1 (by decide) (Or.inl (by decide))
  have hlv4_3 : aj_lv lv4 3 = some (.int z) := cw_e1 elv4 hlv1_3 (by decide) (Or.inr rfl)
  have hlv4_4 : aj_lv lv4 4 = some (.int y) := by rw [elv4]; exact ak_set1_eq _ _ _
  show aw_W _ _ _ _ 3 lv4 [] _ _
  refine aw_l2 aj_d295 rfl rfl hlv4_0 ?_
  refine aw_g hU.1 aj_d295 rfl rfl (by decide) (v := .ref 148) rfl ?_
  refine aw_l0 aj_d295 rfl rfl hlv4_4 ?_
  refine aw_ld (k := 31) hU.1 aj_d295 (Or.inl ⟨rfl, rfl⟩) rfl (by decide) (by decide) rfl (a := y.toInt) rfl (by omega) (by omega) (fun x5 ex5 => ?_)
  have bx5 : 0 ≤ x5.toInt ∧ x5.toInt ≤ 30719 := by
    rw [ex5]
    exact aw_bd_a hs (hI2).1 (k := 31) (by decide) (by decide) rfl (by decide) rfl (by omega)
  refine aw_t0 (j := 5) aj_d295 rfl (by decide) rfl ?_
  obtain ⟨lv6, elv6⟩ : ∃ l, l = aj_set1 lv4 5 (.int x5) := ⟨_, rfl⟩
  rw [← elv6]
  have hlv6_0 : aj_lv lv6 0 = some (.ref 117) := cw_e1 elv6 hlv4_0 (by decide) (Or.inl (by decide))
  have hlv6_1 : aj_lv lv6 1 = some (.int x) := cw_e1 elv6 hlv4_1 (by decide) (Or.inl (by decide))
  have hlv6_3 : aj_lv lv6 3 = some (.int z) := cw_e1 elv6 hlv4_3 (by decide) (Or.inl (by decide))
  have hlv6_4 : aj_lv lv6 4 = some (.int y) := cw_e1 elv6 hlv4_4 (by decide) (Or.inr rfl)
  have hlv6_5 : aj_lv lv6 5 = some (.int x5) := by rw [elv6]; exact ak_set1_eq _ _ _
  show aw_W _ _ _ _ 12 lv6 [] _ _
  have L12_6 : ∀ (N : Nat) (S8 : aj_S) (lv9 : aj_V) (x10 : Int32), (aj_lv lv9 0 = some (.ref 117)) → (aj_lv lv9 1 = some (.int x)) → (aj_lv lv9 3 = some (.int z)) → (aj_lv lv9 4 = some (.int x10)) → (aj_lv lv9 5 = some (.int x5)) → (aw_I s h (aw_B) S8) → (aw_fr [] [31] S S8) → (0 ≤ x10.toInt ∧ x10.toInt ≤ 30719) → (x10.toInt < z.toInt) → (30720 - x10.toInt).toNat < N → aw_W tb h d aj_m295 12 lv9 [] S8 ((fun r S' => ak_Ty ak_TN s (aj_mh h S') ∧ aw_fr [] [31] S S' ∧ r = none ∧ aw_B S')) := by
    intro N
    induction N with
    | zero =>
      intro S8 lv9 x10 hlv9_0 hlv9_1 hlv9_3 hlv9_4 hlv9_5 hI11 fr12 bx10 k12 hm
      omega
    | succ N ihL12_6 =>
      intro S8 lv9 x10 hlv9_0 hlv9_1 hlv9_3 hlv9_4 hlv9_5 hI11 fr12 bx10 k12 hm
      have hI13 : aw_I s h (aw_sm S8) S8 := ⟨hI11.1, aw_sm_rf⟩
      refine aw_n aj_d295 rfl rfl ?_
      refine aw_l0 aj_d295 rfl rfl hlv9_4 ?_
      refine aw_mul aj_d295 rfl (a := (2 : Int)) (b := x10.toInt) rfl rfl (by omega) (by omega) (fun x14 ex14 => ?_)
      refine aw_n aj_d295 rfl rfl ?_
      refine aw_add aj_d295 rfl (a := x14.toInt) (b := (1 : Int)) rfl rfl (by omega) (by omega) (fun x15 ex15 => ?_)
      refine aw_l0 aj_d295 rfl rfl hlv9_3 ?_
      refine aw_c (tgt := 106) aj_d295 rfl rfl (fun q16 => ?_) (fun q16 => ?_)
      · have q16 : x15.toInt ≥ z.toInt := aw_t_ge (a := x15.toInt) (b := z.toInt) rfl rfl q16
        refine aw_l2 aj_d295 rfl rfl hlv9_0 ?_
        refine aw_g hU.1 aj_d295 rfl rfl (by decide) (v := .ref 148) rfl ?_
        refine aw_l0 aj_d295 rfl rfl hlv9_4 ?_
        refine aw_l0 aj_d295 rfl rfl hlv9_5 ?_
        refine aw_st (k := 31) hU.1 aj_d295 (Or.inl ⟨rfl, rfl⟩) rfl (by decide) (by decide) rfl (a := x10.toInt) rfl (by omega) (by omega) ?_
        have hI17 := aw_I_a (aw_UV hU aw_Gs_sm) (k := 31) (j := (x10.toInt).toNat) (v := aj_nar 0 x5) hI13 (by decide) (by decide) (by decide) rfl (by decide) (by decide) rfl (aw_bp (a := x5.toInt) rfl (by omega) (by omega))
        have fr18 := aw_fr_a (k := 31) (j := (x10.toInt).toNat) (v := aj_nar 0 x5) (by decide) fr12
        refine aw_e aj_d295 rfl rfl ?_
        exact ⟨(hI17).1, fr18, rfl, (aw_B_sm hI17.2 hI11.2)⟩
      · have q16 : x15.toInt < z.toInt := aw_t_ge (a := x15.toInt) (b := z.toInt) rfl rfl q16
        refine aw_n aj_d295 rfl rfl ?_
        refine aw_l0 aj_d295 rfl rfl hlv9_4 ?_
        refine aw_mul aj_d295 rfl (a := (2 : Int)) (b := x10.toInt) rfl rfl (by omega) (by omega) (fun x19 ex19 => ?_)
        refine aw_n aj_d295 rfl rfl ?_
        refine aw_add aj_d295 rfl (a := x19.toInt) (b := (1 : Int)) rfl rfl (by omega) (by omega) (fun x20 ex20 => ?_)
        refine aw_t0 (j := 6) aj_d295 rfl (by decide) rfl ?_
        obtain ⟨lv21, elv21⟩ : ∃ l, l = aj_set1 lv9 6 (.int x20) := ⟨_, rfl⟩
        rw [← elv21]
        have hlv21_0 : aj_lv lv21 0 = some (.ref 117) := cw_e1 elv21 hlv9_0 (by decide) (Or.inl (by decide))
        have hlv21_1 : aj_lv lv21 1 = some (.int x) := cw_e1 elv21 hlv9_1 (by decide) (Or.inl (by decide))
        have hlv21_3 : aj_lv lv21 3 = some (.int z) := cw_e1 elv21 hlv9_3 (by decide) (Or.inl (by decide))
        have hlv21_4 : aj_lv lv21 4 = some (.int x10) := cw_e1 elv21 hlv9_4 (by decide) (Or.inl (by decide))
        have hlv21_5 : aj_lv lv21 5 = some (.int x5) := cw_e1 elv21 hlv9_5 (by decide) (Or.inr rfl)
        have hlv21_6 : aj_lv lv21 6 = some (.int x20) := by rw [elv21]; exact ak_set1_eq _ _ _
        show aw_W _ _ _ _ 30 lv21 [] _ _
        refine aw_l0 aj_d295 rfl rfl hlv21_6 ?_
        refine aw_n aj_d295 rfl rfl ?_
        refine aw_add aj_d295 rfl (a := x20.toInt) (b := (1 : Int)) rfl rfl (by omega) (by omega) (fun x22 ex22 => ?_)
        refine aw_l0 aj_d295 rfl rfl hlv21_3 ?_
        refine aw_c (tgt := 65) aj_d295 rfl rfl (fun q23 => ?_) (fun q23 => ?_)
        · have q23 : x22.toInt ≥ z.toInt := aw_t_ge (a := x22.toInt) (b := z.toInt) rfl rfl q23
          refine aw_l2 aj_d295 rfl rfl hlv21_0 ?_
          refine aw_l0 aj_d295 rfl rfl hlv21_1 ?_
          refine aw_l2 aj_d295 rfl rfl hlv21_0 ?_
          refine aw_g hU.1 aj_d295 rfl rfl (by decide) (v := .ref 148) rfl ?_
          refine aw_l0 aj_d295 rfl rfl hlv21_6 ?_
          refine aw_ld (k := 31) hU.1 aj_d295 (Or.inl ⟨rfl, rfl⟩) rfl (by decide) (by decide) rfl (a := x20.toInt) rfl (by omega) (by omega) (fun x24 ex24 => ?_)
          have bx24 : 0 ≤ x24.toInt ∧ x24.toInt ≤ 30719 := by
            rw [ex24]
            exact aw_bd_a hs (hI13).1 (k := 31) (by decide) (by decide) rfl (by decide) rfl (by omega)
          refine aw_l0 aj_d295 rfl rfl hlv21_5 ?_
          have b25 : 0 ≤ (S.1 30).toInt ∧ (S.1 30).toInt ≤ 1001 := aw_bd_f hs (hI2).1 (by decide) rfl
          have c26 : (S8.1 30).toInt = (S.1 30).toInt := (congrArg Int32.toInt (fr12.1 30 (by decide)).1).trans rfl
          have b27 : 0 ≤ (S8.1 30).toInt ∧ (S8.1 30).toInt ≤ 1001 := aw_bd_f hs (hI13).1 (by decide) rfl
          refine aw_k hU.1 aj_d295 rfl rfl [_, _, _] rfl rfl rfl (Nat.le_of_ble_eq_true rfl) (aw_toK hU aw_Gs_B (con := ac_c296) (by omega) (ar_296 hU.2.1 (aw_SPc hU.2.2 aw_Gs_B) aw_kpc (arc_258 hU aw_Gs_B (fun _ q => q.1))) ⟨(hI13).1, hI11.2⟩ ⟨(aw_g117 hU.2.2), (cw_gw (a := x.toInt) rfl (by omega) (by omega)), (cw_gw (a := x24.toInt) rfl (by omega) (by omega)), (cw_gw (a := x5.toInt) rfl (by omega) (by omega)), trivial⟩ (fun e he => nomatch he)) ?_
          rintro r28 S28 ⟨hr28, hJ28, fc28, po28, -⟩
          have hT28 := hJ28.1
          replace fc28 := aw_fr_sub (F' := []) (A' := []) (by decide) (by decide) fc28
          have fr29 := aw_fr_tr fr12 (aw_fr_sub (F := []) (A := []) (by decide) (by decide) fc28)
          have hI30 : aw_I s h (aw_sm S8) S28 := ⟨hT28, aw_sm_tr hI13.2 (aw_fr_sm (by decide) (by decide) (by decide) (F := []) (A := []) fc28)⟩
          obtain ⟨b28, rfl, bb28⟩ := cw_rI hr28
          show aw_W _ _ _ _ 79 lv21 [.int b28] _ _
          refine aw_z (tgt := 85) aj_d295 rfl rfl (fun q31 => ?_) (fun q31 => ?_)
          · have q31 : b28.toInt > (0 : Int) := aw_t_gt (a := b28.toInt) (b := (0 : Int)) rfl rfl q31
            refine aw_l2 aj_d295 rfl rfl hlv21_0 ?_
            refine aw_g hU.1 aj_d295 rfl rfl (by decide) (v := .ref 148) rfl ?_
            refine aw_l0 aj_d295 rfl rfl hlv21_4 ?_
            refine aw_l2 aj_d295 rfl rfl hlv21_0 ?_
            refine aw_g hU.1 aj_d295 rfl rfl (by decide) (v := .ref 148) rfl ?_
            refine aw_l0 aj_d295 rfl rfl hlv21_6 ?_
            refine aw_ld (k := 31) hU.1 aj_d295 (Or.inl ⟨rfl, rfl⟩) rfl (by decide) (by decide) rfl (a := x20.toInt) rfl (by omega) (by omega) (fun x32 ex32 => ?_)
            have bx32 : 0 ≤ x32.toInt ∧ x32.toInt ≤ 30719 := by
              rw [ex32]
              exact aw_bd_a hs (hI30).1 (k := 31) (by decide) (by decide) rfl (by decide) rfl (by omega)
            refine aw_st (k := 31) hU.1 aj_d295 (Or.inl ⟨rfl, rfl⟩) rfl (by decide) (by decide) rfl (a := x10.toInt) rfl (by omega) (by omega) ?_
            have hI33 := aw_I_a (aw_UV hU aw_Gs_sm) (k := 31) (j := (x10.toInt).toNat) (v := aj_nar 0 x32) hI30 (by decide) (by decide) (by decide) rfl (by decide) (by decide) rfl (aw_bp (a := x32.toInt) rfl (by omega) (by omega))
            have fr34 := aw_fr_a (k := 31) (j := (x10.toInt).toNat) (v := aj_nar 0 x32) (by decide) fr29
            refine aw_l0 aj_d295 rfl rfl hlv21_6 ?_
            refine aw_t0 (j := 4) aj_d295 rfl (by decide) rfl ?_
            obtain ⟨lv35, elv35⟩ : ∃ l, l = aj_set1 lv21 4 (.int x20) := ⟨_, rfl⟩
            rw [← elv35]
            have hlv35_0 : aj_lv lv35 0 = some (.ref 117) := cw_e1 elv35 hlv21_0 (by decide) (Or.inl (by decide))
            have hlv35_1 : aj_lv lv35 1 = some (.int x) := cw_e1 elv35 hlv21_1 (by decide) (Or.inl (by decide))
            have hlv35_3 : aj_lv lv35 3 = some (.int z) := cw_e1 elv35 hlv21_3 (by decide) (Or.inr rfl)
            have hlv35_5 : aj_lv lv35 5 = some (.int x5) := cw_e1 elv35 hlv21_5 (by decide) (Or.inl (by decide))
            have hlv35_4 : aj_lv lv35 4 = some (.int x20) := by rw [elv35]; exact ak_set1_eq _ _ _
            show aw_W _ _ _ _ 103 lv35 [] _ _
            refine aw_n aj_d295 rfl rfl ?_
            exact ihL12_6 (aw_wa S28 31 (x10.toInt).toNat (aj_nar 0 x32)) lv35 (x20) hlv35_0 hlv35_1 hlv35_3 hlv35_4 hlv35_5 ⟨(hI33).1, (aw_B_sm hI33.2 hI11.2)⟩ fr34 (by omega) (by omega) (by omega)
          · have q31 : b28.toInt ≤ (0 : Int) := aw_t_gt (a := b28.toInt) (b := (0 : Int)) rfl rfl q31
            refine aw_n aj_d295 rfl rfl ?_
            refine aw_l2 aj_d295 rfl rfl hlv21_0 ?_
            refine aw_g hU.1 aj_d295 rfl rfl (by decide) (v := .ref 148) rfl ?_
            refine aw_l0 aj_d295 rfl rfl hlv21_4 ?_
            refine aw_l0 aj_d295 rfl rfl hlv21_5 ?_
            refine aw_st (k := 31) hU.1 aj_d295 (Or.inl ⟨rfl, rfl⟩) rfl (by decide) (by decide) rfl (a := x10.toInt) rfl (by omega) (by omega) ?_
            have hI36 := aw_I_a (aw_UV hU aw_Gs_sm) (k := 31) (j := (x10.toInt).toNat) (v := aj_nar 0 x5) hI30 (by decide) (by decide) (by decide) rfl (by decide) (by decide) rfl (aw_bp (a := x5.toInt) rfl (by omega) (by omega))
            have fr37 := aw_fr_a (k := 31) (j := (x10.toInt).toNat) (v := aj_nar 0 x5) (by decide) fr29
            refine aw_e aj_d295 rfl rfl ?_
            exact ⟨(hI36).1, fr37, rfl, (aw_B_sm hI36.2 hI11.2)⟩
        · have q23 : x22.toInt < z.toInt := aw_t_ge (a := x22.toInt) (b := z.toInt) rfl rfl q23
          refine aw_l2 aj_d295 rfl rfl hlv21_0 ?_
          refine aw_l0 aj_d295 rfl rfl hlv21_1 ?_
          refine aw_l2 aj_d295 rfl rfl hlv21_0 ?_
          refine aw_g hU.1 aj_d295 rfl rfl (by decide) (v := .ref 148) rfl ?_
          refine aw_l0 aj_d295 rfl rfl hlv21_6 ?_
          refine aw_n aj_d295 rfl rfl ?_
          refine aw_add aj_d295 rfl (a := x20.toInt) (b := (1 : Int)) rfl rfl (by omega) (by omega) (fun x38 ex38 => ?_)
          refine aw_ld (k := 31) hU.1 aj_d295 (Or.inl ⟨rfl, rfl⟩) rfl (by decide) (by decide) rfl (a := x38.toInt) rfl (by omega) (by omega) (fun x39 ex39 => ?_)
          have bx39 : 0 ≤ x39.toInt ∧ x39.toInt ≤ 30719 := by
            rw [ex39]
            exact aw_bd_a hs (hI13).1 (k := 31) (by decide) (by decide) rfl (by decide) rfl (by omega)
          refine aw_l2 aj_d295 rfl rfl hlv21_0 ?_
          refine aw_g hU.1 aj_d295 rfl rfl (by decide) (v := .ref 148) rfl ?_
          refine aw_l0 aj_d295 rfl rfl hlv21_6 ?_
          refine aw_ld (k := 31) hU.1 aj_d295 (Or.inl ⟨rfl, rfl⟩) rfl (by decide) (by decide) rfl (a := x20.toInt) rfl (by omega) (by omega) (fun x40 ex40 => ?_)
          have bx40 : 0 ≤ x40.toInt ∧ x40.toInt ≤ 30719 := by
            rw [ex40]
            exact aw_bd_a hs (hI13).1 (k := 31) (by decide) (by decide) rfl (by decide) rfl (by omega)
          have b41 : 0 ≤ (S.1 30).toInt ∧ (S.1 30).toInt ≤ 1001 := aw_bd_f hs (hI2).1 (by decide) rfl
          have c42 : (S8.1 30).toInt = (S.1 30).toInt := (congrArg Int32.toInt (fr12.1 30 (by decide)).1).trans rfl
          have b43 : 0 ≤ (S8.1 30).toInt ∧ (S8.1 30).toInt ≤ 1001 := aw_bd_f hs (hI13).1 (by decide) rfl
          refine aw_k hU.1 aj_d295 rfl rfl [_, _, _] rfl rfl rfl (Nat.le_of_ble_eq_true rfl) (aw_toK hU aw_Gs_B (con := ac_c296) (by omega) (ar_296 hU.2.1 (aw_SPc hU.2.2 aw_Gs_B) aw_kpc (arc_258 hU aw_Gs_B (fun _ q => q.1))) ⟨(hI13).1, hI11.2⟩ ⟨(aw_g117 hU.2.2), (cw_gw (a := x.toInt) rfl (by omega) (by omega)), (cw_gw (a := x39.toInt) rfl (by omega) (by omega)), (cw_gw (a := x40.toInt) rfl (by omega) (by omega)), trivial⟩ (fun e he => nomatch he)) ?_
          rintro r44 S44 ⟨hr44, hJ44, fc44, po44, -⟩
          have hT44 := hJ44.1
          replace fc44 := aw_fr_sub (F' := []) (A' := []) (by decide) (by decide) fc44
          have fr45 := aw_fr_tr fr12 (aw_fr_sub (F := []) (A := []) (by decide) (by decide) fc44)
          have hI46 : aw_I s h (aw_sm S8) S44 := ⟨hT44, aw_sm_tr hI13.2 (aw_fr_sm (by decide) (by decide) (by decide) (F := []) (A := []) fc44)⟩
          obtain ⟨b44, rfl, bb44⟩ := cw_rI hr44
          show aw_W _ _ _ _ 59 lv21 [.int b44] _ _
          refine aw_z (tgt := 65) aj_d295 rfl rfl (fun q47 => ?_) (fun q47 => ?_)
          · have q47 : b44.toInt ≤ (0 : Int) := aw_t_le (a := b44.toInt) (b := (0 : Int)) rfl rfl q47
            refine aw_l2 aj_d295 rfl rfl hlv21_0 ?_
            refine aw_l0 aj_d295 rfl rfl hlv21_1 ?_
            refine aw_l2 aj_d295 rfl rfl hlv21_0 ?_
            refine aw_g hU.1 aj_d295 rfl rfl (by decide) (v := .ref 148) rfl ?_
            refine aw_l0 aj_d295 rfl rfl hlv21_6 ?_
            refine aw_ld (k := 31) hU.1 aj_d295 (Or.inl ⟨rfl, rfl⟩) rfl (by decide) (by decide) rfl (a := x20.toInt) rfl (by omega) (by omega) (fun x48 ex48 => ?_)
            have bx48 : 0 ≤ x48.toInt ∧ x48.toInt ≤ 30719 := by
              rw [ex48]
              exact aw_bd_a hs (hI46).1 (k := 31) (by decide) (by decide) rfl (by decide) rfl (by omega)
            refine aw_l0 aj_d295 rfl rfl hlv21_5 ?_
            have c49 : (S44.1 30).toInt = (S.1 30).toInt := (congrArg Int32.toInt (fc44.1 30 (by decide)).1).trans c42
            have b50 : 0 ≤ (S44.1 30).toInt ∧ (S44.1 30).toInt ≤ 1001 := aw_bd_f hs (hI46).1 (by decide) rfl
            refine aw_k hU.1 aj_d295 rfl rfl [_, _, _] rfl rfl rfl (Nat.le_of_ble_eq_true rfl) (aw_toK hU aw_Gs_B (con := ac_c296) (by omega) (ar_296 hU.2.1 (aw_SPc hU.2.2 aw_Gs_B) aw_kpc (arc_258 hU aw_Gs_B (fun _ q => q.1))) ⟨(hI46).1, (aw_B_sm hI46.2 hI11.2)⟩ ⟨(aw_g117 hU.2.2), (cw_gw (a := x.toInt) rfl (by omega) (by omega)), (cw_gw (a := x48.toInt) rfl (by omega) (by omega)), (cw_gw (a := x5.toInt) rfl (by omega) (by omega)), trivial⟩ (fun e he => nomatch he)) ?_
            rintro r51 S51 ⟨hr51, hJ51, fc51, po51, -⟩
            have hT51 := hJ51.1
            replace fc51 := aw_fr_sub (F' := []) (A' := []) (by decide) (by decide) fc51
            have fr52 := aw_fr_tr fr45 (aw_fr_sub (F := []) (A := []) (by decide) (by decide) fc51)
            have hI53 : aw_I s h (aw_sm S8) S51 := ⟨hT51, aw_sm_tr hI46.2 (aw_fr_sm (by decide) (by decide) (by decide) (F := []) (A := []) fc51)⟩
            obtain ⟨b51, rfl, bb51⟩ := cw_rI hr51
            show aw_W _ _ _ _ 79 lv21 [.int b51] _ _
            refine aw_z (tgt := 85) aj_d295 rfl rfl (fun q54 => ?_) (fun q54 => ?_)
            · have q54 : b51.toInt > (0 : Int) := aw_t_gt (a := b51.toInt) (b := (0 : Int)) rfl rfl q54
              refine aw_l2 aj_d295 rfl rfl hlv21_0 ?_
              refine aw_g hU.1 aj_d295 rfl rfl (by decide) (v := .ref 148) rfl ?_
              refine aw_l0 aj_d295 rfl rfl hlv21_4 ?_
              refine aw_l2 aj_d295 rfl rfl hlv21_0 ?_
              refine aw_g hU.1 aj_d295 rfl rfl (by decide) (v := .ref 148) rfl ?_
              refine aw_l0 aj_d295 rfl rfl hlv21_6 ?_
              refine aw_ld (k := 31) hU.1 aj_d295 (Or.inl ⟨rfl, rfl⟩) rfl (by decide) (by decide) rfl (a := x20.toInt) rfl (by omega) (by omega) (fun x55 ex55 => ?_)
              have bx55 : 0 ≤ x55.toInt ∧ x55.toInt ≤ 30719 := by
                rw [ex55]
                exact aw_bd_a hs (hI53).1 (k := 31) (by decide) (by decide) rfl (by decide) rfl (by omega)
              refine aw_st (k := 31) hU.1 aj_d295 (Or.inl ⟨rfl, rfl⟩) rfl (by decide) (by decide) rfl (a := x10.toInt) rfl (by omega) (by omega) ?_
              have hI56 := aw_I_a (aw_UV hU aw_Gs_sm) (k := 31) (j := (x10.toInt).toNat) (v := aj_nar 0 x55) hI53 (by decide) (by decide) (by decide) rfl (by decide) (by decide) rfl (aw_bp (a := x55.toInt) rfl (by omega) (by omega))
              have fr57 := aw_fr_a (k := 31) (j := (x10.toInt).toNat) (v := aj_nar 0 x55) (by decide) fr52
              refine aw_l0 aj_d295 rfl rfl hlv21_6 ?_
              refine aw_t0 (j := 4) aj_d295 rfl (by decide) rfl ?_
              obtain ⟨lv58, elv58⟩ : ∃ l, l = aj_set1 lv21 4 (.int x20) := ⟨_, rfl⟩
              rw [← elv58]
              have hlv58_0 : aj_lv lv58 0 = some (.ref 117) := cw_e1 elv58 hlv21_0 (by decide) (Or.inl (by decide))
              have hlv58_1 : aj_lv lv58 1 = some (.int x) := cw_e1 elv58 hlv21_1 (by decide) (Or.inl (by decide))
              have hlv58_3 : aj_lv lv58 3 = some (.int z) := cw_e1 elv58 hlv21_3 (by decide) (Or.inr rfl)
              have hlv58_5 : aj_lv lv58 5 = some (.int x5) := cw_e1 elv58 hlv21_5 (by decide) (Or.inl (by decide))
              have hlv58_4 : aj_lv lv58 4 = some (.int x20) := by rw [elv58]; exact ak_set1_eq _ _ _
              show aw_W _ _ _ _ 103 lv58 [] _ _
              refine aw_n aj_d295 rfl rfl ?_
              exact ihL12_6 (aw_wa S51 31 (x10.toInt).toNat (aj_nar 0 x55)) lv58 (x20) hlv58_0 hlv58_1 hlv58_3 hlv58_4 hlv58_5 ⟨(hI56).1, (aw_B_sm hI56.2 hI11.2)⟩ fr57 (by omega) (by omega) (by omega)
            · have q54 : b51.toInt ≤ (0 : Int) := aw_t_gt (a := b51.toInt) (b := (0 : Int)) rfl rfl q54
              refine aw_n aj_d295 rfl rfl ?_
              refine aw_l2 aj_d295 rfl rfl hlv21_0 ?_
              refine aw_g hU.1 aj_d295 rfl rfl (by decide) (v := .ref 148) rfl ?_
              refine aw_l0 aj_d295 rfl rfl hlv21_4 ?_
              refine aw_l0 aj_d295 rfl rfl hlv21_5 ?_
              refine aw_st (k := 31) hU.1 aj_d295 (Or.inl ⟨rfl, rfl⟩) rfl (by decide) (by decide) rfl (a := x10.toInt) rfl (by omega) (by omega) ?_
              have hI59 := aw_I_a (aw_UV hU aw_Gs_sm) (k := 31) (j := (x10.toInt).toNat) (v := aj_nar 0 x5) hI53 (by decide) (by decide) (by decide) rfl (by decide) (by decide) rfl (aw_bp (a := x5.toInt) rfl (by omega) (by omega))
              have fr60 := aw_fr_a (k := 31) (j := (x10.toInt).toNat) (v := aj_nar 0 x5) (by decide) fr52
              refine aw_e aj_d295 rfl rfl ?_
              exact ⟨(hI59).1, fr60, rfl, (aw_B_sm hI59.2 hI11.2)⟩
          · have q47 : b44.toInt > (0 : Int) := aw_t_le (a := b44.toInt) (b := (0 : Int)) rfl rfl q47
            refine aw_inc aj_d295 rfl hlv21_6 (a := x20.toInt) rfl (by omega) (by omega) (by decide) (by decide) (fun x61 ex61 => ?_)
            obtain ⟨lv62, elv62⟩ : ∃ l, l = aj_set1 lv21 6 (.int x61) := ⟨_, rfl⟩
            rw [← elv62]
            have hlv62_0 : aj_lv lv62 0 = some (.ref 117) := cw_e1 elv62 hlv21_0 (by decide) (Or.inl (by decide))
            have hlv62_1 : aj_lv lv62 1 = some (.int x) := cw_e1 elv62 hlv21_1 (by decide) (Or.inl (by decide))
            have hlv62_3 : aj_lv lv62 3 = some (.int z) := cw_e1 elv62 hlv21_3 (by decide) (Or.inl (by decide))
            have hlv62_4 : aj_lv lv62 4 = some (.int x10) := cw_e1 elv62 hlv21_4 (by decide) (Or.inl (by decide))
            have hlv62_5 : aj_lv lv62 5 = some (.int x5) := cw_e1 elv62 hlv21_5 (by decide) (Or.inr rfl)
            have hlv62_6 : aj_lv lv62 6 = some (.int x61) := by rw [elv62]; exact ak_set1_eq _ _ _
            show aw_W _ _ _ _ 65 lv62 [] _ _
            refine aw_l2 aj_d295 rfl rfl hlv62_0 ?_
            refine aw_l0 aj_d295 rfl rfl hlv62_1 ?_
            refine aw_l2 aj_d295 rfl rfl hlv62_0 ?_
            refine aw_g hU.1 aj_d295 rfl rfl (by decide) (v := .ref 148) rfl ?_
            refine aw_l0 aj_d295 rfl rfl hlv62_6 ?_
            refine aw_ld (k := 31) hU.1 aj_d295 (Or.inl ⟨rfl, rfl⟩) rfl (by decide) (by decide) rfl (a := x61.toInt) rfl (by omega) (by omega) (fun x63 ex63 => ?_)
            have bx63 : 0 ≤ x63.toInt ∧ x63.toInt ≤ 30719 := by
              rw [ex63]
              exact aw_bd_a hs (hI46).1 (k := 31) (by decide) (by decide) rfl (by decide) rfl (by omega)
            refine aw_l0 aj_d295 rfl rfl hlv62_5 ?_
            have c64 : (S44.1 30).toInt = (S.1 30).toInt := (congrArg Int32.toInt (fc44.1 30 (by decide)).1).trans c42
            have b65 : 0 ≤ (S44.1 30).toInt ∧ (S44.1 30).toInt ≤ 1001 := aw_bd_f hs (hI46).1 (by decide) rfl
            refine aw_k hU.1 aj_d295 rfl rfl [_, _, _] rfl rfl rfl (Nat.le_of_ble_eq_true rfl) (aw_toK hU aw_Gs_B (con := ac_c296) (by omega) (ar_296 hU.2.1 (aw_SPc hU.2.2 aw_Gs_B) aw_kpc (arc_258 hU aw_Gs_B (fun _ q => q.1))) ⟨(hI46).1, (aw_B_sm hI46.2 hI11.2)⟩ ⟨(aw_g117 hU.2.2), (cw_gw (a := x.toInt) rfl (by omega) (by omega)), (cw_gw (a := x63.toInt) rfl (by omega) (by omega)), (cw_gw (a := x5.toInt) rfl (by omega) (by omega)), trivial⟩ (fun e he => nomatch he)) ?_
            rintro r66 S66 ⟨hr66, hJ66, fc66, po66, -⟩
            have hT66 := hJ66.1
            replace fc66 := aw_fr_sub (F' := []) (A' := []) (by decide) (by decide) fc66
            have fr67 := aw_fr_tr fr45 (aw_fr_sub (F := []) (A := []) (by decide) (by decide) fc66)
            have hI68 : aw_I s h (aw_sm S8) S66 := ⟨hT66, aw_sm_tr hI46.2 (aw_fr_sm (by decide) (by decide) (by decide) (F := []) (A := []) fc66)⟩
            obtain ⟨b66, rfl, bb66⟩ := cw_rI hr66
            show aw_W _ _ _ _ 79 lv62 [.int b66] _ _
            refine aw_z (tgt := 85) aj_d295 rfl rfl (fun q69 => ?_) (fun q69 => ?_)
            · have q69 : b66.toInt > (0 : Int) := aw_t_gt (a := b66.toInt) (b := (0 : Int)) rfl rfl q69
              refine aw_l2 aj_d295 rfl rfl hlv62_0 ?_
              refine aw_g hU.1 aj_d295 rfl rfl (by decide) (v := .ref 148) rfl ?_
              refine aw_l0 aj_d295 rfl rfl hlv62_4 ?_
              refine aw_l2 aj_d295 rfl rfl hlv62_0 ?_
              refine aw_g hU.1 aj_d295 rfl rfl (by decide) (v := .ref 148) rfl ?_
              refine aw_l0 aj_d295 rfl rfl hlv62_6 ?_
              refine aw_ld (k := 31) hU.1 aj_d295 (Or.inl ⟨rfl, rfl⟩) rfl (by decide) (by decide) rfl (a := x61.toInt) rfl (by omega) (by omega) (fun x70 ex70 => ?_)
              have bx70 : 0 ≤ x70.toInt ∧ x70.toInt ≤ 30719 := by
                rw [ex70]
                exact aw_bd_a hs (hI68).1 (k := 31) (by decide) (by decide) rfl (by decide) rfl (by omega)
              refine aw_st (k := 31) hU.1 aj_d295 (Or.inl ⟨rfl, rfl⟩) rfl (by decide) (by decide) rfl (a := x10.toInt) rfl (by omega) (by omega) ?_
              have hI71 := aw_I_a (aw_UV hU aw_Gs_sm) (k := 31) (j := (x10.toInt).toNat) (v := aj_nar 0 x70) hI68 (by decide) (by decide) (by decide) rfl (by decide) (by decide) rfl (aw_bp (a := x70.toInt) rfl (by omega) (by omega))
              have fr72 := aw_fr_a (k := 31) (j := (x10.toInt).toNat) (v := aj_nar 0 x70) (by decide) fr67
              refine aw_l0 aj_d295 rfl rfl hlv62_6 ?_
              refine aw_t0 (j := 4) aj_d295 rfl (by decide) rfl ?_
              obtain ⟨lv73, elv73⟩ : ∃ l, l = aj_set1 lv62 4 (.int x61) := ⟨_, rfl⟩
              rw [← elv73]
              have hlv73_0 : aj_lv lv73 0 = some (.ref 117) := cw_e1 elv73 hlv62_0 (by decide) (Or.inl (by decide))
              have hlv73_1 : aj_lv lv73 1 = some (.int x) := cw_e1 elv73 hlv62_1 (by decide) (Or.inl (by decide))
              have hlv73_3 : aj_lv lv73 3 = some (.int z) := cw_e1 elv73 hlv62_3 (by decide) (Or.inr rfl)
              have hlv73_5 : aj_lv lv73 5 = some (.int x5) := cw_e1 elv73 hlv62_5 (by decide) (Or.inl (by decide))
              have hlv73_4 : aj_lv lv73 4 = some (.int x61) := by rw [elv73]; exact ak_set1_eq _ _ _
              show aw_W _ _ _ _ 103 lv73 [] _ _
              refine aw_n aj_d295 rfl rfl ?_
              exact ihL12_6 (aw_wa S66 31 (x10.toInt).toNat (aj_nar 0 x70)) lv73 (x61) hlv73_0 hlv73_1 hlv73_3 hlv73_4 hlv73_5 ⟨(hI71).1, (aw_B_sm hI71.2 hI11.2)⟩ fr72 (by omega) (by omega) (by omega)
            · have q69 : b66.toInt ≤ (0 : Int) := aw_t_gt (a := b66.toInt) (b := (0 : Int)) rfl rfl q69
              refine aw_n aj_d295 rfl rfl ?_
              refine aw_l2 aj_d295 rfl rfl hlv62_0 ?_
              refine aw_g hU.1 aj_d295 rfl rfl (by decide) (v := .ref 148) rfl ?_
              refine aw_l0 aj_d295 rfl rfl hlv62_4 ?_
              refine aw_l0 aj_d295 rfl rfl hlv62_5 ?_
              refine aw_st (k := 31) hU.1 aj_d295 (Or.inl ⟨rfl, rfl⟩) rfl (by decide) (by decide) rfl (a := x10.toInt) rfl (by omega) (by omega) ?_
              have hI74 := aw_I_a (aw_UV hU aw_Gs_sm) (k := 31) (j := (x10.toInt).toNat) (v := aj_nar 0 x5) hI68 (by decide) (by decide) (by decide) rfl (by decide) (by decide) rfl (aw_bp (a := x5.toInt) rfl (by omega) (by omega))
              have fr75 := aw_fr_a (k := 31) (j := (x10.toInt).toNat) (v := aj_nar 0 x5) (by decide) fr67
              refine aw_e aj_d295 rfl rfl ?_
              exact ⟨(hI74).1, fr75, rfl, (aw_B_sm hI74.2 hI11.2)⟩
  exact L12_6 _ S lv6 (y) hlv6_0 hlv6_1 hlv6_3 hlv6_4 hlv6_5 ⟨(hI2).1, hG⟩ fr3 (by omega) (by omega) (Nat.lt_succ_self _)
theorem ar_maybes (hU : aw_U tb s h) (hT : ak_Ty ak_TN s (aj_mh h S)) (hG : aw_B S) (hd : 7 ≤ d) {x : Int32} (hx : 0 ≤ x.toInt ∧ x.toInt ≤ 9) : aw_K tb h d 294 [.ref 117, .int x] S (fun r S' => ak_Ty ak_TN s (aj_mh h S') ∧ aw_fr [58, 67, 69, 70] [26, 31] S S' ∧ r = none ∧ aw_B S') := by
  obtain ⟨d, rfl⟩ : ∃ e, d = e + 1 := ⟨d - 1, by omega⟩
  have hs : aw_sT s := aw_hy_sT hU.2.2
  refine aw_m aj_m294_at rfl (Nat.le_of_ble_eq_true rfl) ?_
  show aw_W _ _ _ _ 0 [(0, .ref 117), (1, .int x)] [] _ _
  obtain ⟨lv76, elv76⟩ : ∃ l : aj_V, l = [(0, .ref 117), (1, .int x)] := ⟨_, rfl⟩
  rw [← elv76]
  have hlv76_0 : aj_lv lv76 0 = some (.ref 117) := by rw [elv76]; rfl
  have hlv76_1 : aj_lv lv76 1 = some (.int x) := by rw [elv76]; rfl
  have hI77 : aw_I s h (aw_sm S) S := ⟨hT, aw_sm_rf⟩
  have fr78 : aw_fr [58, 67, 69, 70] [26, 31] S S := aw_fr_rf
  refine aw_l2 aj_d294 rfl rfl hlv76_0 ?_
  refine aw_g hU.1 aj_d294 rfl rfl (by decide) (v := .int (S.1 70)) rfl ?_
  refine aw_l0 aj_d294 rfl rfl hlv76_1 ?_
  refine aw_c (tgt := 21) aj_d294 rfl rfl (fun q79 => ?_) (fun q79 => ?_)
  · have q79 : (S.1 70).toInt ≠ x.toInt := aw_t_ne (a := (S.1 70).toInt) (b := x.toInt) rfl rfl q79
    refine aw_l2 aj_d294 rfl rfl hlv76_0 ?_
    refine aw_l0 aj_d294 rfl rfl hlv76_1 ?_
    refine aw_p hU.1 aj_d294 rfl rfl (by decide) rfl ?_
    have hI80 := aw_I_f (aw_UV hU aw_Gs_sm) (k := 70) (v := x) hI77 (by decide) (by decide) rfl (aw_full _)
    have fr81 := aw_fr_f (k := 70) (v := x) (by decide) fr78
    refine aw_l2 aj_d294 rfl rfl hlv76_0 ?_
    refine aw_l2 aj_d294 rfl rfl hlv76_0 ?_
    refine aw_g hU.1 aj_d294 rfl rfl (by decide) (v := .long (S.2.1 68)) rfl ?_
    refine aw_pl hU.1 aj_d294 rfl rfl (by decide) rfl ?_
    have hI82 := aw_I_l (aw_UV hU aw_Gs_sm) (k := 69) (v := (S.2.1 68)) hI80 (by decide)
    have fr83 := aw_fr_l (k := 69) (v := (S.2.1 68)) (by decide) fr81
    refine aw_l2 aj_d294 rfl rfl hlv76_0 ?_
    have b84 : 0 ≤ (S.1 0).toInt ∧ (S.1 0).toInt ≤ 1 := aw_bd_f hs (hI77).1 (by decide) rfl
    refine aw_g hU.1 aj_d294 rfl rfl (by decide) (v := .int (S.1 0)) rfl ?_
    refine aw_n aj_d294 rfl rfl ?_
    refine aw_mul aj_d294 rfl (a := (S.1 0).toInt) (b := (10 : Int)) rfl rfl (by omega) (by omega) (fun x85 ex85 => ?_)
    refine aw_l0 aj_d294 rfl rfl hlv76_1 ?_
    refine aw_add aj_d294 rfl (a := x85.toInt) (b := x.toInt) rfl rfl (by omega) (by omega) (fun x86 ex86 => ?_)
    refine aw_t0 (j := 2) aj_d294 rfl (by decide) rfl ?_
    obtain ⟨lv87, elv87⟩ : ∃ l, l = aj_set1 lv76 2 (.int x86) := ⟨_, rfl⟩
    rw [← elv87]
    have hlv87_0 : aj_lv lv87 0 = some (.ref 117) := cw_e1 elv87 hlv76_0 (by decide) (Or.inl (by decide))
    have hlv87_2 : aj_lv lv87 2 = some (.int x86) := by rw [elv87]; exact ak_set1_eq _ _ _
    show aw_W _ _ _ _ 44 lv87 [] _ _
    refine aw_n aj_d294 rfl rfl ?_
    refine aw_t0 (j := 3) aj_d294 rfl (by decide) rfl ?_
    obtain ⟨lv88, elv88⟩ : ∃ l, l = aj_set1 lv87 3 (.int (Int32.ofInt 0)) := ⟨_, rfl⟩
    rw [← elv88]
    have hlv88_0 : aj_lv lv88 0 = some (.ref 117) := cw_e1 elv88 hlv87_0 (by decide) (Or.inl (by decide))
    have hlv88_2 : aj_lv lv88 2 = some (.int x86) := cw_e1 elv88 hlv87_2 (by decide) (Or.inr rfl)
    have hlv88_3 : aj_lv lv88 3 = some (.int (Int32.ofInt 0)) := by rw [elv88]; exact ak_set1_eq _ _ _
    show aw_W _ _ _ _ 46 lv88 [] _ _
    refine aw_n aj_d294 rfl rfl ?_
    refine aw_t0 (j := 4) aj_d294 rfl (by decide) rfl ?_
    obtain ⟨lv89, elv89⟩ : ∃ l, l = aj_set1 lv88 4 (.int (Int32.ofInt 0)) := ⟨_, rfl⟩
    rw [← elv89]
    have hlv89_0 : aj_lv lv89 0 = some (.ref 117) := cw_e1 elv89 hlv88_0 (by decide) (Or.inl (by decide))
    have hlv89_2 : aj_lv lv89 2 = some (.int x86) := cw_e1 elv89 hlv88_2 (by decide) (Or.inl (by decide))
    have hlv89_3 : aj_lv lv89 3 = some (.int (Int32.ofInt 0)) := cw_e1 elv89 hlv88_3 (by decide) (Or.inr rfl)
    have hlv89_4 : aj_lv lv89 4 = some (.int (Int32.ofInt 0)) := by rw [elv89]; exact ak_set1_eq _ _ _
    show aw_W _ _ _ _ 49 lv89 [] _ _
    have L49_89 : ∀ (N : Nat) (S91 : aj_S) (lv92 : aj_V) (x93 : Int32) (x94 : Int32), (aj_lv lv92 0 = some (.ref 117)) → (aj_lv lv92 2 = some (.int x86)) → (aj_lv lv92 3 = some (.int x93)) → (aj_lv lv92 4 = some (.int x94)) → (aw_I s h (aw_B) S91) → (aw_fr [58, 67, 69, 70] [26, 31] S S91) → (0 ≤ x93.toInt ∧ x93.toInt ≤ 30720) → (0 ≤ x94.toInt ∧ x94.toInt ≤ 1024) → (x93.toInt ≤ 30 * x94.toInt) → (1024 - x94.toInt).toNat < N → aw_W tb h d aj_m294 49 lv92 [] S91 ((fun r S' => ak_Ty ak_TN s (aj_mh h S') ∧ aw_fr [58, 67, 69, 70] [26, 31] S S' ∧ r = none ∧ aw_B S')) := by
      intro N
      induction N with
      | zero =>
        intro S91 lv92 x93 x94 hlv92_0 hlv92_2 hlv92_3 hlv92_4 hI95 fr96 bx93 bx94 n49 hm
        omega
      | succ N ihL49_89 =>
        intro S91 lv92 x93 x94 hlv92_0 hlv92_2 hlv92_3 hlv92_4 hI95 fr96 bx93 bx94 n49 hm
        have hI97 : aw_I s h (aw_sm S91) S91 := ⟨hI95.1, aw_sm_rf⟩
        refine aw_l0 aj_d294 rfl rfl hlv92_4 ?_
        refine aw_l2 aj_d294 rfl rfl hlv92_0 ?_
        refine aw_g hU.1 aj_d294 rfl rfl (by decide) (v := .ref 122) rfl ?_
        refine aw_l2 aj_d294 rfl rfl hlv92_0 ?_
        have c98 : (S91.1 0).toInt = (S.1 0).toInt := (congrArg Int32.toInt (fr96.1 0 (by decide)).1).trans rfl
        have b99 : 0 ≤ (S91.1 0).toInt ∧ (S91.1 0).toInt ≤ 1 := aw_bd_f hs (hI97).1 (by decide) rfl
        refine aw_g hU.1 aj_d294 rfl rfl (by decide) (v := .int (S91.1 0)) rfl ?_
        refine aw_ld (k := 5) hU.1 aj_d294 (Or.inl ⟨rfl, rfl⟩) rfl (by decide) (by decide) rfl (a := (S.1 0).toInt) c98 (by omega) (by omega) (fun x100 ex100 => ?_)
        have bx100 : 0 ≤ x100.toInt ∧ x100.toInt ≤ 1024 := by
          rw [ex100]
          exact aw_bd_a hs (hI97).1 (k := 5) (by decide) (by decide) rfl (by decide) rfl (by omega)
        refine aw_c (tgt := 129) aj_d294 rfl rfl (fun q101 => ?_) (fun q101 => ?_)
        · have q101 : x94.toInt ≥ x100.toInt := aw_t_ge (a := x94.toInt) (b := x100.toInt) rfl rfl q101
          refine aw_l0 aj_d294 rfl rfl hlv92_3 ?_
          refine aw_n aj_d294 rfl rfl ?_
          refine aw_div aj_d294 rfl (a := x93.toInt) (b := (2 : Int)) rfl rfl (by omega) (by omega) (fun x102 ex102 => ?_)
          refine aw_t0 (j := 4) aj_d294 rfl (by decide) rfl ?_
          obtain ⟨lv103, elv103⟩ : ∃ l, l = aj_set1 lv92 4 (.int x102) := ⟨_, rfl⟩
          rw [← elv103]
          have hlv103_0 : aj_lv lv103 0 = some (.ref 117) := cw_e1 elv103 hlv92_0 (by decide) (Or.inl (by decide))
          have hlv103_2 : aj_lv lv103 2 = some (.int x86) := cw_e1 elv103 hlv92_2 (by decide) (Or.inl (by decide))
          have hlv103_3 : aj_lv lv103 3 = some (.int x93) := cw_e1 elv103 hlv92_3 (by decide) (Or.inr rfl)
          have hlv103_4 : aj_lv lv103 4 = some (.int x102) := by rw [elv103]; exact ak_set1_eq _ _ _
          show aw_W _ _ _ _ 134 lv103 [] _ _
          have L134_103 : ∀ (N : Nat) (S105 : aj_S) (lv106 : aj_V) (x107 : Int32), (aj_lv lv106 0 = some (.ref 117)) → (aj_lv lv106 2 = some (.int x86)) → (aj_lv lv106 3 = some (.int x93)) → (aj_lv lv106 4 = some (.int x107)) → (aw_I s h (aw_B) S105) → (aw_fr [58, 67, 69, 70] [26, 31] S S105) → ((-1) ≤ x107.toInt ∧ x107.toInt ≤ 15360) → (2 * x107.toInt ≤ x93.toInt) → (x107.toInt + 1).toNat < N → aw_W tb h d aj_m294 134 lv106 [] S105 ((fun r S' => ak_Ty ak_TN s (aj_mh h S') ∧ aw_fr [58, 67, 69, 70] [26, 31] S S' ∧ r = none ∧ aw_B S')) := by
            intro N
            induction N with
            | zero =>
              intro S105 lv106 x107 hlv106_0 hlv106_2 hlv106_3 hlv106_4 hI108 fr109 bx107 k134 hm
              omega
            | succ N ihL134_103 =>
              intro S105 lv106 x107 hlv106_0 hlv106_2 hlv106_3 hlv106_4 hI108 fr109 bx107 k134 hm
              have hI110 : aw_I s h (aw_sm S105) S105 := ⟨hI108.1, aw_sm_rf⟩
              refine aw_l0 aj_d294 rfl rfl hlv106_4 ?_
              refine aw_z (tgt := 157) aj_d294 rfl rfl (fun q111 => ?_) (fun q111 => ?_)
              · have q111 : x107.toInt < (0 : Int) := aw_t_lt (a := x107.toInt) (b := (0 : Int)) rfl rfl q111
                refine aw_l0 aj_d294 rfl rfl hlv106_3 ?_
                refine aw_n aj_d294 rfl rfl ?_
                refine aw_sub aj_d294 rfl (a := x93.toInt) (b := (1 : Int)) rfl rfl (by omega) (by omega) (fun x112 ex112 => ?_)
                refine aw_t0 (j := 4) aj_d294 rfl (by decide) rfl ?_
                obtain ⟨lv113, elv113⟩ : ∃ l, l = aj_set1 lv106 4 (.int x112) := ⟨_, rfl⟩
                rw [← elv113]
                have hlv113_0 : aj_lv lv113 0 = some (.ref 117) := cw_e1 elv113 hlv106_0 (by decide) (Or.inl (by decide))
                have hlv113_2 : aj_lv lv113 2 = some (.int x86) := cw_e1 elv113 hlv106_2 (by decide) (Or.inl (by decide))
                have hlv113_3 : aj_lv lv113 3 = some (.int x93) := cw_e1 elv113 hlv106_3 (by decide) (Or.inr rfl)
                have hlv113_4 : aj_lv lv113 4 = some (.int x112) := by rw [elv113]; exact ak_set1_eq _ _ _
                show aw_W _ _ _ _ 162 lv113 [] _ _
                have L162_113 : ∀ (N : Nat) (S115 : aj_S) (lv116 : aj_V) (x117 : Int32), (aj_lv lv116 0 = some (.ref 117)) → (aj_lv lv116 2 = some (.int x86)) → (aj_lv lv116 3 = some (.int x93)) → (aj_lv lv116 4 = some (.int x117)) → (aw_I s h (aw_B) S115) → (aw_fr [58, 67, 69, 70] [26, 31] S S115) → ((-1) ≤ x117.toInt ∧ x117.toInt ≤ 30719) → (x117.toInt < x93.toInt ∨ x117.toInt ≤ 0) → (x117.toInt + 1).toNat < N → aw_W tb h d aj_m294 162 lv116 [] S115 ((fun r S' => ak_Ty ak_TN s (aj_mh h S') ∧ aw_fr [58, 67, 69, 70] [26, 31] S S' ∧ r = none ∧ aw_B S')) := by
                  intro N
                  induction N with
                  | zero =>
                    intro S115 lv116 x117 hlv116_0 hlv116_2 hlv116_3 hlv116_4 hI118 fr119 bx117 k162 hm
                    omega
                  | succ N ihL162_113 =>
                    intro S115 lv116 x117 hlv116_0 hlv116_2 hlv116_3 hlv116_4 hI118 fr119 bx117 k162 hm
                    have hI120 : aw_I s h (aw_sm S115) S115 := ⟨hI118.1, aw_sm_rf⟩
                    refine aw_l0 aj_d294 rfl rfl hlv116_4 ?_
                    refine aw_z (tgt := 211) aj_d294 rfl rfl (fun q121 => ?_) (fun q121 => ?_)
                    · have q121 : x117.toInt ≤ (0 : Int) := aw_t_le (a := x117.toInt) (b := (0 : Int)) rfl rfl q121
                      refine aw_l2 aj_d294 rfl rfl hlv116_0 ?_
                      refine aw_n aj_d294 rfl rfl ?_
                      refine aw_p hU.1 aj_d294 rfl rfl (by decide) rfl ?_
                      have hI122 := aw_I_f (aw_UV hU aw_Gs_sm) (k := 67) (v := (Int32.ofInt 0)) hI120 (by decide) (by decide) rfl (aw_bp (a := (0 : Int)) rfl (by omega) (by omega))
                      have fr123 := aw_fr_f (k := 67) (v := (Int32.ofInt 0)) (by decide) fr119
                      refine aw_n aj_d294 rfl rfl ?_
                      refine aw_t0 (j := 4) aj_d294 rfl (by decide) rfl ?_
                      obtain ⟨lv124, elv124⟩ : ∃ l, l = aj_set1 lv116 4 (.int (Int32.ofInt 0)) := ⟨_, rfl⟩
                      rw [← elv124]
                      have hlv124_0 : aj_lv lv124 0 = some (.ref 117) := cw_e1 elv124 hlv116_0 (by decide) (Or.inl (by decide))
                      have hlv124_2 : aj_lv lv124 2 = some (.int x86) := cw_e1 elv124 hlv116_2 (by decide) (Or.inl (by decide))
                      have hlv124_3 : aj_lv lv124 3 = some (.int x93) := cw_e1 elv124 hlv116_3 (by decide) (Or.inr rfl)
                      have hlv124_4 : aj_lv lv124 4 = some (.int (Int32.ofInt 0)) := by rw [elv124]; exact ak_set1_eq _ _ _
                      show aw_W _ _ _ _ 219 lv124 [] _ _
                      have L219_124 : ∀ (N : Nat) (S126 : aj_S) (lv127 : aj_V) (x128 : Int32), (aj_lv lv127 0 = some (.ref 117)) → (aj_lv lv127 2 = some (.int x86)) → (aj_lv lv127 3 = some (.int x93)) → (aj_lv lv127 4 = some (.int x128)) → (aw_I s h (aw_B) S126) → (aw_fr [58, 67, 69, 70] [26, 31] S S126) → (0 ≤ x128.toInt ∧ x128.toInt ≤ 30720) → ((S126.1 67).toInt ≤ x128.toInt) → (x128.toInt ≤ x93.toInt) → (30720 - x128.toInt).toNat < N → aw_W tb h d aj_m294 219 lv127 [] S126 ((fun r S' => ak_Ty ak_TN s (aj_mh h S') ∧ aw_fr [58, 67, 69, 70] [26, 31] S S' ∧ r = none ∧ aw_B S')) := by
                        intro N
                        induction N with
                        | zero =>
                          intro S126 lv127 x128 hlv127_0 hlv127_2 hlv127_3 hlv127_4 hI129 fr130 bx128 p219 n219 hm
                          omega
                        | succ N ihL219_124 =>
                          intro S126 lv127 x128 hlv127_0 hlv127_2 hlv127_3 hlv127_4 hI129 fr130 bx128 p219 n219 hm
                          have hI131 : aw_I s h (aw_sm S126) S126 := ⟨hI129.1, aw_sm_rf⟩
                          have b132 : 0 ≤ (S126.1 67).toInt ∧ (S126.1 67).toInt ≤ 30720 := aw_bd_f hs (hI131).1 (by decide) rfl
                          refine aw_l0 aj_d294 rfl rfl hlv127_4 ?_
                          refine aw_l0 aj_d294 rfl rfl hlv127_3 ?_
                          refine aw_c (tgt := 290) aj_d294 rfl rfl (fun q133 => ?_) (fun q133 => ?_)
                          · have q133 : x128.toInt ≥ x93.toInt := aw_t_ge (a := x128.toInt) (b := x93.toInt) rfl rfl q133
                            refine aw_e aj_d294 rfl rfl ?_
                            exact ⟨(hI131).1, fr130, rfl, hI129.2⟩
                          · have q133 : x128.toInt < x93.toInt := aw_t_ge (a := x128.toInt) (b := x93.toInt) rfl rfl q133
                            refine aw_l2 aj_d294 rfl rfl hlv127_0 ?_
                            refine aw_g hU.1 aj_d294 rfl rfl (by decide) (v := .int (S126.1 67)) rfl ?_
                            refine aw_z (tgt := 258) aj_d294 rfl rfl (fun q134 => ?_) (fun q134 => ?_)
                            · have q134 : (S126.1 67).toInt = (0 : Int) := aw_t_eq (a := (S126.1 67).toInt) (b := (0 : Int)) rfl rfl q134
                              refine aw_l2 aj_d294 rfl rfl hlv127_0 ?_
                              refine aw_g hU.1 aj_d294 rfl rfl (by decide) (v := .ref 148) rfl ?_
                              refine aw_l2 aj_d294 rfl rfl hlv127_0 ?_
                              refine aw_g hU.1 aj_d294 rfl rfl (by decide) (v := .int (S126.1 67)) rfl ?_
                              refine aw_l2 aj_d294 rfl rfl hlv127_0 ?_
                              refine aw_g hU.1 aj_d294 rfl rfl (by decide) (v := .ref 148) rfl ?_
                              refine aw_l0 aj_d294 rfl rfl hlv127_4 ?_
                              refine aw_ld (k := 31) hU.1 aj_d294 (Or.inl ⟨rfl, rfl⟩) rfl (by decide) (by decide) rfl (a := x128.toInt) rfl (by omega) (by omega) (fun x135 ex135 => ?_)
                              have bx135 : 0 ≤ x135.toInt ∧ x135.toInt ≤ 30719 := by
                                rw [ex135]
                                exact aw_bd_a hs (hI131).1 (k := 31) (by decide) (by decide) rfl (by decide) rfl (by omega)
                              refine aw_st (k := 31) hU.1 aj_d294 (Or.inl ⟨rfl, rfl⟩) rfl (by decide) (by decide) rfl (a := (S126.1 67).toInt) rfl (by omega) (by omega) ?_
                              have hI136 := aw_I_a (aw_UV hU aw_Gs_sm) (k := 31) (j := ((S126.1 67).toInt).toNat) (v := aj_nar 0 x135) hI131 (by decide) (by decide) (by decide) rfl (by decide) (by decide) rfl (aw_bp (a := x135.toInt) rfl (by omega) (by omega))
                              have fr137 := aw_fr_a (k := 31) (j := ((S126.1 67).toInt).toNat) (v := aj_nar 0 x135) (by decide) fr130
                              refine aw_l2 aj_d294 rfl rfl hlv127_0 ?_
                              refine aw_n aj_d294 rfl rfl ?_
                              refine aw_g hU.1 aj_d294 rfl rfl (by decide) (v := .int (S126.1 67)) rfl ?_
                              refine aw_n aj_d294 rfl rfl ?_
                              refine aw_add aj_d294 rfl (a := (S126.1 67).toInt) (b := (1 : Int)) rfl rfl (by omega) (by omega) (fun x138 ex138 => ?_)
                              refine aw_p hU.1 aj_d294 rfl rfl (by decide) rfl ?_
                              have hI139 := aw_I_f (aw_UV hU aw_Gs_sm) (k := 67) (v := x138) hI136 (by decide) (by decide) rfl (aw_bp (a := x138.toInt) rfl (by omega) (by omega))
                              have fr140 := aw_fr_f (k := 67) (v := x138) (by decide) fr137
                              refine aw_inc aj_d294 rfl hlv127_4 (a := x128.toInt) rfl (by omega) (by omega) (by decide) (by decide) (fun x141 ex141 => ?_)
                              obtain ⟨lv142, elv142⟩ : ∃ l, l = aj_set1 lv127 4 (.int x141) := ⟨_, rfl⟩
                              rw [← elv142]
                              have hlv142_0 : aj_lv lv142 0 = some (.ref 117) := cw_e1 elv142 hlv127_0 (by decide) (Or.inl (by decide))
                              have hlv142_2 : aj_lv lv142 2 = some (.int x86) := cw_e1 elv142 hlv127_2 (by decide) (Or.inl (by decide))
                              have hlv142_3 : aj_lv lv142 3 = some (.int x93) := cw_e1 elv142 hlv127_3 (by decide) (Or.inr rfl)
                              have hlv142_4 : aj_lv lv142 4 = some (.int x141) := by rw [elv142]; exact ak_set1_eq _ _ _
                              show aw_W _ _ _ _ 287 lv142 [] _ _
                              refine aw_n aj_d294 rfl rfl ?_
                              exact ihL219_124 (aw_wf (aw_wa S126 31 ((S126.1 67).toInt).toNat (aj_nar 0 x135)) 67 x138) lv142 (x141) hlv142_0 hlv142_2 hlv142_3 hlv142_4 ⟨(hI139).1, (aw_B_sm hI139.2 hI129.2)⟩ fr140 (by omega) (show (x138).toInt ≤ _ by omega) (by omega) (by omega)
                            · have q134 : (S126.1 67).toInt ≠ (0 : Int) := aw_t_eq (a := (S126.1 67).toInt) (b := (0 : Int)) rfl rfl q134
                              refine aw_l2 aj_d294 rfl rfl hlv127_0 ?_
                              refine aw_l0 aj_d294 rfl rfl hlv127_2 ?_
                              refine aw_l2 aj_d294 rfl rfl hlv127_0 ?_
                              refine aw_g hU.1 aj_d294 rfl rfl (by decide) (v := .ref 148) rfl ?_
                              refine aw_l2 aj_d294 rfl rfl hlv127_0 ?_
                              refine aw_g hU.1 aj_d294 rfl rfl (by decide) (v := .int (S126.1 67)) rfl ?_
                              refine aw_n aj_d294 rfl rfl ?_
                              refine aw_sub aj_d294 rfl (a := (S126.1 67).toInt) (b := (1 : Int)) rfl rfl (by omega) (by omega) (fun x143 ex143 => ?_)
                              refine aw_ld (k := 31) hU.1 aj_d294 (Or.inl ⟨rfl, rfl⟩) rfl (by decide) (by decide) rfl (a := x143.toInt) rfl (by omega) (by omega) (fun x144 ex144 => ?_)
                              have bx144 : 0 ≤ x144.toInt ∧ x144.toInt ≤ 30719 := by
                                rw [ex144]
                                exact aw_bd_a hs (hI131).1 (k := 31) (by decide) (by decide) rfl (by decide) rfl (by omega)
                              refine aw_l2 aj_d294 rfl rfl hlv127_0 ?_
                              refine aw_g hU.1 aj_d294 rfl rfl (by decide) (v := .ref 148) rfl ?_
                              refine aw_l0 aj_d294 rfl rfl hlv127_4 ?_
                              refine aw_ld (k := 31) hU.1 aj_d294 (Or.inl ⟨rfl, rfl⟩) rfl (by decide) (by decide) rfl (a := x128.toInt) rfl (by omega) (by omega) (fun x145 ex145 => ?_)
                              have bx145 : 0 ≤ x145.toInt ∧ x145.toInt ≤ 30719 := by
                                rw [ex145]
                                exact aw_bd_a hs (hI131).1 (k := 31) (by decide) (by decide) rfl (by decide) rfl (by omega)
                              have b146 : 0 ≤ (S.1 30).toInt ∧ (S.1 30).toInt ≤ 1001 := aw_bd_f hs (hI77).1 (by decide) rfl
                              have c147 : (S126.1 30).toInt = (S.1 30).toInt := (congrArg Int32.toInt (fr130.1 30 (by decide)).1).trans rfl
                              have b148 : 0 ≤ (S126.1 30).toInt ∧ (S126.1 30).toInt ≤ 1001 := aw_bd_f hs (hI131).1 (by decide) rfl
                              refine aw_k hU.1 aj_d294 rfl rfl [_, _, _] rfl rfl rfl (Nat.le_of_ble_eq_true rfl) (aw_toK hU aw_Gs_B (con := ac_c296) (by omega) (ar_296 hU.2.1 (aw_SPc hU.2.2 aw_Gs_B) aw_kpc (arc_258 hU aw_Gs_B (fun _ q => q.1))) ⟨(hI131).1, hI129.2⟩ ⟨(aw_g117 hU.2.2), (cw_gw (a := x86.toInt) rfl (by omega) (by omega)), (cw_gw (a := x144.toInt) rfl (by omega) (by omega)), (cw_gw (a := x145.toInt) rfl (by omega) (by omega)), trivial⟩ (fun e he => nomatch he)) ?_
                              rintro r149 S149 ⟨hr149, hJ149, fc149, po149, -⟩
                              have hT149 := hJ149.1
                              replace fc149 := aw_fr_sub (F' := []) (A' := []) (by decide) (by decide) fc149
                              have fr150 := aw_fr_tr fr130 (aw_fr_sub (F := []) (A := []) (by decide) (by decide) fc149)
                              have hI151 : aw_I s h (aw_sm S126) S149 := ⟨hT149, aw_sm_tr hI131.2 (aw_fr_sm (by decide) (by decide) (by decide) (F := []) (A := []) fc149)⟩
                              obtain ⟨b149, rfl, bb149⟩ := cw_rI hr149
                              show aw_W _ _ _ _ 255 lv127 [.int b149] _ _
                              refine aw_z (tgt := 284) aj_d294 rfl rfl (fun q152 => ?_) (fun q152 => ?_)
                              · have q152 : b149.toInt = (0 : Int) := aw_t_eq (a := b149.toInt) (b := (0 : Int)) rfl rfl q152
                                refine aw_inc aj_d294 rfl hlv127_4 (a := x128.toInt) rfl (by omega) (by omega) (by decide) (by decide) (fun x153 ex153 => ?_)
                                obtain ⟨lv154, elv154⟩ : ∃ l, l = aj_set1 lv127 4 (.int x153) := ⟨_, rfl⟩
                                rw [← elv154]
                                have hlv154_0 : aj_lv lv154 0 = some (.ref 117) := cw_e1 elv154 hlv127_0 (by decide) (Or.inl (by decide))
                                have hlv154_2 : aj_lv lv154 2 = some (.int x86) := cw_e1 elv154 hlv127_2 (by decide) (Or.inl (by decide))
                                have hlv154_3 : aj_lv lv154 3 = some (.int x93) := cw_e1 elv154 hlv127_3 (by decide) (Or.inr rfl)
                                have hlv154_4 : aj_lv lv154 4 = some (.int x153) := by rw [elv154]; exact ak_set1_eq _ _ _
                                show aw_W _ _ _ _ 287 lv154 [] _ _
                                refine aw_n aj_d294 rfl rfl ?_
                                have c155 : (S149.1 67).toInt = (S126.1 67).toInt := (congrArg Int32.toInt (fc149.1 67 (by decide)).1).trans rfl
                                have b156 : 0 ≤ (S149.1 67).toInt ∧ (S149.1 67).toInt ≤ 30720 := aw_bd_f hs (hI151).1 (by decide) rfl
                                exact ihL219_124 S149 lv154 (x153) hlv154_0 hlv154_2 hlv154_3 hlv154_4 ⟨(hI151).1, (aw_B_sm hI151.2 hI129.2)⟩ fr150 (by omega) (show ((S149.1 67)).toInt ≤ _ by omega) (by omega) (by omega)
                              · have q152 : b149.toInt ≠ (0 : Int) := aw_t_eq (a := b149.toInt) (b := (0 : Int)) rfl rfl q152
                                refine aw_l2 aj_d294 rfl rfl hlv127_0 ?_
                                refine aw_g hU.1 aj_d294 rfl rfl (by decide) (v := .ref 148) rfl ?_
                                refine aw_l2 aj_d294 rfl rfl hlv127_0 ?_
                                have c157 : (S149.1 67).toInt = (S126.1 67).toInt := (congrArg Int32.toInt (fc149.1 67 (by decide)).1).trans rfl
                                have b158 : 0 ≤ (S149.1 67).toInt ∧ (S149.1 67).toInt ≤ 30720 := aw_bd_f hs (hI151).1 (by decide) rfl
                                refine aw_g hU.1 aj_d294 rfl rfl (by decide) (v := .int (S149.1 67)) rfl ?_
                                refine aw_l2 aj_d294 rfl rfl hlv127_0 ?_
                                refine aw_g hU.1 aj_d294 rfl rfl (by decide) (v := .ref 148) rfl ?_
                                refine aw_l0 aj_d294 rfl rfl hlv127_4 ?_
                                refine aw_ld (k := 31) hU.1 aj_d294 (Or.inl ⟨rfl, rfl⟩) rfl (by decide) (by decide) rfl (a := x128.toInt) rfl (by omega) (by omega) (fun x159 ex159 => ?_)
                                have bx159 : 0 ≤ x159.toInt ∧ x159.toInt ≤ 30719 := by
                                  rw [ex159]
                                  exact aw_bd_a hs (hI151).1 (k := 31) (by decide) (by decide) rfl (by decide) rfl (by omega)
                                refine aw_st (k := 31) hU.1 aj_d294 (Or.inl ⟨rfl, rfl⟩) rfl (by decide) (by decide) rfl (a := (S126.1 67).toInt) c157 (by omega) (by omega) ?_
                                have hI160 := aw_I_a (aw_UV hU aw_Gs_sm) (k := 31) (j := ((S126.1 67).toInt).toNat) (v := aj_nar 0 x159) hI151 (by decide) (by decide) (by decide) rfl (by decide) (by decide) rfl (aw_bp (a := x159.toInt) rfl (by omega) (by omega))
                                have fr161 := aw_fr_a (k := 31) (j := ((S126.1 67).toInt).toNat) (v := aj_nar 0 x159) (by decide) fr150
                                refine aw_l2 aj_d294 rfl rfl hlv127_0 ?_
                                refine aw_n aj_d294 rfl rfl ?_
                                refine aw_g hU.1 aj_d294 rfl rfl (by decide) (v := .int (S149.1 67)) rfl ?_
                                refine aw_n aj_d294 rfl rfl ?_
                                refine aw_add aj_d294 rfl (a := (S126.1 67).toInt) (b := (1 : Int)) c157 rfl (by omega) (by omega) (fun x162 ex162 => ?_)
                                refine aw_p hU.1 aj_d294 rfl rfl (by decide) rfl ?_
                                have hI163 := aw_I_f (aw_UV hU aw_Gs_sm) (k := 67) (v := x162) hI160 (by decide) (by decide) rfl (aw_bp (a := x162.toInt) rfl (by omega) (by omega))
                                have fr164 := aw_fr_f (k := 67) (v := x162) (by decide) fr161
                                refine aw_inc aj_d294 rfl hlv127_4 (a := x128.toInt) rfl (by omega) (by omega) (by decide) (by decide) (fun x165 ex165 => ?_)
                                obtain ⟨lv166, elv166⟩ : ∃ l, l = aj_set1 lv127 4 (.int x165) := ⟨_, rfl⟩
                                rw [← elv166]
                                have hlv166_0 : aj_lv lv166 0 = some (.ref 117) := cw_e1 elv166 hlv127_0 (by decide) (Or.inl (by decide))
                                have hlv166_2 : aj_lv lv166 2 = some (.int x86) := cw_e1 elv166 hlv127_2 (by decide) (Or.inl (by decide))
                                have hlv166_3 : aj_lv lv166 3 = some (.int x93) := cw_e1 elv166 hlv127_3 (by decide) (Or.inr rfl)
                                have hlv166_4 : aj_lv lv166 4 = some (.int x165) := by rw [elv166]; exact ak_set1_eq _ _ _
                                show aw_W _ _ _ _ 287 lv166 [] _ _
                                refine aw_n aj_d294 rfl rfl ?_
                                exact ihL219_124 (aw_wf (aw_wa S149 31 ((S126.1 67).toInt).toNat (aj_nar 0 x159)) 67 x162) lv166 (x165) hlv166_0 hlv166_2 hlv166_3 hlv166_4 ⟨(hI163).1, (aw_B_sm hI163.2 hI129.2)⟩ fr164 (by omega) (show (x162).toInt ≤ _ by omega) (by omega) (by omega)
                      exact L219_124 _ (aw_wf S115 67 (Int32.ofInt 0)) lv124 ((Int32.ofInt 0)) hlv124_0 hlv124_2 hlv124_3 hlv124_4 ⟨(hI122).1, (aw_B_sm hI122.2 hI118.2)⟩ fr123 (by first | omega | decide) (show (0 : Int) ≤ 0 by omega) (show (0 : Int) ≤ x93.toInt by omega) (Nat.lt_succ_self _)
                    · have q121 : x117.toInt > (0 : Int) := aw_t_le (a := x117.toInt) (b := (0 : Int)) rfl rfl q121
                      refine aw_l2 aj_d294 rfl rfl hlv116_0 ?_
                      refine aw_g hU.1 aj_d294 rfl rfl (by decide) (v := .ref 148) rfl ?_
                      refine aw_l0 aj_d294 rfl rfl hlv116_4 ?_
                      refine aw_ld (k := 31) hU.1 aj_d294 (Or.inl ⟨rfl, rfl⟩) rfl (by decide) (by decide) rfl (a := x117.toInt) rfl (by omega) (by omega) (fun x167 ex167 => ?_)
                      have bx167 : 0 ≤ x167.toInt ∧ x167.toInt ≤ 30719 := by
                        rw [ex167]
                        exact aw_bd_a hs (hI120).1 (k := 31) (by decide) (by decide) rfl (by decide) rfl (by omega)
                      refine aw_t0 (j := 5) aj_d294 rfl (by decide) rfl ?_
                      obtain ⟨lv168, elv168⟩ : ∃ l, l = aj_set1 lv116 5 (.int x167) := ⟨_, rfl⟩
                      rw [← elv168]
                      have hlv168_0 : aj_lv lv168 0 = some (.ref 117) := cw_e1 elv168 hlv116_0 (by decide) (Or.inl (by decide))
                      have hlv168_2 : aj_lv lv168 2 = some (.int x86) := cw_e1 elv168 hlv116_2 (by decide) (Or.inl (by decide))
                      have hlv168_3 : aj_lv lv168 3 = some (.int x93) := cw_e1 elv168 hlv116_3 (by decide) (Or.inl (by decide))
                      have hlv168_4 : aj_lv lv168 4 = some (.int x117) := cw_e1 elv168 hlv116_4 (by decide) (Or.inr rfl)
                      have hlv168_5 : aj_lv lv168 5 = some (.int x167) := by rw [elv168]; exact ak_set1_eq _ _ _
                      show aw_W _ _ _ _ 176 lv168 [] _ _
                      refine aw_l2 aj_d294 rfl rfl hlv168_0 ?_
                      refine aw_g hU.1 aj_d294 rfl rfl (by decide) (v := .ref 148) rfl ?_
                      refine aw_l0 aj_d294 rfl rfl hlv168_4 ?_
                      refine aw_l2 aj_d294 rfl rfl hlv168_0 ?_
                      refine aw_g hU.1 aj_d294 rfl rfl (by decide) (v := .ref 148) rfl ?_
                      refine aw_n aj_d294 rfl rfl ?_
                      refine aw_ld (k := 31) hU.1 aj_d294 (Or.inl ⟨rfl, rfl⟩) rfl (by decide) (by decide) rfl (a := (0 : Int)) rfl (by omega) (by omega) (fun x169 ex169 => ?_)
                      have bx169 : 0 ≤ x169.toInt ∧ x169.toInt ≤ 30719 := by
                        rw [ex169]
                        exact aw_bd_a hs (hI120).1 (k := 31) (by decide) (by decide) rfl (by decide) rfl (by omega)
                      refine aw_st (k := 31) hU.1 aj_d294 (Or.inl ⟨rfl, rfl⟩) rfl (by decide) (by decide) rfl (a := x117.toInt) rfl (by omega) (by omega) ?_
                      have hI170 := aw_I_a (aw_UV hU aw_Gs_sm) (k := 31) (j := (x117.toInt).toNat) (v := aj_nar 0 x169) hI120 (by decide) (by decide) (by decide) rfl (by decide) (by decide) rfl (aw_bp (a := x169.toInt) rfl (by omega) (by omega))
                      have fr171 := aw_fr_a (k := 31) (j := (x117.toInt).toNat) (v := aj_nar 0 x169) (by decide) fr119
                      refine aw_l2 aj_d294 rfl rfl hlv168_0 ?_
                      refine aw_g hU.1 aj_d294 rfl rfl (by decide) (v := .ref 148) rfl ?_
                      refine aw_n aj_d294 rfl rfl ?_
                      refine aw_l0 aj_d294 rfl rfl hlv168_5 ?_
                      refine aw_st (k := 31) hU.1 aj_d294 (Or.inl ⟨rfl, rfl⟩) rfl (by decide) (by decide) rfl (a := (0 : Int)) rfl (by omega) (by omega) ?_
                      have hI172 := aw_I_a (aw_UV hU aw_Gs_sm) (k := 31) (j := ((0 : Int)).toNat) (v := aj_nar 0 x167) hI170 (by decide) (by decide) (by decide) rfl (by decide) (by decide) rfl (aw_bp (a := x167.toInt) rfl (by omega) (by omega))
                      have fr173 := aw_fr_a (k := 31) (j := ((0 : Int)).toNat) (v := aj_nar 0 x167) (by decide) fr171
                      refine aw_l2 aj_d294 rfl rfl hlv168_0 ?_
                      refine aw_l0 aj_d294 rfl rfl hlv168_2 ?_
                      refine aw_n aj_d294 rfl rfl ?_
                      refine aw_l0 aj_d294 rfl rfl hlv168_4 ?_
                      refine aw_k hU.1 aj_d294 rfl rfl [_, _, _] rfl rfl rfl (Nat.le_of_ble_eq_true rfl) (ar_sink hU (hI172).1 (aw_B_sm hI172.2 hI118.2) (by omega) (x := x86) (y := (Int32.ofInt 0)) (z := x117) (by omega) (by first | omega | (show 0 ≤ (0 : Int) ∧ (0 : Int) < _; omega)) (by omega)) ?_
                      rintro _ S174 ⟨hT174, fc174, rfl, hB174⟩
                      have fr175 := aw_fr_tr fr173 (aw_fr_sub (F := []) (A := [31]) (by decide) (by decide) fc174)
                      have hI176 : aw_I s h (aw_sm S174) S174 := ⟨hT174, aw_sm_rf⟩
                      show aw_W _ _ _ _ 205 lv168 [] _ _
                      refine aw_inc aj_d294 rfl hlv168_4 (a := x117.toInt) rfl (by omega) (by omega) (by decide) (by decide) (fun x177 ex177 => ?_)
                      obtain ⟨lv178, elv178⟩ : ∃ l, l = aj_set1 lv168 4 (.int x177) := ⟨_, rfl⟩
                      rw [← elv178]
                      have hlv178_0 : aj_lv lv178 0 = some (.ref 117) := cw_e1 elv178 hlv168_0 (by decide) (Or.inl (by decide))
                      have hlv178_2 : aj_lv lv178 2 = some (.int x86) := cw_e1 elv178 hlv168_2 (by decide) (Or.inl (by decide))
                      have hlv178_3 : aj_lv lv178 3 = some (.int x93) := cw_e1 elv178 hlv168_3 (by decide) (Or.inr rfl)
                      have hlv178_4 : aj_lv lv178 4 = some (.int x177) := by rw [elv178]; exact ak_set1_eq _ _ _
                      show aw_W _ _ _ _ 208 lv178 [] _ _
                      refine aw_n aj_d294 rfl rfl ?_
                      exact ihL162_113 S174 lv178 (x177) hlv178_0 hlv178_2 hlv178_3 hlv178_4 ⟨(hI176).1, hB174⟩ fr175 (by omega) (by omega) (by omega)
                exact L162_113 _ S105 lv113 (x112) hlv113_0 hlv113_2 hlv113_3 hlv113_4 ⟨(hI110).1, hI108.2⟩ fr109 (by omega) (by omega) (Nat.lt_succ_self _)
              · have q111 : x107.toInt ≥ (0 : Int) := aw_t_lt (a := x107.toInt) (b := (0 : Int)) rfl rfl q111
                refine aw_l0 aj_d294 rfl rfl hlv106_3 ?_
                refine aw_z (tgt := 157) aj_d294 rfl rfl (fun q179 => ?_) (fun q179 => ?_)
                · have q179 : x93.toInt ≤ (0 : Int) := aw_t_le (a := x93.toInt) (b := (0 : Int)) rfl rfl q179
                  refine aw_l0 aj_d294 rfl rfl hlv106_3 ?_
                  refine aw_n aj_d294 rfl rfl ?_
                  refine aw_sub aj_d294 rfl (a := x93.toInt) (b := (1 : Int)) rfl rfl (by omega) (by omega) (fun x180 ex180 => ?_)
                  refine aw_t0 (j := 4) aj_d294 rfl (by decide) rfl ?_
                  obtain ⟨lv181, elv181⟩ : ∃ l, l = aj_set1 lv106 4 (.int x180) := ⟨_, rfl⟩
                  rw [← elv181]
                  have hlv181_0 : aj_lv lv181 0 = some (.ref 117) := cw_e1 elv181 hlv106_0 (by decide) (Or.inl (by decide))
                  have hlv181_2 : aj_lv lv181 2 = some (.int x86) := cw_e1 elv181 hlv106_2 (by decide) (Or.inl (by decide))
                  have hlv181_3 : aj_lv lv181 3 = some (.int x93) := cw_e1 elv181 hlv106_3 (by decide) (Or.inr rfl)
                  have hlv181_4 : aj_lv lv181 4 = some (.int x180) := by rw [elv181]; exact ak_set1_eq _ _ _
                  show aw_W _ _ _ _ 162 lv181 [] _ _
                  have L162_181 : ∀ (N : Nat) (S183 : aj_S) (lv184 : aj_V) (x185 : Int32), (aj_lv lv184 0 = some (.ref 117)) → (aj_lv lv184 2 = some (.int x86)) → (aj_lv lv184 3 = some (.int x93)) → (aj_lv lv184 4 = some (.int x185)) → (aw_I s h (aw_B) S183) → (aw_fr [58, 67, 69, 70] [26, 31] S S183) → ((-1) ≤ x185.toInt ∧ x185.toInt ≤ 30719) → (x185.toInt < x93.toInt ∨ x185.toInt ≤ 0) → (x185.toInt + 1).toNat < N → aw_W tb h d aj_m294 162 lv184 [] S183 ((fun r S' => ak_Ty ak_TN s (aj_mh h S') ∧ aw_fr [58, 67, 69, 70] [26, 31] S S' ∧ r = none ∧ aw_B S')) := by
                    intro N
                    induction N with
                    | zero =>
                      intro S183 lv184 x185 hlv184_0 hlv184_2 hlv184_3 hlv184_4 hI186 fr187 bx185 k162 hm
                      omega
                    | succ N ihL162_181 =>
                      intro S183 lv184 x185 hlv184_0 hlv184_2 hlv184_3 hlv184_4 hI186 fr187 bx185 k162 hm
                      have hI188 : aw_I s h (aw_sm S183) S183 := ⟨hI186.1, aw_sm_rf⟩
                      refine aw_l0 aj_d294 rfl rfl hlv184_4 ?_
                      refine aw_z (tgt := 211) aj_d294 rfl rfl (fun q189 => ?_) (fun q189 => ?_)
                      · have q189 : x185.toInt ≤ (0 : Int) := aw_t_le (a := x185.toInt) (b := (0 : Int)) rfl rfl q189
                        refine aw_l2 aj_d294 rfl rfl hlv184_0 ?_
                        refine aw_n aj_d294 rfl rfl ?_
                        refine aw_p hU.1 aj_d294 rfl rfl (by decide) rfl ?_
                        have hI190 := aw_I_f (aw_UV hU aw_Gs_sm) (k := 67) (v := (Int32.ofInt 0)) hI188 (by decide) (by decide) rfl (aw_bp (a := (0 : Int)) rfl (by omega) (by omega))
                        have fr191 := aw_fr_f (k := 67) (v := (Int32.ofInt 0)) (by decide) fr187
                        refine aw_n aj_d294 rfl rfl ?_
                        refine aw_t0 (j := 4) aj_d294 rfl (by decide) rfl ?_
                        obtain ⟨lv192, elv192⟩ : ∃ l, l = aj_set1 lv184 4 (.int (Int32.ofInt 0)) := ⟨_, rfl⟩
                        rw [← elv192]
                        have hlv192_0 : aj_lv lv192 0 = some (.ref 117) := cw_e1 elv192 hlv184_0 (by decide) (Or.inl (by decide))
                        have hlv192_2 : aj_lv lv192 2 = some (.int x86) := cw_e1 elv192 hlv184_2 (by decide) (Or.inl (by decide))
                        have hlv192_3 : aj_lv lv192 3 = some (.int x93) := cw_e1 elv192 hlv184_3 (by decide) (Or.inr rfl)
                        have hlv192_4 : aj_lv lv192 4 = some (.int (Int32.ofInt 0)) := by rw [elv192]; exact ak_set1_eq _ _ _
                        show aw_W _ _ _ _ 219 lv192 [] _ _
                        have L219_192 : ∀ (N : Nat) (S194 : aj_S) (lv195 : aj_V) (x196 : Int32), (aj_lv lv195 0 = some (.ref 117)) → (aj_lv lv195 2 = some (.int x86)) → (aj_lv lv195 3 = some (.int x93)) → (aj_lv lv195 4 = some (.int x196)) → (aw_I s h (aw_B) S194) → (aw_fr [58, 67, 69, 70] [26, 31] S S194) → (0 ≤ x196.toInt ∧ x196.toInt ≤ 30720) → ((S194.1 67).toInt ≤ x196.toInt) → (x196.toInt ≤ x93.toInt) → (30720 - x196.toInt).toNat < N → aw_W tb h d aj_m294 219 lv195 [] S194 ((fun r S' => ak_Ty ak_TN s (aj_mh h S') ∧ aw_fr [58, 67, 69, 70] [26, 31] S S' ∧ r = none ∧ aw_B S')) := by
                          intro N
                          induction N with
                          | zero =>
                            intro S194 lv195 x196 hlv195_0 hlv195_2 hlv195_3 hlv195_4 hI197 fr198 bx196 p219 n219 hm
                            omega
                          | succ N ihL219_192 =>
                            intro S194 lv195 x196 hlv195_0 hlv195_2 hlv195_3 hlv195_4 hI197 fr198 bx196 p219 n219 hm
                            have hI199 : aw_I s h (aw_sm S194) S194 := ⟨hI197.1, aw_sm_rf⟩
                            have b200 : 0 ≤ (S194.1 67).toInt ∧ (S194.1 67).toInt ≤ 30720 := aw_bd_f hs (hI199).1 (by decide) rfl
                            refine aw_l0 aj_d294 rfl rfl hlv195_4 ?_
                            refine aw_l0 aj_d294 rfl rfl hlv195_3 ?_
                            refine aw_c (tgt := 290) aj_d294 rfl rfl (fun q201 => ?_) (fun q201 => ?_)
                            · have q201 : x196.toInt ≥ x93.toInt := aw_t_ge (a := x196.toInt) (b := x93.toInt) rfl rfl q201
                              refine aw_e aj_d294 rfl rfl ?_
                              exact ⟨(hI199).1, fr198, rfl, hI197.2⟩
                            · have q201 : x196.toInt < x93.toInt := aw_t_ge (a := x196.toInt) (b := x93.toInt) rfl rfl q201
                              refine aw_l2 aj_d294 rfl rfl hlv195_0 ?_
                              refine aw_g hU.1 aj_d294 rfl rfl (by decide) (v := .int (S194.1 67)) rfl ?_
                              refine aw_z (tgt := 258) aj_d294 rfl rfl (fun q202 => ?_) (fun q202 => ?_)
                              · have q202 : (S194.1 67).toInt = (0 : Int) := aw_t_eq (a := (S194.1 67).toInt) (b := (0 : Int)) rfl rfl q202
                                refine aw_l2 aj_d294 rfl rfl hlv195_0 ?_
                                refine aw_g hU.1 aj_d294 rfl rfl (by decide) (v := .ref 148) rfl ?_
                                refine aw_l2 aj_d294 rfl rfl hlv195_0 ?_
                                refine aw_g hU.1 aj_d294 rfl rfl (by decide) (v := .int (S194.1 67)) rfl ?_
                                refine aw_l2 aj_d294 rfl rfl hlv195_0 ?_
                                refine aw_g hU.1 aj_d294 rfl rfl (by decide) (v := .ref 148) rfl ?_
                                refine aw_l0 aj_d294 rfl rfl hlv195_4 ?_
                                refine aw_ld (k := 31) hU.1 aj_d294 (Or.inl ⟨rfl, rfl⟩) rfl (by decide) (by decide) rfl (a := x196.toInt) rfl (by omega) (by omega) (fun x203 ex203 => ?_)
                                have bx203 : 0 ≤ x203.toInt ∧ x203.toInt ≤ 30719 := by
                                  rw [ex203]
                                  exact aw_bd_a hs (hI199).1 (k := 31) (by decide) (by decide) rfl (by decide) rfl (by omega)
                                refine aw_st (k := 31) hU.1 aj_d294 (Or.inl ⟨rfl, rfl⟩) rfl (by decide) (by decide) rfl (a := (S194.1 67).toInt) rfl (by omega) (by omega) ?_
                                have hI204 := aw_I_a (aw_UV hU aw_Gs_sm) (k := 31) (j := ((S194.1 67).toInt).toNat) (v := aj_nar 0 x203) hI199 (by decide) (by decide) (by decide) rfl (by decide) (by decide) rfl (aw_bp (a := x203.toInt) rfl (by omega) (by omega))
                                have fr205 := aw_fr_a (k := 31) (j := ((S194.1 67).toInt).toNat) (v := aj_nar 0 x203) (by decide) fr198
                                refine aw_l2 aj_d294 rfl rfl hlv195_0 ?_
                                refine aw_n aj_d294 rfl rfl ?_
                                refine aw_g hU.1 aj_d294 rfl rfl (by decide) (v := .int (S194.1 67)) rfl ?_
                                refine aw_n aj_d294 rfl rfl ?_
                                refine aw_add aj_d294 rfl (a := (S194.1 67).toInt) (b := (1 : Int)) rfl rfl (by omega) (by omega) (fun x206 ex206 => ?_)
                                refine aw_p hU.1 aj_d294 rfl rfl (by decide) rfl ?_
                                have hI207 := aw_I_f (aw_UV hU aw_Gs_sm) (k := 67) (v := x206) hI204 (by decide) (by decide) rfl (aw_bp (a := x206.toInt) rfl (by omega) (by omega))
                                have fr208 := aw_fr_f (k := 67) (v := x206) (by decide) fr205
                                refine aw_inc aj_d294 rfl hlv195_4 (a := x196.toInt) rfl (by omega) (by omega) (by decide) (by decide) (fun x209 ex209 => ?_)
                                obtain ⟨lv210, elv210⟩ : ∃ l, l = aj_set1 lv195 4 (.int x209) := ⟨_, rfl⟩
                                rw [← elv210]
                                have hlv210_0 : aj_lv lv210 0 = some (.ref 117) := cw_e1 elv210 hlv195_0 (by decide) (Or.inl (by decide))
                                have hlv210_2 : aj_lv lv210 2 = some (.int x86) := cw_e1 elv210 hlv195_2 (by decide) (Or.inl (by decide))
                                have hlv210_3 : aj_lv lv210 3 = some (.int x93) := cw_e1 elv210 hlv195_3 (by decide) (Or.inr rfl)
                                have hlv210_4 : aj_lv lv210 4 = some (.int x209) := by rw [elv210]; exact ak_set1_eq _ _ _
                                show aw_W _ _ _ _ 287 lv210 [] _ _
                                refine aw_n aj_d294 rfl rfl ?_
                                exact ihL219_192 (aw_wf (aw_wa S194 31 ((S194.1 67).toInt).toNat (aj_nar 0 x203)) 67 x206) lv210 (x209) hlv210_0 hlv210_2 hlv210_3 hlv210_4 ⟨(hI207).1, (aw_B_sm hI207.2 hI197.2)⟩ fr208 (by omega) (show (x206).toInt ≤ _ by omega) (by omega) (by omega)
                              · have q202 : (S194.1 67).toInt ≠ (0 : Int) := aw_t_eq (a := (S194.1 67).toInt) (b := (0 : Int)) rfl rfl q202
                                refine aw_l2 aj_d294 rfl rfl hlv195_0 ?_
                                refine aw_l0 aj_d294 rfl rfl hlv195_2 ?_
                                refine aw_l2 aj_d294 rfl rfl hlv195_0 ?_
                                refine aw_g hU.1 aj_d294 rfl rfl (by decide) (v := .ref 148) rfl ?_
                                refine aw_l2 aj_d294 rfl rfl hlv195_0 ?_
                                refine aw_g hU.1 aj_d294 rfl rfl (by decide) (v := .int (S194.1 67)) rfl ?_
                                refine aw_n aj_d294 rfl rfl ?_
                                refine aw_sub aj_d294 rfl (a := (S194.1 67).toInt) (b := (1 : Int)) rfl rfl (by omega) (by omega) (fun x211 ex211 => ?_)
                                refine aw_ld (k := 31) hU.1 aj_d294 (Or.inl ⟨rfl, rfl⟩) rfl (by decide) (by decide) rfl (a := x211.toInt) rfl (by omega) (by omega) (fun x212 ex212 => ?_)
                                have bx212 : 0 ≤ x212.toInt ∧ x212.toInt ≤ 30719 := by
                                  rw [ex212]
                                  exact aw_bd_a hs (hI199).1 (k := 31) (by decide) (by decide) rfl (by decide) rfl (by omega)
                                refine aw_l2 aj_d294 rfl rfl hlv195_0 ?_
                                refine aw_g hU.1 aj_d294 rfl rfl (by decide) (v := .ref 148) rfl ?_
                                refine aw_l0 aj_d294 rfl rfl hlv195_4 ?_
                                refine aw_ld (k := 31) hU.1 aj_d294 (Or.inl ⟨rfl, rfl⟩) rfl (by decide) (by decide) rfl (a := x196.toInt) rfl (by omega) (by omega) (fun x213 ex213 => ?_)
                                have bx213 : 0 ≤ x213.toInt ∧ x213.toInt ≤ 30719 := by
                                  rw [ex213]
                                  exact aw_bd_a hs (hI199).1 (k := 31) (by decide) (by decide) rfl (by decide) rfl (by omega)
                                have b214 : 0 ≤ (S.1 30).toInt ∧ (S.1 30).toInt ≤ 1001 := aw_bd_f hs (hI77).1 (by decide) rfl
                                have c215 : (S194.1 30).toInt = (S.1 30).toInt := (congrArg Int32.toInt (fr198.1 30 (by decide)).1).trans rfl
                                have b216 : 0 ≤ (S194.1 30).toInt ∧ (S194.1 30).toInt ≤ 1001 := aw_bd_f hs (hI199).1 (by decide) rfl
                                refine aw_k hU.1 aj_d294 rfl rfl [_, _, _] rfl rfl rfl (Nat.le_of_ble_eq_true rfl) (aw_toK hU aw_Gs_B (con := ac_c296) (by omega) (ar_296 hU.2.1 (aw_SPc hU.2.2 aw_Gs_B) aw_kpc (arc_258 hU aw_Gs_B (fun _ q => q.1))) ⟨(hI199).1, hI197.2⟩ ⟨(aw_g117 hU.2.2), (cw_gw (a := x86.toInt) rfl (by omega) (by omega)), (cw_gw (a := x212.toInt) rfl (by omega) (by omega)), (cw_gw (a := x213.toInt) rfl (by omega) (by omega)), trivial⟩ (fun e he => nomatch he)) ?_
                                rintro r217 S217 ⟨hr217, hJ217, fc217, po217, -⟩
                                have hT217 := hJ217.1
                                replace fc217 := aw_fr_sub (F' := []) (A' := []) (by decide) (by decide) fc217
                                have fr218 := aw_fr_tr fr198 (aw_fr_sub (F := []) (A := []) (by decide) (by decide) fc217)
                                have hI219 : aw_I s h (aw_sm S194) S217 := ⟨hT217, aw_sm_tr hI199.2 (aw_fr_sm (by decide) (by decide) (by decide) (F := []) (A := []) fc217)⟩
                                obtain ⟨b217, rfl, bb217⟩ := cw_rI hr217
                                show aw_W _ _ _ _ 255 lv195 [.int b217] _ _
                                refine aw_z (tgt := 284) aj_d294 rfl rfl (fun q220 => ?_) (fun q220 => ?_)
                                · have q220 : b217.toInt = (0 : Int) := aw_t_eq (a := b217.toInt) (b := (0 : Int)) rfl rfl q220
                                  refine aw_inc aj_d294 rfl hlv195_4 (a := x196.toInt) rfl (by omega) (by omega) (by decide) (by decide) (fun x221 ex221 => ?_)
                                  obtain ⟨lv222, elv222⟩ : ∃ l, l = aj_set1 lv195 4 (.int x221) := ⟨_, rfl⟩
                                  rw [← elv222]
                                  have hlv222_0 : aj_lv lv222 0 = some (.ref 117) := cw_e1 elv222 hlv195_0 (by decide) (Or.inl (by decide))
                                  have hlv222_2 : aj_lv lv222 2 = some (.int x86) := cw_e1 elv222 hlv195_2 (by decide) (Or.inl (by decide))
                                  have hlv222_3 : aj_lv lv222 3 = some (.int x93) := cw_e1 elv222 hlv195_3 (by decide) (Or.inr rfl)
                                  have hlv222_4 : aj_lv lv222 4 = some (.int x221) := by rw [elv222]; exact ak_set1_eq _ _ _
                                  show aw_W _ _ _ _ 287 lv222 [] _ _
                                  refine aw_n aj_d294 rfl rfl ?_
                                  have c223 : (S217.1 67).toInt = (S194.1 67).toInt := (congrArg Int32.toInt (fc217.1 67 (by decide)).1).trans rfl
                                  have b224 : 0 ≤ (S217.1 67).toInt ∧ (S217.1 67).toInt ≤ 30720 := aw_bd_f hs (hI219).1 (by decide) rfl
                                  exact ihL219_192 S217 lv222 (x221) hlv222_0 hlv222_2 hlv222_3 hlv222_4 ⟨(hI219).1, (aw_B_sm hI219.2 hI197.2)⟩ fr218 (by omega) (show ((S217.1 67)).toInt ≤ _ by omega) (by omega) (by omega)
                                · have q220 : b217.toInt ≠ (0 : Int) := aw_t_eq (a := b217.toInt) (b := (0 : Int)) rfl rfl q220
                                  refine aw_l2 aj_d294 rfl rfl hlv195_0 ?_
                                  refine aw_g hU.1 aj_d294 rfl rfl (by decide) (v := .ref 148) rfl ?_
                                  refine aw_l2 aj_d294 rfl rfl hlv195_0 ?_
                                  have c225 : (S217.1 67).toInt = (S194.1 67).toInt := (congrArg Int32.toInt (fc217.1 67 (by decide)).1).trans rfl
                                  have b226 : 0 ≤ (S217.1 67).toInt ∧ (S217.1 67).toInt ≤ 30720 := aw_bd_f hs (hI219).1 (by decide) rfl
                                  refine aw_g hU.1 aj_d294 rfl rfl (by decide) (v := .int (S217.1 67)) rfl ?_
                                  refine aw_l2 aj_d294 rfl rfl hlv195_0 ?_
                                  refine aw_g hU.1 aj_d294 rfl rfl (by decide) (v := .ref 148) rfl ?_
                                  refine aw_l0 aj_d294 rfl rfl hlv195_4 ?_
                                  refine aw_ld (k := 31) hU.1 aj_d294 (Or.inl ⟨rfl, rfl⟩) rfl (by decide) (by decide) rfl (a := x196.toInt) rfl (by omega) (by omega) (fun x227 ex227 => ?_)
                                  have bx227 : 0 ≤ x227.toInt ∧ x227.toInt ≤ 30719 := by
                                    rw [ex227]
                                    exact aw_bd_a hs (hI219).1 (k := 31) (by decide) (by decide) rfl (by decide) rfl (by omega)
                                  refine aw_st (k := 31) hU.1 aj_d294 (Or.inl ⟨rfl, rfl⟩) rfl (by decide) (by decide) rfl (a := (S194.1 67).toInt) c225 (by omega) (by omega) ?_
                                  have hI228 := aw_I_a (aw_UV hU aw_Gs_sm) (k := 31) (j := ((S194.1 67).toInt).toNat) (v := aj_nar 0 x227) hI219 (by decide) (by decide) (by decide) rfl (by decide) (by decide) rfl (aw_bp (a := x227.toInt) rfl (by omega) (by omega))
                                  have fr229 := aw_fr_a (k := 31) (j := ((S194.1 67).toInt).toNat) (v := aj_nar 0 x227) (by decide) fr218
                                  refine aw_l2 aj_d294 rfl rfl hlv195_0 ?_
                                  refine aw_n aj_d294 rfl rfl ?_
                                  refine aw_g hU.1 aj_d294 rfl rfl (by decide) (v := .int (S217.1 67)) rfl ?_
                                  refine aw_n aj_d294 rfl rfl ?_
                                  refine aw_add aj_d294 rfl (a := (S194.1 67).toInt) (b := (1 : Int)) c225 rfl (by omega) (by omega) (fun x230 ex230 => ?_)
                                  refine aw_p hU.1 aj_d294 rfl rfl (by decide) rfl ?_
                                  have hI231 := aw_I_f (aw_UV hU aw_Gs_sm) (k := 67) (v := x230) hI228 (by decide) (by decide) rfl (aw_bp (a := x230.toInt) rfl (by omega) (by omega))
                                  have fr232 := aw_fr_f (k := 67) (v := x230) (by decide) fr229
                                  refine aw_inc aj_d294 rfl hlv195_4 (a := x196.toInt) rfl (by omega) (by omega) (by decide) (by decide) (fun x233 ex233 => ?_)
                                  obtain ⟨lv234, elv234⟩ : ∃ l, l = aj_set1 lv195 4 (.int x233) := ⟨_, rfl⟩
                                  rw [← elv234]
                                  have hlv234_0 : aj_lv lv234 0 = some (.ref 117) := cw_e1 elv234 hlv195_0 (by decide) (Or.inl (by decide))
                                  have hlv234_2 : aj_lv lv234 2 = some (.int x86) := cw_e1 elv234 hlv195_2 (by decide) (Or.inl (by decide))
                                  have hlv234_3 : aj_lv lv234 3 = some (.int x93) := cw_e1 elv234 hlv195_3 (by decide) (Or.inr rfl)
                                  have hlv234_4 : aj_lv lv234 4 = some (.int x233) := by rw [elv234]; exact ak_set1_eq _ _ _
                                  show aw_W _ _ _ _ 287 lv234 [] _ _
                                  refine aw_n aj_d294 rfl rfl ?_
                                  exact ihL219_192 (aw_wf (aw_wa S217 31 ((S194.1 67).toInt).toNat (aj_nar 0 x227)) 67 x230) lv234 (x233) hlv234_0 hlv234_2 hlv234_3 hlv234_4 ⟨(hI231).1, (aw_B_sm hI231.2 hI197.2)⟩ fr232 (by omega) (show (x230).toInt ≤ _ by omega) (by omega) (by omega)
                        exact L219_192 _ (aw_wf S183 67 (Int32.ofInt 0)) lv192 ((Int32.ofInt 0)) hlv192_0 hlv192_2 hlv192_3 hlv192_4 ⟨(hI190).1, (aw_B_sm hI190.2 hI186.2)⟩ fr191 (by first | omega | decide) (show (0 : Int) ≤ 0 by omega) (show (0 : Int) ≤ x93.toInt by omega) (Nat.lt_succ_self _)
                      · have q189 : x185.toInt > (0 : Int) := aw_t_le (a := x185.toInt) (b := (0 : Int)) rfl rfl q189
                        refine aw_l2 aj_d294 rfl rfl hlv184_0 ?_
                        refine aw_g hU.1 aj_d294 rfl rfl (by decide) (v := .ref 148) rfl ?_
                        refine aw_l0 aj_d294 rfl rfl hlv184_4 ?_
                        refine aw_ld (k := 31) hU.1 aj_d294 (Or.inl ⟨rfl, rfl⟩) rfl (by decide) (by decide) rfl (a := x185.toInt) rfl (by omega) (by omega) (fun x235 ex235 => ?_)
                        have bx235 : 0 ≤ x235.toInt ∧ x235.toInt ≤ 30719 := by
                          rw [ex235]
                          exact aw_bd_a hs (hI188).1 (k := 31) (by decide) (by decide) rfl (by decide) rfl (by omega)
                        refine aw_t0 (j := 5) aj_d294 rfl (by decide) rfl ?_
                        obtain ⟨lv236, elv236⟩ : ∃ l, l = aj_set1 lv184 5 (.int x235) := ⟨_, rfl⟩
                        rw [← elv236]
                        have hlv236_0 : aj_lv lv236 0 = some (.ref 117) := cw_e1 elv236 hlv184_0 (by decide) (Or.inl (by decide))
                        have hlv236_2 : aj_lv lv236 2 = some (.int x86) := cw_e1 elv236 hlv184_2 (by decide) (Or.inl (by decide))
                        have hlv236_3 : aj_lv lv236 3 = some (.int x93) := cw_e1 elv236 hlv184_3 (by decide) (Or.inl (by decide))
                        have hlv236_4 : aj_lv lv236 4 = some (.int x185) := cw_e1 elv236 hlv184_4 (by decide) (Or.inr rfl)
                        have hlv236_5 : aj_lv lv236 5 = some (.int x235) := by rw [elv236]; exact ak_set1_eq _ _ _
                        show aw_W _ _ _ _ 176 lv236 [] _ _
                        refine aw_l2 aj_d294 rfl rfl hlv236_0 ?_
                        refine aw_g hU.1 aj_d294 rfl rfl (by decide) (v := .ref 148) rfl ?_
                        refine aw_l0 aj_d294 rfl rfl hlv236_4 ?_
                        refine aw_l2 aj_d294 rfl rfl hlv236_0 ?_
                        refine aw_g hU.1 aj_d294 rfl rfl (by decide) (v := .ref 148) rfl ?_
                        refine aw_n aj_d294 rfl rfl ?_
                        refine aw_ld (k := 31) hU.1 aj_d294 (Or.inl ⟨rfl, rfl⟩) rfl (by decide) (by decide) rfl (a := (0 : Int)) rfl (by omega) (by omega) (fun x237 ex237 => ?_)
                        have bx237 : 0 ≤ x237.toInt ∧ x237.toInt ≤ 30719 := by
                          rw [ex237]
                          exact aw_bd_a hs (hI188).1 (k := 31) (by decide) (by decide) rfl (by decide) rfl (by omega)
                        refine aw_st (k := 31) hU.1 aj_d294 (Or.inl ⟨rfl, rfl⟩) rfl (by decide) (by decide) rfl (a := x185.toInt) rfl (by omega) (by omega) ?_
                        have hI238 := aw_I_a (aw_UV hU aw_Gs_sm) (k := 31) (j := (x185.toInt).toNat) (v := aj_nar 0 x237) hI188 (by decide) (by decide) (by decide) rfl (by decide) (by decide) rfl (aw_bp (a := x237.toInt) rfl (by omega) (by omega))
                        have fr239 := aw_fr_a (k := 31) (j := (x185.toInt).toNat) (v := aj_nar 0 x237) (by decide) fr187
                        refine aw_l2 aj_d294 rfl rfl hlv236_0 ?_
                        refine aw_g hU.1 aj_d294 rfl rfl (by decide) (v := .ref 148) rfl ?_
                        refine aw_n aj_d294 rfl rfl ?_
                        refine aw_l0 aj_d294 rfl rfl hlv236_5 ?_
                        refine aw_st (k := 31) hU.1 aj_d294 (Or.inl ⟨rfl, rfl⟩) rfl (by decide) (by decide) rfl (a := (0 : Int)) rfl (by omega) (by omega) ?_
                        have hI240 := aw_I_a (aw_UV hU aw_Gs_sm) (k := 31) (j := ((0 : Int)).toNat) (v := aj_nar 0 x235) hI238 (by decide) (by decide) (by decide) rfl (by decide) (by decide) rfl (aw_bp (a := x235.toInt) rfl (by omega) (by omega))
                        have fr241 := aw_fr_a (k := 31) (j := ((0 : Int)).toNat) (v := aj_nar 0 x235) (by decide) fr239
                        refine aw_l2 aj_d294 rfl rfl hlv236_0 ?_
                        refine aw_l0 aj_d294 rfl rfl hlv236_2 ?_
                        refine aw_n aj_d294 rfl rfl ?_
                        refine aw_l0 aj_d294 rfl rfl hlv236_4 ?_
                        refine aw_k hU.1 aj_d294 rfl rfl [_, _, _] rfl rfl rfl (Nat.le_of_ble_eq_true rfl) (ar_sink hU (hI240).1 (aw_B_sm hI240.2 hI186.2) (by omega) (x := x86) (y := (Int32.ofInt 0)) (z := x185) (by omega) (by first | omega | (show 0 ≤ (0 : Int) ∧ (0 : Int) < _; omega)) (by omega)) ?_
                        rintro _ S242 ⟨hT242, fc242, rfl, hB242⟩
                        have fr243 := aw_fr_tr fr241 (aw_fr_sub (F := []) (A := [31]) (by decide) (by decide) fc242)
                        have hI244 : aw_I s h (aw_sm S242) S242 := ⟨hT242, aw_sm_rf⟩
                        show aw_W _ _ _ _ 205 lv236 [] _ _
                        refine aw_inc aj_d294 rfl hlv236_4 (a := x185.toInt) rfl (by omega) (by omega) (by decide) (by decide) (fun x245 ex245 => ?_)
                        obtain ⟨lv246, elv246⟩ : ∃ l, l = aj_set1 lv236 4 (.int x245) := ⟨_, rfl⟩
                        rw [← elv246]
                        have hlv246_0 : aj_lv lv246 0 = some (.ref 117) := cw_e1 elv246 hlv236_0 (by decide) (Or.inl (by decide))
                        have hlv246_2 : aj_lv lv246 2 = some (.int x86) := cw_e1 elv246 hlv236_2 (by decide) (Or.inl (by decide))
                        have hlv246_3 : aj_lv lv246 3 = some (.int x93) := cw_e1 elv246 hlv236_3 (by decide) (Or.inr rfl)
                        have hlv246_4 : aj_lv lv246 4 = some (.int x245) := by rw [elv246]; exact ak_set1_eq _ _ _
                        show aw_W _ _ _ _ 208 lv246 [] _ _
                        refine aw_n aj_d294 rfl rfl ?_
                        exact ihL162_181 S242 lv246 (x245) hlv246_0 hlv246_2 hlv246_3 hlv246_4 ⟨(hI244).1, hB242⟩ fr243 (by omega) (by omega) (by omega)
                  exact L162_181 _ S105 lv181 (x180) hlv181_0 hlv181_2 hlv181_3 hlv181_4 ⟨(hI110).1, hI108.2⟩ fr109 (by omega) (by omega) (Nat.lt_succ_self _)
                · have q179 : x93.toInt > (0 : Int) := aw_t_le (a := x93.toInt) (b := (0 : Int)) rfl rfl q179
                  refine aw_l2 aj_d294 rfl rfl hlv106_0 ?_
                  refine aw_l0 aj_d294 rfl rfl hlv106_2 ?_
                  refine aw_l0 aj_d294 rfl rfl hlv106_4 ?_
                  refine aw_l0 aj_d294 rfl rfl hlv106_3 ?_
                  refine aw_k hU.1 aj_d294 rfl rfl [_, _, _] rfl rfl rfl (Nat.le_of_ble_eq_true rfl) (ar_sink hU (hI110).1 hI108.2 (by omega) (x := x86) (y := x107) (z := x93) (by omega) (by first | omega | (show 0 ≤ (0 : Int) ∧ (0 : Int) < _; omega)) (by omega)) ?_
                  rintro _ S247 ⟨hT247, fc247, rfl, hB247⟩
                  have fr248 := aw_fr_tr fr109 (aw_fr_sub (F := []) (A := [31]) (by decide) (by decide) fc247)
                  have hI249 : aw_I s h (aw_sm S247) S247 := ⟨hT247, aw_sm_rf⟩
                  show aw_W _ _ _ _ 151 lv106 [] _ _
                  refine aw_inc aj_d294 rfl hlv106_4 (a := x107.toInt) rfl (by omega) (by omega) (by decide) (by decide) (fun x250 ex250 => ?_)
                  obtain ⟨lv251, elv251⟩ : ∃ l, l = aj_set1 lv106 4 (.int x250) := ⟨_, rfl⟩
                  rw [← elv251]
                  have hlv251_0 : aj_lv lv251 0 = some (.ref 117) := cw_e1 elv251 hlv106_0 (by decide) (Or.inl (by decide))
                  have hlv251_2 : aj_lv lv251 2 = some (.int x86) := cw_e1 elv251 hlv106_2 (by decide) (Or.inl (by decide))
                  have hlv251_3 : aj_lv lv251 3 = some (.int x93) := cw_e1 elv251 hlv106_3 (by decide) (Or.inr rfl)
                  have hlv251_4 : aj_lv lv251 4 = some (.int x250) := by rw [elv251]; exact ak_set1_eq _ _ _
                  show aw_W _ _ _ _ 154 lv251 [] _ _
                  refine aw_n aj_d294 rfl rfl ?_
                  exact ihL134_103 S247 lv251 (x250) hlv251_0 hlv251_2 hlv251_3 hlv251_4 ⟨(hI249).1, hB247⟩ fr248 (by omega) (by omega) (by omega)
          exact L134_103 _ S91 lv103 (x102) hlv103_0 hlv103_2 hlv103_3 hlv103_4 ⟨(hI97).1, hI95.2⟩ fr96 (by omega) (by omega) (Nat.lt_succ_self _)
        · have q101 : x94.toInt < x100.toInt := aw_t_ge (a := x94.toInt) (b := x100.toInt) rfl rfl q101
          refine aw_l2 aj_d294 rfl rfl hlv92_0 ?_
          refine aw_l2 aj_d294 rfl rfl hlv92_0 ?_
          refine aw_g hU.1 aj_d294 rfl rfl (by decide) (v := .int (S91.1 0)) rfl ?_
          refine aw_l0 aj_d294 rfl rfl hlv92_4 ?_
          refine aw_k hU.1 aj_d294 rfl rfl [_, _] rfl rfl rfl (Nat.le_of_ble_eq_true rfl) (ar_isHeld hU (hI97).1 (by omega) (t := (S91.1 0)) (x := x94) (by omega) (by omega)) ?_
          rintro _ zb252 ⟨fb252, b252, rfl, kb252⟩
          rw [fb252]
          rcases kb252 with ⟨hb252, pb252⟩ | ⟨hb252, pb252⟩
          · skip
            show aw_W _ _ _ _ 73 lv92 [.int b252] _ _
            refine aw_z (tgt := 123) aj_d294 rfl rfl (fun q253 => ?_) (fun q253 => ?_)
            · have q253 : (1 : Int) = (0 : Int) := aw_t_eq (a := (1 : Int)) (b := (0 : Int)) hb252 rfl q253
              exfalso
              omega
            · have q253 : (1 : Int) ≠ (0 : Int) := aw_t_eq (a := (1 : Int)) (b := (0 : Int)) hb252 rfl q253
              refine aw_l2 aj_d294 rfl rfl hlv92_0 ?_
              refine aw_l0 aj_d294 rfl rfl hlv92_2 ?_
              refine aw_l0 aj_d294 rfl rfl hlv92_4 ?_
              have b254 : 0 ≤ (S.1 30).toInt ∧ (S.1 30).toInt ≤ 1001 := aw_bd_f hs (hI77).1 (by decide) rfl
              have c255 : (S91.1 30).toInt = (S.1 30).toInt := (congrArg Int32.toInt (fr96.1 30 (by decide)).1).trans rfl
              have b256 : 0 ≤ (S91.1 30).toInt ∧ (S91.1 30).toInt ≤ 1001 := aw_bd_f hs (hI97).1 (by decide) rfl
              refine aw_k hU.1 aj_d294 rfl rfl [_, _] rfl rfl rfl (Nat.le_of_ble_eq_true rfl) (aw_toK hU aw_Gs_B (con := ac_c266) (by omega) (ar_266 hU.2.1 (aw_SPc hU.2.2 aw_Gs_B) aw_kpc (arc_258 hU aw_Gs_B (fun _ q => q.1))) ⟨(hI97).1, hI95.2⟩ ⟨(aw_g117 hU.2.2), (cw_gw (a := x86.toInt) rfl (by omega) (by omega)), (cw_gw (a := x94.toInt) rfl (by omega) (by omega)), trivial⟩ (fun e he => nomatch he)) ?_
              rintro r257 S257 ⟨hr257, hJ257, fc257, po257, -⟩
              have hT257 := hJ257.1
              replace fc257 := aw_fr_sub (F' := [58]) (A' := [26]) (by decide) (by decide) fc257
              have fr258 := aw_fr_tr fr96 (aw_fr_sub (F := [58]) (A := [26]) (by decide) (by decide) fc257)
              have hI259 : aw_I s h (aw_sm S91) S257 := ⟨hT257, aw_sm_tr hI97.2 (aw_fr_sm (by decide) (by decide) (by decide) (F := [58]) (A := [26]) fc257)⟩
              obtain rfl := cw_rN hr257
              show aw_W _ _ _ _ 83 lv92 [] _ _
              refine aw_n aj_d294 rfl rfl ?_
              refine aw_t0 (j := 5) aj_d294 rfl (by decide) rfl ?_
              obtain ⟨lv260, elv260⟩ : ∃ l, l = aj_set1 lv92 5 (.int (Int32.ofInt 0)) := ⟨_, rfl⟩
              rw [← elv260]
              have hlv260_0 : aj_lv lv260 0 = some (.ref 117) := cw_e1 elv260 hlv92_0 (by decide) (Or.inl (by decide))
              have hlv260_2 : aj_lv lv260 2 = some (.int x86) := cw_e1 elv260 hlv92_2 (by decide) (Or.inl (by decide))
              have hlv260_3 : aj_lv lv260 3 = some (.int x93) := cw_e1 elv260 hlv92_3 (by decide) (Or.inl (by decide))
              have hlv260_4 : aj_lv lv260 4 = some (.int x94) := cw_e1 elv260 hlv92_4 (by decide) (Or.inr rfl)
              have hlv260_5 : aj_lv lv260 5 = some (.int (Int32.ofInt 0)) := by rw [elv260]; exact ak_set1_eq _ _ _
              show aw_W _ _ _ _ 86 lv260 [] _ _
              have L86_260 : ∀ (N : Nat) (S262 : aj_S) (lv263 : aj_V) (x264 : Int32) (x265 : Int32), (aj_lv lv263 0 = some (.ref 117)) → (aj_lv lv263 2 = some (.int x86)) → (aj_lv lv263 3 = some (.int x264)) → (aj_lv lv263 4 = some (.int x94)) → (aj_lv lv263 5 = some (.int x265)) → (aw_I s h (aw_B) S262) → (aw_fr [58, 67, 69, 70] [26, 31] S S262) → (0 ≤ x264.toInt ∧ x264.toInt ≤ 30720) → (0 ≤ x265.toInt ∧ x265.toInt ≤ 30) → (x264.toInt ≤ 30 * x94.toInt + x265.toInt) → (30 - x265.toInt).toNat < N → aw_W tb h d aj_m294 86 lv263 [] S262 ((fun r S' => ak_Ty ak_TN s (aj_mh h S') ∧ aw_fr [58, 67, 69, 70] [26, 31] S S' ∧ r = none ∧ aw_B S')) := by
                intro N
                induction N with
                | zero =>
                  intro S262 lv263 x264 x265 hlv263_0 hlv263_2 hlv263_3 hlv263_4 hlv263_5 hI266 fr267 bx264 bx265 n86 hm
                  omega
                | succ N ihL86_260 =>
                  intro S262 lv263 x264 x265 hlv263_0 hlv263_2 hlv263_3 hlv263_4 hlv263_5 hI266 fr267 bx264 bx265 n86 hm
                  have hI268 : aw_I s h (aw_sm S262) S262 := ⟨hI266.1, aw_sm_rf⟩
                  refine aw_l0 aj_d294 rfl rfl hlv263_5 ?_
                  refine aw_l2 aj_d294 rfl rfl hlv263_0 ?_
                  have b269 : 0 ≤ (S262.1 58).toInt ∧ (S262.1 58).toInt ≤ 30 := aw_bd_f hs (hI268).1 (by decide) rfl
                  refine aw_g hU.1 aj_d294 rfl rfl (by decide) (v := .int (S262.1 58)) rfl ?_
                  refine aw_c (tgt := 123) aj_d294 rfl rfl (fun q270 => ?_) (fun q270 => ?_)
                  · have q270 : x265.toInt ≥ (S262.1 58).toInt := aw_t_ge (a := x265.toInt) (b := (S262.1 58).toInt) rfl rfl q270
                    refine aw_inc aj_d294 rfl hlv263_4 (a := x94.toInt) rfl (by omega) (by omega) (by decide) (by decide) (fun x271 ex271 => ?_)
                    obtain ⟨lv272, elv272⟩ : ∃ l, l = aj_set1 lv263 4 (.int x271) := ⟨_, rfl⟩
                    rw [← elv272]
                    have hlv272_0 : aj_lv lv272 0 = some (.ref 117) := cw_e1 elv272 hlv263_0 (by decide) (Or.inl (by decide))
                    have hlv272_2 : aj_lv lv272 2 = some (.int x86) := cw_e1 elv272 hlv263_2 (by decide) (Or.inl (by decide))
                    have hlv272_3 : aj_lv lv272 3 = some (.int x264) := cw_e1 elv272 hlv263_3 (by decide) (Or.inr rfl)
                    have hlv272_4 : aj_lv lv272 4 = some (.int x271) := by rw [elv272]; exact ak_set1_eq _ _ _
                    show aw_W _ _ _ _ 126 lv272 [] _ _
                    refine aw_n aj_d294 rfl rfl ?_
                    exact ihL49_89 S262 lv272 (x264) (x271) hlv272_0 hlv272_2 hlv272_3 hlv272_4 ⟨(hI268).1, hI266.2⟩ fr267 (by omega) (by omega) (by omega) (by omega)
                  · have q270 : x265.toInt < (S262.1 58).toInt := aw_t_ge (a := x265.toInt) (b := (S262.1 58).toInt) rfl rfl q270
                    refine aw_l2 aj_d294 rfl rfl hlv263_0 ?_
                    refine aw_g hU.1 aj_d294 rfl rfl (by decide) (v := .ref 148) rfl ?_
                    refine aw_l0 aj_d294 rfl rfl hlv263_3 ?_
                    refine aw_l2 aj_d294 rfl rfl hlv263_0 ?_
                    refine aw_g hU.1 aj_d294 rfl rfl (by decide) (v := .ref 143) rfl ?_
                    refine aw_l0 aj_d294 rfl rfl hlv263_5 ?_
                    refine aw_ld (k := 26) hU.1 aj_d294 (Or.inl ⟨rfl, rfl⟩) rfl (by decide) (by decide) rfl (a := x265.toInt) rfl (by omega) (by omega) (fun x273 ex273 => ?_)
                    have bx273 : 0 ≤ x273.toInt ∧ x273.toInt ≤ 29 := by
                      rw [ex273]
                      exact aw_bd_a hs (hI268).1 (k := 26) (by decide) (by decide) rfl (by decide) rfl (by omega)
                    refine aw_n aj_d294 rfl rfl ?_
                    refine aw_any aj_d294 rfl rfl (fun x274 ex274 => ?_)
                    refine aw_l0 aj_d294 rfl rfl hlv263_4 ?_
                    refine aw_any aj_d294 rfl rfl (fun x275 ex275 => ?_)
                    have bx275 : 0 ≤ x275.toInt ∧ x275.toInt ≤ 30719 := by
                      rw [ex275, ex274]
                      exact ar_pk (by omega) (by omega)
                    refine aw_st (k := 31) hU.1 aj_d294 (Or.inl ⟨rfl, rfl⟩) rfl (by decide) (by decide) rfl (a := x264.toInt) rfl (by omega) (by omega) ?_
                    have hI276 := aw_I_a (aw_UV hU aw_Gs_sm) (k := 31) (j := (x264.toInt).toNat) (v := aj_nar 0 x275) hI268 (by decide) (by decide) (by decide) rfl (by decide) (by decide) rfl (aw_bp (a := x275.toInt) rfl (by omega) (by omega))
                    have fr277 := aw_fr_a (k := 31) (j := (x264.toInt).toNat) (v := aj_nar 0 x275) (by decide) fr267
                    refine aw_inc aj_d294 rfl hlv263_3 (a := x264.toInt) rfl (by omega) (by omega) (by decide) (by decide) (fun x278 ex278 => ?_)
                    obtain ⟨lv279, elv279⟩ : ∃ l, l = aj_set1 lv263 3 (.int x278) := ⟨_, rfl⟩
                    rw [← elv279]
                    have hlv279_0 : aj_lv lv279 0 = some (.ref 117) := cw_e1 elv279 hlv263_0 (by decide) (Or.inl (by decide))
                    have hlv279_2 : aj_lv lv279 2 = some (.int x86) := cw_e1 elv279 hlv263_2 (by decide) (Or.inr rfl)
                    have hlv279_4 : aj_lv lv279 4 = some (.int x94) := cw_e1 elv279 hlv263_4 (by decide) (Or.inl (by decide))
                    have hlv279_5 : aj_lv lv279 5 = some (.int x265) := cw_e1 elv279 hlv263_5 (by decide) (Or.inl (by decide))
                    have hlv279_3 : aj_lv lv279 3 = some (.int x278) := by rw [elv279]; exact ak_set1_eq _ _ _
                    show aw_W _ _ _ _ 117 lv279 [] _ _
                    refine aw_inc aj_d294 rfl hlv279_5 (a := x265.toInt) rfl (by omega) (by omega) (by decide) (by decide) (fun x280 ex280 => ?_)
                    obtain ⟨lv281, elv281⟩ : ∃ l, l = aj_set1 lv279 5 (.int x280) := ⟨_, rfl⟩
                    rw [← elv281]
                    have hlv281_0 : aj_lv lv281 0 = some (.ref 117) := cw_e1 elv281 hlv279_0 (by decide) (Or.inl (by decide))
                    have hlv281_2 : aj_lv lv281 2 = some (.int x86) := cw_e1 elv281 hlv279_2 (by decide) (Or.inl (by decide))
                    have hlv281_4 : aj_lv lv281 4 = some (.int x94) := cw_e1 elv281 hlv279_4 (by decide) (Or.inr rfl)
                    have hlv281_3 : aj_lv lv281 3 = some (.int x278) := cw_e1 elv281 hlv279_3 (by decide) (Or.inl (by decide))
                    have hlv281_5 : aj_lv lv281 5 = some (.int x280) := by rw [elv281]; exact ak_set1_eq _ _ _
                    show aw_W _ _ _ _ 120 lv281 [] _ _
                    refine aw_n aj_d294 rfl rfl ?_
                    exact ihL86_260 (aw_wa S262 31 (x264.toInt).toNat (aj_nar 0 x275)) lv281 (x278) (x280) hlv281_0 hlv281_2 hlv281_3 hlv281_4 hlv281_5 ⟨(hI276).1, (aw_B_sm hI276.2 hI266.2)⟩ fr277 (by omega) (by omega) (by omega) (by omega)
              exact L86_260 _ S257 lv260 (x93) ((Int32.ofInt 0)) hlv260_0 hlv260_2 hlv260_3 hlv260_4 hlv260_5 ⟨(hI259).1, (aw_B_sm hI259.2 hI95.2)⟩ fr258 (by omega) (by first | omega | decide) (by have z5 : ((Int32.ofInt 0)).toInt = 0 := rfl; omega) (Nat.lt_succ_self _)
          · skip
            show aw_W _ _ _ _ 73 lv92 [.int b252] _ _
            refine aw_z (tgt := 123) aj_d294 rfl rfl (fun q282 => ?_) (fun q282 => ?_)
            · have q282 : (0 : Int) = (0 : Int) := aw_t_eq (a := (0 : Int)) (b := (0 : Int)) hb252 rfl q282
              refine aw_inc aj_d294 rfl hlv92_4 (a := x94.toInt) rfl (by omega) (by omega) (by decide) (by decide) (fun x283 ex283 => ?_)
              obtain ⟨lv284, elv284⟩ : ∃ l, l = aj_set1 lv92 4 (.int x283) := ⟨_, rfl⟩
              rw [← elv284]
              have hlv284_0 : aj_lv lv284 0 = some (.ref 117) := cw_e1 elv284 hlv92_0 (by decide) (Or.inl (by decide))
              have hlv284_2 : aj_lv lv284 2 = some (.int x86) := cw_e1 elv284 hlv92_2 (by decide) (Or.inl (by decide))
              have hlv284_3 : aj_lv lv284 3 = some (.int x93) := cw_e1 elv284 hlv92_3 (by decide) (Or.inr rfl)
              have hlv284_4 : aj_lv lv284 4 = some (.int x283) := by rw [elv284]; exact ak_set1_eq _ _ _
              show aw_W _ _ _ _ 126 lv284 [] _ _
              refine aw_n aj_d294 rfl rfl ?_
              exact ihL49_89 S91 lv284 (x93) (x283) hlv284_0 hlv284_2 hlv284_3 hlv284_4 ⟨(hI97).1, hI95.2⟩ fr96 (by omega) (by omega) (by omega) (by omega)
            · have q282 : (0 : Int) ≠ (0 : Int) := aw_t_eq (a := (0 : Int)) (b := (0 : Int)) hb252 rfl q282
              exfalso
              omega
    exact L49_89 _ (aw_wl (aw_wf S 70 x) 69 (S.2.1 68)) lv89 ((Int32.ofInt 0)) ((Int32.ofInt 0)) hlv89_0 hlv89_2 hlv89_3 hlv89_4 ⟨(hI82).1, (aw_B_sm hI82.2 hG)⟩ fr83 (by first | omega | decide) (by first | omega | decide) (by have z3 : ((Int32.ofInt 0)).toInt = 0 := rfl; have z4 : ((Int32.ofInt 0)).toInt = 0 := rfl; omega) (Nat.lt_succ_self _)
  · have q79 : (S.1 70).toInt = x.toInt := aw_t_ne (a := (S.1 70).toInt) (b := x.toInt) rfl rfl q79
    refine aw_l2 aj_d294 rfl rfl hlv76_0 ?_
    refine aw_g hU.1 aj_d294 rfl rfl (by decide) (v := .long (S.2.1 69)) rfl ?_
    refine aw_l2 aj_d294 rfl rfl hlv76_0 ?_
    refine aw_g hU.1 aj_d294 rfl rfl (by decide) (v := .long (S.2.1 68)) rfl ?_
    refine aw_any aj_d294 rfl rfl (fun x285 ex285 => ?_)
    refine aw_z (tgt := 21) aj_d294 rfl rfl (fun q286 => ?_) (fun q286 => ?_)
    · have q286 : x285.toInt ≠ (0 : Int) := aw_t_ne (a := x285.toInt) (b := (0 : Int)) rfl rfl q286
      refine aw_l2 aj_d294 rfl rfl hlv76_0 ?_
      refine aw_l0 aj_d294 rfl rfl hlv76_1 ?_
      refine aw_p hU.1 aj_d294 rfl rfl (by decide) rfl ?_
      have hI287 := aw_I_f (aw_UV hU aw_Gs_sm) (k := 70) (v := x) hI77 (by decide) (by decide) rfl (aw_full _)
      have fr288 := aw_fr_f (k := 70) (v := x) (by decide) fr78
      refine aw_l2 aj_d294 rfl rfl hlv76_0 ?_
      refine aw_l2 aj_d294 rfl rfl hlv76_0 ?_
      refine aw_g hU.1 aj_d294 rfl rfl (by decide) (v := .long (S.2.1 68)) rfl ?_
      refine aw_pl hU.1 aj_d294 rfl rfl (by decide) rfl ?_
      have hI289 := aw_I_l (aw_UV hU aw_Gs_sm) (k := 69) (v := (S.2.1 68)) hI287 (by decide)
      have fr290 := aw_fr_l (k := 69) (v := (S.2.1 68)) (by decide) fr288
      refine aw_l2 aj_d294 rfl rfl hlv76_0 ?_
      have b291 : 0 ≤ (S.1 0).toInt ∧ (S.1 0).toInt ≤ 1 := aw_bd_f hs (hI77).1 (by decide) rfl
      refine aw_g hU.1 aj_d294 rfl rfl (by decide) (v := .int (S.1 0)) rfl ?_
      refine aw_n aj_d294 rfl rfl ?_
      refine aw_mul aj_d294 rfl (a := (S.1 0).toInt) (b := (10 : Int)) rfl rfl (by omega) (by omega) (fun x292 ex292 => ?_)
      refine aw_l0 aj_d294 rfl rfl hlv76_1 ?_
      refine aw_add aj_d294 rfl (a := x292.toInt) (b := x.toInt) rfl rfl (by omega) (by omega) (fun x293 ex293 => ?_)
      refine aw_t0 (j := 2) aj_d294 rfl (by decide) rfl ?_
      obtain ⟨lv294, elv294⟩ : ∃ l, l = aj_set1 lv76 2 (.int x293) := ⟨_, rfl⟩
      rw [← elv294]
      have hlv294_0 : aj_lv lv294 0 = some (.ref 117) := cw_e1 elv294 hlv76_0 (by decide) (Or.inl (by decide))
      have hlv294_2 : aj_lv lv294 2 = some (.int x293) := by rw [elv294]; exact ak_set1_eq _ _ _
      show aw_W _ _ _ _ 44 lv294 [] _ _
      refine aw_n aj_d294 rfl rfl ?_
      refine aw_t0 (j := 3) aj_d294 rfl (by decide) rfl ?_
      obtain ⟨lv295, elv295⟩ : ∃ l, l = aj_set1 lv294 3 (.int (Int32.ofInt 0)) := ⟨_, rfl⟩
      rw [← elv295]
      have hlv295_0 : aj_lv lv295 0 = some (.ref 117) := cw_e1 elv295 hlv294_0 (by decide) (Or.inl (by decide))
      have hlv295_2 : aj_lv lv295 2 = some (.int x293) := cw_e1 elv295 hlv294_2 (by decide) (Or.inr rfl)
      have hlv295_3 : aj_lv lv295 3 = some (.int (Int32.ofInt 0)) := by rw [elv295]; exact ak_set1_eq _ _ _
      show aw_W _ _ _ _ 46 lv295 [] _ _
      refine aw_n aj_d294 rfl rfl ?_
      refine aw_t0 (j := 4) aj_d294 rfl (by decide) rfl ?_
      obtain ⟨lv296, elv296⟩ : ∃ l, l = aj_set1 lv295 4 (.int (Int32.ofInt 0)) := ⟨_, rfl⟩
      rw [← elv296]
      have hlv296_0 : aj_lv lv296 0 = some (.ref 117) := cw_e1 elv296 hlv295_0 (by decide) (Or.inl (by decide))
      have hlv296_2 : aj_lv lv296 2 = some (.int x293) := cw_e1 elv296 hlv295_2 (by decide) (Or.inl (by decide))
      have hlv296_3 : aj_lv lv296 3 = some (.int (Int32.ofInt 0)) := cw_e1 elv296 hlv295_3 (by decide) (Or.inr rfl)
      have hlv296_4 : aj_lv lv296 4 = some (.int (Int32.ofInt 0)) := by rw [elv296]; exact ak_set1_eq _ _ _
      show aw_W _ _ _ _ 49 lv296 [] _ _
      have L49_296 : ∀ (N : Nat) (S298 : aj_S) (lv299 : aj_V) (x300 : Int32) (x301 : Int32), (aj_lv lv299 0 = some (.ref 117)) → (aj_lv lv299 2 = some (.int x293)) → (aj_lv lv299 3 = some (.int x300)) → (aj_lv lv299 4 = some (.int x301)) → (aw_I s h (aw_B) S298) → (aw_fr [58, 67, 69, 70] [26, 31] S S298) → (0 ≤ x300.toInt ∧ x300.toInt ≤ 30720) → (0 ≤ x301.toInt ∧ x301.toInt ≤ 1024) → (x300.toInt ≤ 30 * x301.toInt) → (1024 - x301.toInt).toNat < N → aw_W tb h d aj_m294 49 lv299 [] S298 ((fun r S' => ak_Ty ak_TN s (aj_mh h S') ∧ aw_fr [58, 67, 69, 70] [26, 31] S S' ∧ r = none ∧ aw_B S')) := by
        intro N
        induction N with
        | zero =>
          intro S298 lv299 x300 x301 hlv299_0 hlv299_2 hlv299_3 hlv299_4 hI302 fr303 bx300 bx301 n49 hm
          omega
        | succ N ihL49_296 =>
          intro S298 lv299 x300 x301 hlv299_0 hlv299_2 hlv299_3 hlv299_4 hI302 fr303 bx300 bx301 n49 hm
          have hI304 : aw_I s h (aw_sm S298) S298 := ⟨hI302.1, aw_sm_rf⟩
          refine aw_l0 aj_d294 rfl rfl hlv299_4 ?_
          refine aw_l2 aj_d294 rfl rfl hlv299_0 ?_
          refine aw_g hU.1 aj_d294 rfl rfl (by decide) (v := .ref 122) rfl ?_
          refine aw_l2 aj_d294 rfl rfl hlv299_0 ?_
          have c305 : (S298.1 0).toInt = (S.1 0).toInt := (congrArg Int32.toInt (fr303.1 0 (by decide)).1).trans rfl
          have b306 : 0 ≤ (S298.1 0).toInt ∧ (S298.1 0).toInt ≤ 1 := aw_bd_f hs (hI304).1 (by decide) rfl
          refine aw_g hU.1 aj_d294 rfl rfl (by decide) (v := .int (S298.1 0)) rfl ?_
          refine aw_ld (k := 5) hU.1 aj_d294 (Or.inl ⟨rfl, rfl⟩) rfl (by decide) (by decide) rfl (a := (S.1 0).toInt) c305 (by omega) (by omega) (fun x307 ex307 => ?_)
          have bx307 : 0 ≤ x307.toInt ∧ x307.toInt ≤ 1024 := by
            rw [ex307]
            exact aw_bd_a hs (hI304).1 (k := 5) (by decide) (by decide) rfl (by decide) rfl (by omega)
          refine aw_c (tgt := 129) aj_d294 rfl rfl (fun q308 => ?_) (fun q308 => ?_)
          · have q308 : x301.toInt ≥ x307.toInt := aw_t_ge (a := x301.toInt) (b := x307.toInt) rfl rfl q308
            refine aw_l0 aj_d294 rfl rfl hlv299_3 ?_
            refine aw_n aj_d294 rfl rfl ?_
            refine aw_div aj_d294 rfl (a := x300.toInt) (b := (2 : Int)) rfl rfl (by omega) (by omega) (fun x309 ex309 => ?_)
            refine aw_t0 (j := 4) aj_d294 rfl (by decide) rfl ?_
            obtain ⟨lv310, elv310⟩ : ∃ l, l = aj_set1 lv299 4 (.int x309) := ⟨_, rfl⟩
            rw [← elv310]
            have hlv310_0 : aj_lv lv310 0 = some (.ref 117) := cw_e1 elv310 hlv299_0 (by decide) (Or.inl (by decide))
            have hlv310_2 : aj_lv lv310 2 = some (.int x293) := cw_e1 elv310 hlv299_2 (by decide) (Or.inl (by decide))
            have hlv310_3 : aj_lv lv310 3 = some (.int x300) := cw_e1 elv310 hlv299_3 (by decide) (Or.inr rfl)
            have hlv310_4 : aj_lv lv310 4 = some (.int x309) := by rw [elv310]; exact ak_set1_eq _ _ _
            show aw_W _ _ _ _ 134 lv310 [] _ _
            have L134_310 : ∀ (N : Nat) (S312 : aj_S) (lv313 : aj_V) (x314 : Int32), (aj_lv lv313 0 = some (.ref 117)) → (aj_lv lv313 2 = some (.int x293)) → (aj_lv lv313 3 = some (.int x300)) → (aj_lv lv313 4 = some (.int x314)) → (aw_I s h (aw_B) S312) → (aw_fr [58, 67, 69, 70] [26, 31] S S312) → ((-1) ≤ x314.toInt ∧ x314.toInt ≤ 15360) → (2 * x314.toInt ≤ x300.toInt) → (x314.toInt + 1).toNat < N → aw_W tb h d aj_m294 134 lv313 [] S312 ((fun r S' => ak_Ty ak_TN s (aj_mh h S') ∧ aw_fr [58, 67, 69, 70] [26, 31] S S' ∧ r = none ∧ aw_B S')) := by
              intro N
              induction N with
              | zero =>
                intro S312 lv313 x314 hlv313_0 hlv313_2 hlv313_3 hlv313_4 hI315 fr316 bx314 k134 hm
                omega
              | succ N ihL134_310 =>
                intro S312 lv313 x314 hlv313_0 hlv313_2 hlv313_3 hlv313_4 hI315 fr316 bx314 k134 hm
                have hI317 : aw_I s h (aw_sm S312) S312 := ⟨hI315.1, aw_sm_rf⟩
                refine aw_l0 aj_d294 rfl rfl hlv313_4 ?_
                refine aw_z (tgt := 157) aj_d294 rfl rfl (fun q318 => ?_) (fun q318 => ?_)
                · have q318 : x314.toInt < (0 : Int) := aw_t_lt (a := x314.toInt) (b := (0 : Int)) rfl rfl q318
                  refine aw_l0 aj_d294 rfl rfl hlv313_3 ?_
                  refine aw_n aj_d294 rfl rfl ?_
                  refine aw_sub aj_d294 rfl (a := x300.toInt) (b := (1 : Int)) rfl rfl (by omega) (by omega) (fun x319 ex319 => ?_)
                  refine aw_t0 (j := 4) aj_d294 rfl (by decide) rfl ?_
                  obtain ⟨lv320, elv320⟩ : ∃ l, l = aj_set1 lv313 4 (.int x319) := ⟨_, rfl⟩
                  rw [← elv320]
                  have hlv320_0 : aj_lv lv320 0 = some (.ref 117) := cw_e1 elv320 hlv313_0 (by decide) (Or.inl (by decide))
                  have hlv320_2 : aj_lv lv320 2 = some (.int x293) := cw_e1 elv320 hlv313_2 (by decide) (Or.inl (by decide))
                  have hlv320_3 : aj_lv lv320 3 = some (.int x300) := cw_e1 elv320 hlv313_3 (by decide) (Or.inr rfl)
                  have hlv320_4 : aj_lv lv320 4 = some (.int x319) := by rw [elv320]; exact ak_set1_eq _ _ _
                  show aw_W _ _ _ _ 162 lv320 [] _ _
                  have L162_320 : ∀ (N : Nat) (S322 : aj_S) (lv323 : aj_V) (x324 : Int32), (aj_lv lv323 0 = some (.ref 117)) → (aj_lv lv323 2 = some (.int x293)) → (aj_lv lv323 3 = some (.int x300)) → (aj_lv lv323 4 = some (.int x324)) → (aw_I s h (aw_B) S322) → (aw_fr [58, 67, 69, 70] [26, 31] S S322) → ((-1) ≤ x324.toInt ∧ x324.toInt ≤ 30719) → (x324.toInt < x300.toInt ∨ x324.toInt ≤ 0) → (x324.toInt + 1).toNat < N → aw_W tb h d aj_m294 162 lv323 [] S322 ((fun r S' => ak_Ty ak_TN s (aj_mh h S') ∧ aw_fr [58, 67, 69, 70] [26, 31] S S' ∧ r = none ∧ aw_B S')) := by
                    intro N
                    induction N with
                    | zero =>
                      intro S322 lv323 x324 hlv323_0 hlv323_2 hlv323_3 hlv323_4 hI325 fr326 bx324 k162 hm
                      omega
                    | succ N ihL162_320 =>
                      intro S322 lv323 x324 hlv323_0 hlv323_2 hlv323_3 hlv323_4 hI325 fr326 bx324 k162 hm
                      have hI327 : aw_I s h (aw_sm S322) S322 := ⟨hI325.1, aw_sm_rf⟩
                      refine aw_l0 aj_d294 rfl rfl hlv323_4 ?_
                      refine aw_z (tgt := 211) aj_d294 rfl rfl (fun q328 => ?_) (fun q328 => ?_)
                      · have q328 : x324.toInt ≤ (0 : Int) := aw_t_le (a := x324.toInt) (b := (0 : Int)) rfl rfl q328
                        refine aw_l2 aj_d294 rfl rfl hlv323_0 ?_
                        refine aw_n aj_d294 rfl rfl ?_
                        refine aw_p hU.1 aj_d294 rfl rfl (by decide) rfl ?_
                        have hI329 := aw_I_f (aw_UV hU aw_Gs_sm) (k := 67) (v := (Int32.ofInt 0)) hI327 (by decide) (by decide) rfl (aw_bp (a := (0 : Int)) rfl (by omega) (by omega))
                        have fr330 := aw_fr_f (k := 67) (v := (Int32.ofInt 0)) (by decide) fr326
                        refine aw_n aj_d294 rfl rfl ?_
                        refine aw_t0 (j := 4) aj_d294 rfl (by decide) rfl ?_
                        obtain ⟨lv331, elv331⟩ : ∃ l, l = aj_set1 lv323 4 (.int (Int32.ofInt 0)) := ⟨_, rfl⟩
                        rw [← elv331]
                        have hlv331_0 : aj_lv lv331 0 = some (.ref 117) := cw_e1 elv331 hlv323_0 (by decide) (Or.inl (by decide))
                        have hlv331_2 : aj_lv lv331 2 = some (.int x293) := cw_e1 elv331 hlv323_2 (by decide) (Or.inl (by decide))
                        have hlv331_3 : aj_lv lv331 3 = some (.int x300) := cw_e1 elv331 hlv323_3 (by decide) (Or.inr rfl)
                        have hlv331_4 : aj_lv lv331 4 = some (.int (Int32.ofInt 0)) := by rw [elv331]; exact ak_set1_eq _ _ _
                        show aw_W _ _ _ _ 219 lv331 [] _ _
                        have L219_331 : ∀ (N : Nat) (S333 : aj_S) (lv334 : aj_V) (x335 : Int32), (aj_lv lv334 0 = some (.ref 117)) → (aj_lv lv334 2 = some (.int x293)) → (aj_lv lv334 3 = some (.int x300)) → (aj_lv lv334 4 = some (.int x335)) → (aw_I s h (aw_B) S333) → (aw_fr [58, 67, 69, 70] [26, 31] S S333) → (0 ≤ x335.toInt ∧ x335.toInt ≤ 30720) → ((S333.1 67).toInt ≤ x335.toInt) → (x335.toInt ≤ x300.toInt) → (30720 - x335.toInt).toNat < N → aw_W tb h d aj_m294 219 lv334 [] S333 ((fun r S' => ak_Ty ak_TN s (aj_mh h S') ∧ aw_fr [58, 67, 69, 70] [26, 31] S S' ∧ r = none ∧ aw_B S')) := by
                          intro N
                          induction N with
                          | zero =>
                            intro S333 lv334 x335 hlv334_0 hlv334_2 hlv334_3 hlv334_4 hI336 fr337 bx335 p219 n219 hm
                            omega
                          | succ N ihL219_331 =>
                            intro S333 lv334 x335 hlv334_0 hlv334_2 hlv334_3 hlv334_4 hI336 fr337 bx335 p219 n219 hm
                            have hI338 : aw_I s h (aw_sm S333) S333 := ⟨hI336.1, aw_sm_rf⟩
                            have b339 : 0 ≤ (S333.1 67).toInt ∧ (S333.1 67).toInt ≤ 30720 := aw_bd_f hs (hI338).1 (by decide) rfl
                            refine aw_l0 aj_d294 rfl rfl hlv334_4 ?_
                            refine aw_l0 aj_d294 rfl rfl hlv334_3 ?_
                            refine aw_c (tgt := 290) aj_d294 rfl rfl (fun q340 => ?_) (fun q340 => ?_)
                            · have q340 : x335.toInt ≥ x300.toInt := aw_t_ge (a := x335.toInt) (b := x300.toInt) rfl rfl q340
                              refine aw_e aj_d294 rfl rfl ?_
                              exact ⟨(hI338).1, fr337, rfl, hI336.2⟩
                            · have q340 : x335.toInt < x300.toInt := aw_t_ge (a := x335.toInt) (b := x300.toInt) rfl rfl q340
                              refine aw_l2 aj_d294 rfl rfl hlv334_0 ?_
                              refine aw_g hU.1 aj_d294 rfl rfl (by decide) (v := .int (S333.1 67)) rfl ?_
                              refine aw_z (tgt := 258) aj_d294 rfl rfl (fun q341 => ?_) (fun q341 => ?_)
                              · have q341 : (S333.1 67).toInt = (0 : Int) := aw_t_eq (a := (S333.1 67).toInt) (b := (0 : Int)) rfl rfl q341
                                refine aw_l2 aj_d294 rfl rfl hlv334_0 ?_
                                refine aw_g hU.1 aj_d294 rfl rfl (by decide) (v := .ref 148) rfl ?_
                                refine aw_l2 aj_d294 rfl rfl hlv334_0 ?_
                                refine aw_g hU.1 aj_d294 rfl rfl (by decide) (v := .int (S333.1 67)) rfl ?_
                                refine aw_l2 aj_d294 rfl rfl hlv334_0 ?_
                                refine aw_g hU.1 aj_d294 rfl rfl (by decide) (v := .ref 148) rfl ?_
                                refine aw_l0 aj_d294 rfl rfl hlv334_4 ?_
                                refine aw_ld (k := 31) hU.1 aj_d294 (Or.inl ⟨rfl, rfl⟩) rfl (by decide) (by decide) rfl (a := x335.toInt) rfl (by omega) (by omega) (fun x342 ex342 => ?_)
                                have bx342 : 0 ≤ x342.toInt ∧ x342.toInt ≤ 30719 := by
                                  rw [ex342]
                                  exact aw_bd_a hs (hI338).1 (k := 31) (by decide) (by decide) rfl (by decide) rfl (by omega)
                                refine aw_st (k := 31) hU.1 aj_d294 (Or.inl ⟨rfl, rfl⟩) rfl (by decide) (by decide) rfl (a := (S333.1 67).toInt) rfl (by omega) (by omega) ?_
                                have hI343 := aw_I_a (aw_UV hU aw_Gs_sm) (k := 31) (j := ((S333.1 67).toInt).toNat) (v := aj_nar 0 x342) hI338 (by decide) (by decide) (by decide) rfl (by decide) (by decide) rfl (aw_bp (a := x342.toInt) rfl (by omega) (by omega))
                                have fr344 := aw_fr_a (k := 31) (j := ((S333.1 67).toInt).toNat) (v := aj_nar 0 x342) (by decide) fr337
                                refine aw_l2 aj_d294 rfl rfl hlv334_0 ?_
                                refine aw_n aj_d294 rfl rfl ?_
                                refine aw_g hU.1 aj_d294 rfl rfl (by decide) (v := .int (S333.1 67)) rfl ?_
                                refine aw_n aj_d294 rfl rfl ?_
                                refine aw_add aj_d294 rfl (a := (S333.1 67).toInt) (b := (1 : Int)) rfl rfl (by omega) (by omega) (fun x345 ex345 => ?_)
                                refine aw_p hU.1 aj_d294 rfl rfl (by decide) rfl ?_
                                have hI346 := aw_I_f (aw_UV hU aw_Gs_sm) (k := 67) (v := x345) hI343 (by decide) (by decide) rfl (aw_bp (a := x345.toInt) rfl (by omega) (by omega))
                                have fr347 := aw_fr_f (k := 67) (v := x345) (by decide) fr344
                                refine aw_inc aj_d294 rfl hlv334_4 (a := x335.toInt) rfl (by omega) (by omega) (by decide) (by decide) (fun x348 ex348 => ?_)
                                obtain ⟨lv349, elv349⟩ : ∃ l, l = aj_set1 lv334 4 (.int x348) := ⟨_, rfl⟩
                                rw [← elv349]
                                have hlv349_0 : aj_lv lv349 0 = some (.ref 117) := cw_e1 elv349 hlv334_0 (by decide) (Or.inl (by decide))
                                have hlv349_2 : aj_lv lv349 2 = some (.int x293) := cw_e1 elv349 hlv334_2 (by decide) (Or.inl (by decide))
                                have hlv349_3 : aj_lv lv349 3 = some (.int x300) := cw_e1 elv349 hlv334_3 (by decide) (Or.inr rfl)
                                have hlv349_4 : aj_lv lv349 4 = some (.int x348) := by rw [elv349]; exact ak_set1_eq _ _ _
                                show aw_W _ _ _ _ 287 lv349 [] _ _
                                refine aw_n aj_d294 rfl rfl ?_
                                exact ihL219_331 (aw_wf (aw_wa S333 31 ((S333.1 67).toInt).toNat (aj_nar 0 x342)) 67 x345) lv349 (x348) hlv349_0 hlv349_2 hlv349_3 hlv349_4 ⟨(hI346).1, (aw_B_sm hI346.2 hI336.2)⟩ fr347 (by omega) (show (x345).toInt ≤ _ by omega) (by omega) (by omega)
                              · have q341 : (S333.1 67).toInt ≠ (0 : Int) := aw_t_eq (a := (S333.1 67).toInt) (b := (0 : Int)) rfl rfl q341
                                refine aw_l2 aj_d294 rfl rfl hlv334_0 ?_
                                refine aw_l0 aj_d294 rfl rfl hlv334_2 ?_
                                refine aw_l2 aj_d294 rfl rfl hlv334_0 ?_
                                refine aw_g hU.1 aj_d294 rfl rfl (by decide) (v := .ref 148) rfl ?_
                                refine aw_l2 aj_d294 rfl rfl hlv334_0 ?_
                                refine aw_g hU.1 aj_d294 rfl rfl (by decide) (v := .int (S333.1 67)) rfl ?_
                                refine aw_n aj_d294 rfl rfl ?_
                                refine aw_sub aj_d294 rfl (a := (S333.1 67).toInt) (b := (1 : Int)) rfl rfl (by omega) (by omega) (fun x350 ex350 => ?_)
                                refine aw_ld (k := 31) hU.1 aj_d294 (Or.inl ⟨rfl, rfl⟩) rfl (by decide) (by decide) rfl (a := x350.toInt) rfl (by omega) (by omega) (fun x351 ex351 => ?_)
                                have bx351 : 0 ≤ x351.toInt ∧ x351.toInt ≤ 30719 := by
                                  rw [ex351]
                                  exact aw_bd_a hs (hI338).1 (k := 31) (by decide) (by decide) rfl (by decide) rfl (by omega)
                                refine aw_l2 aj_d294 rfl rfl hlv334_0 ?_
                                refine aw_g hU.1 aj_d294 rfl rfl (by decide) (v := .ref 148) rfl ?_
                                refine aw_l0 aj_d294 rfl rfl hlv334_4 ?_
                                refine aw_ld (k := 31) hU.1 aj_d294 (Or.inl ⟨rfl, rfl⟩) rfl (by decide) (by decide) rfl (a := x335.toInt) rfl (by omega) (by omega) (fun x352 ex352 => ?_)
                                have bx352 : 0 ≤ x352.toInt ∧ x352.toInt ≤ 30719 := by
                                  rw [ex352]
                                  exact aw_bd_a hs (hI338).1 (k := 31) (by decide) (by decide) rfl (by decide) rfl (by omega)
                                have b353 : 0 ≤ (S.1 30).toInt ∧ (S.1 30).toInt ≤ 1001 := aw_bd_f hs (hI77).1 (by decide) rfl
                                have c354 : (S333.1 30).toInt = (S.1 30).toInt := (congrArg Int32.toInt (fr337.1 30 (by decide)).1).trans rfl
                                have b355 : 0 ≤ (S333.1 30).toInt ∧ (S333.1 30).toInt ≤ 1001 := aw_bd_f hs (hI338).1 (by decide) rfl
                                refine aw_k hU.1 aj_d294 rfl rfl [_, _, _] rfl rfl rfl (Nat.le_of_ble_eq_true rfl) (aw_toK hU aw_Gs_B (con := ac_c296) (by omega) (ar_296 hU.2.1 (aw_SPc hU.2.2 aw_Gs_B) aw_kpc (arc_258 hU aw_Gs_B (fun _ q => q.1))) ⟨(hI338).1, hI336.2⟩ ⟨(aw_g117 hU.2.2), (cw_gw (a := x293.toInt) rfl (by omega) (by omega)), (cw_gw (a := x351.toInt) rfl (by omega) (by omega)), (cw_gw (a := x352.toInt) rfl (by omega) (by omega)), trivial⟩ (fun e he => nomatch he)) ?_
                                rintro r356 S356 ⟨hr356, hJ356, fc356, po356, -⟩
                                have hT356 := hJ356.1
                                replace fc356 := aw_fr_sub (F' := []) (A' := []) (by decide) (by decide) fc356
                                have fr357 := aw_fr_tr fr337 (aw_fr_sub (F := []) (A := []) (by decide) (by decide) fc356)
                                have hI358 : aw_I s h (aw_sm S333) S356 := ⟨hT356, aw_sm_tr hI338.2 (aw_fr_sm (by decide) (by decide) (by decide) (F := []) (A := []) fc356)⟩
                                obtain ⟨b356, rfl, bb356⟩ := cw_rI hr356
                                show aw_W _ _ _ _ 255 lv334 [.int b356] _ _
                                refine aw_z (tgt := 284) aj_d294 rfl rfl (fun q359 => ?_) (fun q359 => ?_)
                                · have q359 : b356.toInt = (0 : Int) := aw_t_eq (a := b356.toInt) (b := (0 : Int)) rfl rfl q359
                                  refine aw_inc aj_d294 rfl hlv334_4 (a := x335.toInt) rfl (by omega) (by omega) (by decide) (by decide) (fun x360 ex360 => ?_)
                                  obtain ⟨lv361, elv361⟩ : ∃ l, l = aj_set1 lv334 4 (.int x360) := ⟨_, rfl⟩
                                  rw [← elv361]
                                  have hlv361_0 : aj_lv lv361 0 = some (.ref 117) := cw_e1 elv361 hlv334_0 (by decide) (Or.inl (by decide))
                                  have hlv361_2 : aj_lv lv361 2 = some (.int x293) := cw_e1 elv361 hlv334_2 (by decide) (Or.inl (by decide))
                                  have hlv361_3 : aj_lv lv361 3 = some (.int x300) := cw_e1 elv361 hlv334_3 (by decide) (Or.inr rfl)
                                  have hlv361_4 : aj_lv lv361 4 = some (.int x360) := by rw [elv361]; exact ak_set1_eq _ _ _
                                  show aw_W _ _ _ _ 287 lv361 [] _ _
                                  refine aw_n aj_d294 rfl rfl ?_
                                  have c362 : (S356.1 67).toInt = (S333.1 67).toInt := (congrArg Int32.toInt (fc356.1 67 (by decide)).1).trans rfl
                                  have b363 : 0 ≤ (S356.1 67).toInt ∧ (S356.1 67).toInt ≤ 30720 := aw_bd_f hs (hI358).1 (by decide) rfl
                                  exact ihL219_331 S356 lv361 (x360) hlv361_0 hlv361_2 hlv361_3 hlv361_4 ⟨(hI358).1, (aw_B_sm hI358.2 hI336.2)⟩ fr357 (by omega) (show ((S356.1 67)).toInt ≤ _ by omega) (by omega) (by omega)
                                · have q359 : b356.toInt ≠ (0 : Int) := aw_t_eq (a := b356.toInt) (b := (0 : Int)) rfl rfl q359
                                  refine aw_l2 aj_d294 rfl rfl hlv334_0 ?_
                                  refine aw_g hU.1 aj_d294 rfl rfl (by decide) (v := .ref 148) rfl ?_
                                  refine aw_l2 aj_d294 rfl rfl hlv334_0 ?_
                                  have c364 : (S356.1 67).toInt = (S333.1 67).toInt := (congrArg Int32.toInt (fc356.1 67 (by decide)).1).trans rfl
                                  have b365 : 0 ≤ (S356.1 67).toInt ∧ (S356.1 67).toInt ≤ 30720 := aw_bd_f hs (hI358).1 (by decide) rfl
                                  refine aw_g hU.1 aj_d294 rfl rfl (by decide) (v := .int (S356.1 67)) rfl ?_
                                  refine aw_l2 aj_d294 rfl rfl hlv334_0 ?_
                                  refine aw_g hU.1 aj_d294 rfl rfl (by decide) (v := .ref 148) rfl ?_
                                  refine aw_l0 aj_d294 rfl rfl hlv334_4 ?_
                                  refine aw_ld (k := 31) hU.1 aj_d294 (Or.inl ⟨rfl, rfl⟩) rfl (by decide) (by decide) rfl (a := x335.toInt) rfl (by omega) (by omega) (fun x366 ex366 => ?_)
                                  have bx366 : 0 ≤ x366.toInt ∧ x366.toInt ≤ 30719 := by
                                    rw [ex366]
                                    exact aw_bd_a hs (hI358).1 (k := 31) (by decide) (by decide) rfl (by decide) rfl (by omega)
                                  refine aw_st (k := 31) hU.1 aj_d294 (Or.inl ⟨rfl, rfl⟩) rfl (by decide) (by decide) rfl (a := (S333.1 67).toInt) c364 (by omega) (by omega) ?_
                                  have hI367 := aw_I_a (aw_UV hU aw_Gs_sm) (k := 31) (j := ((S333.1 67).toInt).toNat) (v := aj_nar 0 x366) hI358 (by decide) (by decide) (by decide) rfl (by decide) (by decide) rfl (aw_bp (a := x366.toInt) rfl (by omega) (by omega))
                                  have fr368 := aw_fr_a (k := 31) (j := ((S333.1 67).toInt).toNat) (v := aj_nar 0 x366) (by decide) fr357
                                  refine aw_l2 aj_d294 rfl rfl hlv334_0 ?_
                                  refine aw_n aj_d294 rfl rfl ?_
                                  refine aw_g hU.1 aj_d294 rfl rfl (by decide) (v := .int (S356.1 67)) rfl ?_
                                  refine aw_n aj_d294 rfl rfl ?_
                                  refine aw_add aj_d294 rfl (a := (S333.1 67).toInt) (b := (1 : Int)) c364 rfl (by omega) (by omega) (fun x369 ex369 => ?_)
                                  refine aw_p hU.1 aj_d294 rfl rfl (by decide) rfl ?_
                                  have hI370 := aw_I_f (aw_UV hU aw_Gs_sm) (k := 67) (v := x369) hI367 (by decide) (by decide) rfl (aw_bp (a := x369.toInt) rfl (by omega) (by omega))
                                  have fr371 := aw_fr_f (k := 67) (v := x369) (by decide) fr368
                                  refine aw_inc aj_d294 rfl hlv334_4 (a := x335.toInt) rfl (by omega) (by omega) (by decide) (by decide) (fun x372 ex372 => ?_)
                                  obtain ⟨lv373, elv373⟩ : ∃ l, l = aj_set1 lv334 4 (.int x372) := ⟨_, rfl⟩
                                  rw [← elv373]
                                  have hlv373_0 : aj_lv lv373 0 = some (.ref 117) := cw_e1 elv373 hlv334_0 (by decide) (Or.inl (by decide))
                                  have hlv373_2 : aj_lv lv373 2 = some (.int x293) := cw_e1 elv373 hlv334_2 (by decide) (Or.inl (by decide))
                                  have hlv373_3 : aj_lv lv373 3 = some (.int x300) := cw_e1 elv373 hlv334_3 (by decide) (Or.inr rfl)
                                  have hlv373_4 : aj_lv lv373 4 = some (.int x372) := by rw [elv373]; exact ak_set1_eq _ _ _
                                  show aw_W _ _ _ _ 287 lv373 [] _ _
                                  refine aw_n aj_d294 rfl rfl ?_
                                  exact ihL219_331 (aw_wf (aw_wa S356 31 ((S333.1 67).toInt).toNat (aj_nar 0 x366)) 67 x369) lv373 (x372) hlv373_0 hlv373_2 hlv373_3 hlv373_4 ⟨(hI370).1, (aw_B_sm hI370.2 hI336.2)⟩ fr371 (by omega) (show (x369).toInt ≤ _ by omega) (by omega) (by omega)
                        exact L219_331 _ (aw_wf S322 67 (Int32.ofInt 0)) lv331 ((Int32.ofInt 0)) hlv331_0 hlv331_2 hlv331_3 hlv331_4 ⟨(hI329).1, (aw_B_sm hI329.2 hI325.2)⟩ fr330 (by first | omega | decide) (show (0 : Int) ≤ 0 by omega) (show (0 : Int) ≤ x300.toInt by omega) (Nat.lt_succ_self _)
                      · have q328 : x324.toInt > (0 : Int) := aw_t_le (a := x324.toInt) (b := (0 : Int)) rfl rfl q328
                        refine aw_l2 aj_d294 rfl rfl hlv323_0 ?_
                        refine aw_g hU.1 aj_d294 rfl rfl (by decide) (v := .ref 148) rfl ?_
                        refine aw_l0 aj_d294 rfl rfl hlv323_4 ?_
                        refine aw_ld (k := 31) hU.1 aj_d294 (Or.inl ⟨rfl, rfl⟩) rfl (by decide) (by decide) rfl (a := x324.toInt) rfl (by omega) (by omega) (fun x374 ex374 => ?_)
                        have bx374 : 0 ≤ x374.toInt ∧ x374.toInt ≤ 30719 := by
                          rw [ex374]
                          exact aw_bd_a hs (hI327).1 (k := 31) (by decide) (by decide) rfl (by decide) rfl (by omega)
                        refine aw_t0 (j := 5) aj_d294 rfl (by decide) rfl ?_
                        obtain ⟨lv375, elv375⟩ : ∃ l, l = aj_set1 lv323 5 (.int x374) := ⟨_, rfl⟩
                        rw [← elv375]
                        have hlv375_0 : aj_lv lv375 0 = some (.ref 117) := cw_e1 elv375 hlv323_0 (by decide) (Or.inl (by decide))
                        have hlv375_2 : aj_lv lv375 2 = some (.int x293) := cw_e1 elv375 hlv323_2 (by decide) (Or.inl (by decide))
                        have hlv375_3 : aj_lv lv375 3 = some (.int x300) := cw_e1 elv375 hlv323_3 (by decide) (Or.inl (by decide))
                        have hlv375_4 : aj_lv lv375 4 = some (.int x324) := cw_e1 elv375 hlv323_4 (by decide) (Or.inr rfl)
                        have hlv375_5 : aj_lv lv375 5 = some (.int x374) := by rw [elv375]; exact ak_set1_eq _ _ _
                        show aw_W _ _ _ _ 176 lv375 [] _ _
                        refine aw_l2 aj_d294 rfl rfl hlv375_0 ?_
                        refine aw_g hU.1 aj_d294 rfl rfl (by decide) (v := .ref 148) rfl ?_
                        refine aw_l0 aj_d294 rfl rfl hlv375_4 ?_
                        refine aw_l2 aj_d294 rfl rfl hlv375_0 ?_
                        refine aw_g hU.1 aj_d294 rfl rfl (by decide) (v := .ref 148) rfl ?_
                        refine aw_n aj_d294 rfl rfl ?_
                        refine aw_ld (k := 31) hU.1 aj_d294 (Or.inl ⟨rfl, rfl⟩) rfl (by decide) (by decide) rfl (a := (0 : Int)) rfl (by omega) (by omega) (fun x376 ex376 => ?_)
                        have bx376 : 0 ≤ x376.toInt ∧ x376.toInt ≤ 30719 := by
                          rw [ex376]
                          exact aw_bd_a hs (hI327).1 (k := 31) (by decide) (by decide) rfl (by decide) rfl (by omega)
                        refine aw_st (k := 31) hU.1 aj_d294 (Or.inl ⟨rfl, rfl⟩) rfl (by decide) (by decide) rfl (a := x324.toInt) rfl (by omega) (by omega) ?_
                        have hI377 := aw_I_a (aw_UV hU aw_Gs_sm) (k := 31) (j := (x324.toInt).toNat) (v := aj_nar 0 x376) hI327 (by decide) (by decide) (by decide) rfl (by decide) (by decide) rfl (aw_bp (a := x376.toInt) rfl (by omega) (by omega))
                        have fr378 := aw_fr_a (k := 31) (j := (x324.toInt).toNat) (v := aj_nar 0 x376) (by decide) fr326
                        refine aw_l2 aj_d294 rfl rfl hlv375_0 ?_
                        refine aw_g hU.1 aj_d294 rfl rfl (by decide) (v := .ref 148) rfl ?_
                        refine aw_n aj_d294 rfl rfl ?_
                        refine aw_l0 aj_d294 rfl rfl hlv375_5 ?_
                        refine aw_st (k := 31) hU.1 aj_d294 (Or.inl ⟨rfl, rfl⟩) rfl (by decide) (by decide) rfl (a := (0 : Int)) rfl (by omega) (by omega) ?_
                        have hI379 := aw_I_a (aw_UV hU aw_Gs_sm) (k := 31) (j := ((0 : Int)).toNat) (v := aj_nar 0 x374) hI377 (by decide) (by decide) (by decide) rfl (by decide) (by decide) rfl (aw_bp (a := x374.toInt) rfl (by omega) (by omega))
                        have fr380 := aw_fr_a (k := 31) (j := ((0 : Int)).toNat) (v := aj_nar 0 x374) (by decide) fr378
                        refine aw_l2 aj_d294 rfl rfl hlv375_0 ?_
                        refine aw_l0 aj_d294 rfl rfl hlv375_2 ?_
                        refine aw_n aj_d294 rfl rfl ?_
                        refine aw_l0 aj_d294 rfl rfl hlv375_4 ?_
                        refine aw_k hU.1 aj_d294 rfl rfl [_, _, _] rfl rfl rfl (Nat.le_of_ble_eq_true rfl) (ar_sink hU (hI379).1 (aw_B_sm hI379.2 hI325.2) (by omega) (x := x293) (y := (Int32.ofInt 0)) (z := x324) (by omega) (by first | omega | (show 0 ≤ (0 : Int) ∧ (0 : Int) < _; omega)) (by omega)) ?_
                        rintro _ S381 ⟨hT381, fc381, rfl, hB381⟩
                        have fr382 := aw_fr_tr fr380 (aw_fr_sub (F := []) (A := [31]) (by decide) (by decide) fc381)
                        have hI383 : aw_I s h (aw_sm S381) S381 := ⟨hT381, aw_sm_rf⟩
                        show aw_W _ _ _ _ 205 lv375 [] _ _
                        refine aw_inc aj_d294 rfl hlv375_4 (a := x324.toInt) rfl (by omega) (by omega) (by decide) (by decide) (fun x384 ex384 => ?_)
                        obtain ⟨lv385, elv385⟩ : ∃ l, l = aj_set1 lv375 4 (.int x384) := ⟨_, rfl⟩
                        rw [← elv385]
                        have hlv385_0 : aj_lv lv385 0 = some (.ref 117) := cw_e1 elv385 hlv375_0 (by decide) (Or.inl (by decide))
                        have hlv385_2 : aj_lv lv385 2 = some (.int x293) := cw_e1 elv385 hlv375_2 (by decide) (Or.inl (by decide))
                        have hlv385_3 : aj_lv lv385 3 = some (.int x300) := cw_e1 elv385 hlv375_3 (by decide) (Or.inr rfl)
                        have hlv385_4 : aj_lv lv385 4 = some (.int x384) := by rw [elv385]; exact ak_set1_eq _ _ _
                        show aw_W _ _ _ _ 208 lv385 [] _ _
                        refine aw_n aj_d294 rfl rfl ?_
                        exact ihL162_320 S381 lv385 (x384) hlv385_0 hlv385_2 hlv385_3 hlv385_4 ⟨(hI383).1, hB381⟩ fr382 (by omega) (by omega) (by omega)
                  exact L162_320 _ S312 lv320 (x319) hlv320_0 hlv320_2 hlv320_3 hlv320_4 ⟨(hI317).1, hI315.2⟩ fr316 (by omega) (by omega) (Nat.lt_succ_self _)
                · have q318 : x314.toInt ≥ (0 : Int) := aw_t_lt (a := x314.toInt) (b := (0 : Int)) rfl rfl q318
                  refine aw_l0 aj_d294 rfl rfl hlv313_3 ?_
                  refine aw_z (tgt := 157) aj_d294 rfl rfl (fun q386 => ?_) (fun q386 => ?_)
                  · have q386 : x300.toInt ≤ (0 : Int) := aw_t_le (a := x300.toInt) (b := (0 : Int)) rfl rfl q386
                    refine aw_l0 aj_d294 rfl rfl hlv313_3 ?_
                    refine aw_n aj_d294 rfl rfl ?_
                    refine aw_sub aj_d294 rfl (a := x300.toInt) (b := (1 : Int)) rfl rfl (by omega) (by omega) (fun x387 ex387 => ?_)
                    refine aw_t0 (j := 4) aj_d294 rfl (by decide) rfl ?_
                    obtain ⟨lv388, elv388⟩ : ∃ l, l = aj_set1 lv313 4 (.int x387) := ⟨_, rfl⟩
                    rw [← elv388]
                    have hlv388_0 : aj_lv lv388 0 = some (.ref 117) := cw_e1 elv388 hlv313_0 (by decide) (Or.inl (by decide))
                    have hlv388_2 : aj_lv lv388 2 = some (.int x293) := cw_e1 elv388 hlv313_2 (by decide) (Or.inl (by decide))
                    have hlv388_3 : aj_lv lv388 3 = some (.int x300) := cw_e1 elv388 hlv313_3 (by decide) (Or.inr rfl)
                    have hlv388_4 : aj_lv lv388 4 = some (.int x387) := by rw [elv388]; exact ak_set1_eq _ _ _
                    show aw_W _ _ _ _ 162 lv388 [] _ _
                    have L162_388 : ∀ (N : Nat) (S390 : aj_S) (lv391 : aj_V) (x392 : Int32), (aj_lv lv391 0 = some (.ref 117)) → (aj_lv lv391 2 = some (.int x293)) → (aj_lv lv391 3 = some (.int x300)) → (aj_lv lv391 4 = some (.int x392)) → (aw_I s h (aw_B) S390) → (aw_fr [58, 67, 69, 70] [26, 31] S S390) → ((-1) ≤ x392.toInt ∧ x392.toInt ≤ 30719) → (x392.toInt < x300.toInt ∨ x392.toInt ≤ 0) → (x392.toInt + 1).toNat < N → aw_W tb h d aj_m294 162 lv391 [] S390 ((fun r S' => ak_Ty ak_TN s (aj_mh h S') ∧ aw_fr [58, 67, 69, 70] [26, 31] S S' ∧ r = none ∧ aw_B S')) := by
                      intro N
                      induction N with
                      | zero =>
                        intro S390 lv391 x392 hlv391_0 hlv391_2 hlv391_3 hlv391_4 hI393 fr394 bx392 k162 hm
                        omega
                      | succ N ihL162_388 =>
                        intro S390 lv391 x392 hlv391_0 hlv391_2 hlv391_3 hlv391_4 hI393 fr394 bx392 k162 hm
                        have hI395 : aw_I s h (aw_sm S390) S390 := ⟨hI393.1, aw_sm_rf⟩
                        refine aw_l0 aj_d294 rfl rfl hlv391_4 ?_
                        refine aw_z (tgt := 211) aj_d294 rfl rfl (fun q396 => ?_) (fun q396 => ?_)
                        · have q396 : x392.toInt ≤ (0 : Int) := aw_t_le (a := x392.toInt) (b := (0 : Int)) rfl rfl q396
                          refine aw_l2 aj_d294 rfl rfl hlv391_0 ?_
                          refine aw_n aj_d294 rfl rfl ?_
                          refine aw_p hU.1 aj_d294 rfl rfl (by decide) rfl ?_
                          have hI397 := aw_I_f (aw_UV hU aw_Gs_sm) (k := 67) (v := (Int32.ofInt 0)) hI395 (by decide) (by decide) rfl (aw_bp (a := (0 : Int)) rfl (by omega) (by omega))
                          have fr398 := aw_fr_f (k := 67) (v := (Int32.ofInt 0)) (by decide) fr394
                          refine aw_n aj_d294 rfl rfl ?_
                          refine aw_t0 (j := 4) aj_d294 rfl (by decide) rfl ?_
                          obtain ⟨lv399, elv399⟩ : ∃ l, l = aj_set1 lv391 4 (.int (Int32.ofInt 0)) := ⟨_, rfl⟩
                          rw [← elv399]
                          have hlv399_0 : aj_lv lv399 0 = some (.ref 117) := cw_e1 elv399 hlv391_0 (by decide) (Or.inl (by decide))
                          have hlv399_2 : aj_lv lv399 2 = some (.int x293) := cw_e1 elv399 hlv391_2 (by decide) (Or.inl (by decide))
                          have hlv399_3 : aj_lv lv399 3 = some (.int x300) := cw_e1 elv399 hlv391_3 (by decide) (Or.inr rfl)
                          have hlv399_4 : aj_lv lv399 4 = some (.int (Int32.ofInt 0)) := by rw [elv399]; exact ak_set1_eq _ _ _
                          show aw_W _ _ _ _ 219 lv399 [] _ _
                          have L219_399 : ∀ (N : Nat) (S401 : aj_S) (lv402 : aj_V) (x403 : Int32), (aj_lv lv402 0 = some (.ref 117)) → (aj_lv lv402 2 = some (.int x293)) → (aj_lv lv402 3 = some (.int x300)) → (aj_lv lv402 4 = some (.int x403)) → (aw_I s h (aw_B) S401) → (aw_fr [58, 67, 69, 70] [26, 31] S S401) → (0 ≤ x403.toInt ∧ x403.toInt ≤ 30720) → ((S401.1 67).toInt ≤ x403.toInt) → (x403.toInt ≤ x300.toInt) → (30720 - x403.toInt).toNat < N → aw_W tb h d aj_m294 219 lv402 [] S401 ((fun r S' => ak_Ty ak_TN s (aj_mh h S') ∧ aw_fr [58, 67, 69, 70] [26, 31] S S' ∧ r = none ∧ aw_B S')) := by
                            intro N
                            induction N with
                            | zero =>
                              intro S401 lv402 x403 hlv402_0 hlv402_2 hlv402_3 hlv402_4 hI404 fr405 bx403 p219 n219 hm
                              omega
                            | succ N ihL219_399 =>
                              intro S401 lv402 x403 hlv402_0 hlv402_2 hlv402_3 hlv402_4 hI404 fr405 bx403 p219 n219 hm
                              have hI406 : aw_I s h (aw_sm S401) S401 := ⟨hI404.1, aw_sm_rf⟩
                              have b407 : 0 ≤ (S401.1 67).toInt ∧ (S401.1 67).toInt ≤ 30720 := aw_bd_f hs (hI406).1 (by decide) rfl
                              refine aw_l0 aj_d294 rfl rfl hlv402_4 ?_
                              refine aw_l0 aj_d294 rfl rfl hlv402_3 ?_
                              refine aw_c (tgt := 290) aj_d294 rfl rfl (fun q408 => ?_) (fun q408 => ?_)
                              · have q408 : x403.toInt ≥ x300.toInt := aw_t_ge (a := x403.toInt) (b := x300.toInt) rfl rfl q408
                                refine aw_e aj_d294 rfl rfl ?_
                                exact ⟨(hI406).1, fr405, rfl, hI404.2⟩
                              · have q408 : x403.toInt < x300.toInt := aw_t_ge (a := x403.toInt) (b := x300.toInt) rfl rfl q408
                                refine aw_l2 aj_d294 rfl rfl hlv402_0 ?_
                                refine aw_g hU.1 aj_d294 rfl rfl (by decide) (v := .int (S401.1 67)) rfl ?_
                                refine aw_z (tgt := 258) aj_d294 rfl rfl (fun q409 => ?_) (fun q409 => ?_)
                                · have q409 : (S401.1 67).toInt = (0 : Int) := aw_t_eq (a := (S401.1 67).toInt) (b := (0 : Int)) rfl rfl q409
                                  refine aw_l2 aj_d294 rfl rfl hlv402_0 ?_
                                  refine aw_g hU.1 aj_d294 rfl rfl (by decide) (v := .ref 148) rfl ?_
                                  refine aw_l2 aj_d294 rfl rfl hlv402_0 ?_
                                  refine aw_g hU.1 aj_d294 rfl rfl (by decide) (v := .int (S401.1 67)) rfl ?_
                                  refine aw_l2 aj_d294 rfl rfl hlv402_0 ?_
                                  refine aw_g hU.1 aj_d294 rfl rfl (by decide) (v := .ref 148) rfl ?_
                                  refine aw_l0 aj_d294 rfl rfl hlv402_4 ?_
                                  refine aw_ld (k := 31) hU.1 aj_d294 (Or.inl ⟨rfl, rfl⟩) rfl (by decide) (by decide) rfl (a := x403.toInt) rfl (by omega) (by omega) (fun x410 ex410 => ?_)
                                  have bx410 : 0 ≤ x410.toInt ∧ x410.toInt ≤ 30719 := by
                                    rw [ex410]
                                    exact aw_bd_a hs (hI406).1 (k := 31) (by decide) (by decide) rfl (by decide) rfl (by omega)
                                  refine aw_st (k := 31) hU.1 aj_d294 (Or.inl ⟨rfl, rfl⟩) rfl (by decide) (by decide) rfl (a := (S401.1 67).toInt) rfl (by omega) (by omega) ?_
                                  have hI411 := aw_I_a (aw_UV hU aw_Gs_sm) (k := 31) (j := ((S401.1 67).toInt).toNat) (v := aj_nar 0 x410) hI406 (by decide) (by decide) (by decide) rfl (by decide) (by decide) rfl (aw_bp (a := x410.toInt) rfl (by omega) (by omega))
                                  have fr412 := aw_fr_a (k := 31) (j := ((S401.1 67).toInt).toNat) (v := aj_nar 0 x410) (by decide) fr405
                                  refine aw_l2 aj_d294 rfl rfl hlv402_0 ?_
                                  refine aw_n aj_d294 rfl rfl ?_
                                  refine aw_g hU.1 aj_d294 rfl rfl (by decide) (v := .int (S401.1 67)) rfl ?_
                                  refine aw_n aj_d294 rfl rfl ?_
                                  refine aw_add aj_d294 rfl (a := (S401.1 67).toInt) (b := (1 : Int)) rfl rfl (by omega) (by omega) (fun x413 ex413 => ?_)
                                  refine aw_p hU.1 aj_d294 rfl rfl (by decide) rfl ?_
                                  have hI414 := aw_I_f (aw_UV hU aw_Gs_sm) (k := 67) (v := x413) hI411 (by decide) (by decide) rfl (aw_bp (a := x413.toInt) rfl (by omega) (by omega))
                                  have fr415 := aw_fr_f (k := 67) (v := x413) (by decide) fr412
                                  refine aw_inc aj_d294 rfl hlv402_4 (a := x403.toInt) rfl (by omega) (by omega) (by decide) (by decide) (fun x416 ex416 => ?_)
                                  obtain ⟨lv417, elv417⟩ : ∃ l, l = aj_set1 lv402 4 (.int x416) := ⟨_, rfl⟩
                                  rw [← elv417]
                                  have hlv417_0 : aj_lv lv417 0 = some (.ref 117) := cw_e1 elv417 hlv402_0 (by decide) (Or.inl (by decide))
                                  have hlv417_2 : aj_lv lv417 2 = some (.int x293) := cw_e1 elv417 hlv402_2 (by decide) (Or.inl (by decide))
                                  have hlv417_3 : aj_lv lv417 3 = some (.int x300) := cw_e1 elv417 hlv402_3 (by decide) (Or.inr rfl)
                                  have hlv417_4 : aj_lv lv417 4 = some (.int x416) := by rw [elv417]; exact ak_set1_eq _ _ _
                                  show aw_W _ _ _ _ 287 lv417 [] _ _
                                  refine aw_n aj_d294 rfl rfl ?_
                                  exact ihL219_399 (aw_wf (aw_wa S401 31 ((S401.1 67).toInt).toNat (aj_nar 0 x410)) 67 x413) lv417 (x416) hlv417_0 hlv417_2 hlv417_3 hlv417_4 ⟨(hI414).1, (aw_B_sm hI414.2 hI404.2)⟩ fr415 (by omega) (show (x413).toInt ≤ _ by omega) (by omega) (by omega)
                                · have q409 : (S401.1 67).toInt ≠ (0 : Int) := aw_t_eq (a := (S401.1 67).toInt) (b := (0 : Int)) rfl rfl q409
                                  refine aw_l2 aj_d294 rfl rfl hlv402_0 ?_
                                  refine aw_l0 aj_d294 rfl rfl hlv402_2 ?_
                                  refine aw_l2 aj_d294 rfl rfl hlv402_0 ?_
                                  refine aw_g hU.1 aj_d294 rfl rfl (by decide) (v := .ref 148) rfl ?_
                                  refine aw_l2 aj_d294 rfl rfl hlv402_0 ?_
                                  refine aw_g hU.1 aj_d294 rfl rfl (by decide) (v := .int (S401.1 67)) rfl ?_
                                  refine aw_n aj_d294 rfl rfl ?_
                                  refine aw_sub aj_d294 rfl (a := (S401.1 67).toInt) (b := (1 : Int)) rfl rfl (by omega) (by omega) (fun x418 ex418 => ?_)
                                  refine aw_ld (k := 31) hU.1 aj_d294 (Or.inl ⟨rfl, rfl⟩) rfl (by decide) (by decide) rfl (a := x418.toInt) rfl (by omega) (by omega) (fun x419 ex419 => ?_)
                                  have bx419 : 0 ≤ x419.toInt ∧ x419.toInt ≤ 30719 := by
                                    rw [ex419]
                                    exact aw_bd_a hs (hI406).1 (k := 31) (by decide) (by decide) rfl (by decide) rfl (by omega)
                                  refine aw_l2 aj_d294 rfl rfl hlv402_0 ?_
                                  refine aw_g hU.1 aj_d294 rfl rfl (by decide) (v := .ref 148) rfl ?_
                                  refine aw_l0 aj_d294 rfl rfl hlv402_4 ?_
                                  refine aw_ld (k := 31) hU.1 aj_d294 (Or.inl ⟨rfl, rfl⟩) rfl (by decide) (by decide) rfl (a := x403.toInt) rfl (by omega) (by omega) (fun x420 ex420 => ?_)
                                  have bx420 : 0 ≤ x420.toInt ∧ x420.toInt ≤ 30719 := by
                                    rw [ex420]
                                    exact aw_bd_a hs (hI406).1 (k := 31) (by decide) (by decide) rfl (by decide) rfl (by omega)
                                  have b421 : 0 ≤ (S.1 30).toInt ∧ (S.1 30).toInt ≤ 1001 := aw_bd_f hs (hI77).1 (by decide) rfl
                                  have c422 : (S401.1 30).toInt = (S.1 30).toInt := (congrArg Int32.toInt (fr405.1 30 (by decide)).1).trans rfl
                                  have b423 : 0 ≤ (S401.1 30).toInt ∧ (S401.1 30).toInt ≤ 1001 := aw_bd_f hs (hI406).1 (by decide) rfl
                                  refine aw_k hU.1 aj_d294 rfl rfl [_, _, _] rfl rfl rfl (Nat.le_of_ble_eq_true rfl) (aw_toK hU aw_Gs_B (con := ac_c296) (by omega) (ar_296 hU.2.1 (aw_SPc hU.2.2 aw_Gs_B) aw_kpc (arc_258 hU aw_Gs_B (fun _ q => q.1))) ⟨(hI406).1, hI404.2⟩ ⟨(aw_g117 hU.2.2), (cw_gw (a := x293.toInt) rfl (by omega) (by omega)), (cw_gw (a := x419.toInt) rfl (by omega) (by omega)), (cw_gw (a := x420.toInt) rfl (by omega) (by omega)), trivial⟩ (fun e he => nomatch he)) ?_
                                  rintro r424 S424 ⟨hr424, hJ424, fc424, po424, -⟩
                                  have hT424 := hJ424.1
                                  replace fc424 := aw_fr_sub (F' := []) (A' := []) (by decide) (by decide) fc424
                                  have fr425 := aw_fr_tr fr405 (aw_fr_sub (F := []) (A := []) (by decide) (by decide) fc424)
                                  have hI426 : aw_I s h (aw_sm S401) S424 := ⟨hT424, aw_sm_tr hI406.2 (aw_fr_sm (by decide) (by decide) (by decide) (F := []) (A := []) fc424)⟩
                                  obtain ⟨b424, rfl, bb424⟩ := cw_rI hr424
                                  show aw_W _ _ _ _ 255 lv402 [.int b424] _ _
                                  refine aw_z (tgt := 284) aj_d294 rfl rfl (fun q427 => ?_) (fun q427 => ?_)
                                  · have q427 : b424.toInt = (0 : Int) := aw_t_eq (a := b424.toInt) (b := (0 : Int)) rfl rfl q427
                                    refine aw_inc aj_d294 rfl hlv402_4 (a := x403.toInt) rfl (by omega) (by omega) (by decide) (by decide) (fun x428 ex428 => ?_)
                                    obtain ⟨lv429, elv429⟩ : ∃ l, l = aj_set1 lv402 4 (.int x428) := ⟨_, rfl⟩
                                    rw [← elv429]
                                    have hlv429_0 : aj_lv lv429 0 = some (.ref 117) := cw_e1 elv429 hlv402_0 (by decide) (Or.inl (by decide))
                                    have hlv429_2 : aj_lv lv429 2 = some (.int x293) := cw_e1 elv429 hlv402_2 (by decide) (Or.inl (by decide))
                                    have hlv429_3 : aj_lv lv429 3 = some (.int x300) := cw_e1 elv429 hlv402_3 (by decide) (Or.inr rfl)
                                    have hlv429_4 : aj_lv lv429 4 = some (.int x428) := by rw [elv429]; exact ak_set1_eq _ _ _
                                    show aw_W _ _ _ _ 287 lv429 [] _ _
                                    refine aw_n aj_d294 rfl rfl ?_
                                    have c430 : (S424.1 67).toInt = (S401.1 67).toInt := (congrArg Int32.toInt (fc424.1 67 (by decide)).1).trans rfl
                                    have b431 : 0 ≤ (S424.1 67).toInt ∧ (S424.1 67).toInt ≤ 30720 := aw_bd_f hs (hI426).1 (by decide) rfl
                                    exact ihL219_399 S424 lv429 (x428) hlv429_0 hlv429_2 hlv429_3 hlv429_4 ⟨(hI426).1, (aw_B_sm hI426.2 hI404.2)⟩ fr425 (by omega) (show ((S424.1 67)).toInt ≤ _ by omega) (by omega) (by omega)
                                  · have q427 : b424.toInt ≠ (0 : Int) := aw_t_eq (a := b424.toInt) (b := (0 : Int)) rfl rfl q427
                                    refine aw_l2 aj_d294 rfl rfl hlv402_0 ?_
                                    refine aw_g hU.1 aj_d294 rfl rfl (by decide) (v := .ref 148) rfl ?_
                                    refine aw_l2 aj_d294 rfl rfl hlv402_0 ?_
                                    have c432 : (S424.1 67).toInt = (S401.1 67).toInt := (congrArg Int32.toInt (fc424.1 67 (by decide)).1).trans rfl
                                    have b433 : 0 ≤ (S424.1 67).toInt ∧ (S424.1 67).toInt ≤ 30720 := aw_bd_f hs (hI426).1 (by decide) rfl
                                    refine aw_g hU.1 aj_d294 rfl rfl (by decide) (v := .int (S424.1 67)) rfl ?_
                                    refine aw_l2 aj_d294 rfl rfl hlv402_0 ?_
                                    refine aw_g hU.1 aj_d294 rfl rfl (by decide) (v := .ref 148) rfl ?_
                                    refine aw_l0 aj_d294 rfl rfl hlv402_4 ?_
                                    refine aw_ld (k := 31) hU.1 aj_d294 (Or.inl ⟨rfl, rfl⟩) rfl (by decide) (by decide) rfl (a := x403.toInt) rfl (by omega) (by omega) (fun x434 ex434 => ?_)
                                    have bx434 : 0 ≤ x434.toInt ∧ x434.toInt ≤ 30719 := by
                                      rw [ex434]
                                      exact aw_bd_a hs (hI426).1 (k := 31) (by decide) (by decide) rfl (by decide) rfl (by omega)
                                    refine aw_st (k := 31) hU.1 aj_d294 (Or.inl ⟨rfl, rfl⟩) rfl (by decide) (by decide) rfl (a := (S401.1 67).toInt) c432 (by omega) (by omega) ?_
                                    have hI435 := aw_I_a (aw_UV hU aw_Gs_sm) (k := 31) (j := ((S401.1 67).toInt).toNat) (v := aj_nar 0 x434) hI426 (by decide) (by decide) (by decide) rfl (by decide) (by decide) rfl (aw_bp (a := x434.toInt) rfl (by omega) (by omega))
                                    have fr436 := aw_fr_a (k := 31) (j := ((S401.1 67).toInt).toNat) (v := aj_nar 0 x434) (by decide) fr425
                                    refine aw_l2 aj_d294 rfl rfl hlv402_0 ?_
                                    refine aw_n aj_d294 rfl rfl ?_
                                    refine aw_g hU.1 aj_d294 rfl rfl (by decide) (v := .int (S424.1 67)) rfl ?_
                                    refine aw_n aj_d294 rfl rfl ?_
                                    refine aw_add aj_d294 rfl (a := (S401.1 67).toInt) (b := (1 : Int)) c432 rfl (by omega) (by omega) (fun x437 ex437 => ?_)
                                    refine aw_p hU.1 aj_d294 rfl rfl (by decide) rfl ?_
                                    have hI438 := aw_I_f (aw_UV hU aw_Gs_sm) (k := 67) (v := x437) hI435 (by decide) (by decide) rfl (aw_bp (a := x437.toInt) rfl (by omega) (by omega))
                                    have fr439 := aw_fr_f (k := 67) (v := x437) (by decide) fr436
                                    refine aw_inc aj_d294 rfl hlv402_4 (a := x403.toInt) rfl (by omega) (by omega) (by decide) (by decide) (fun x440 ex440 => ?_)
                                    obtain ⟨lv441, elv441⟩ : ∃ l, l = aj_set1 lv402 4 (.int x440) := ⟨_, rfl⟩
                                    rw [← elv441]
                                    have hlv441_0 : aj_lv lv441 0 = some (.ref 117) := cw_e1 elv441 hlv402_0 (by decide) (Or.inl (by decide))
                                    have hlv441_2 : aj_lv lv441 2 = some (.int x293) := cw_e1 elv441 hlv402_2 (by decide) (Or.inl (by decide))
                                    have hlv441_3 : aj_lv lv441 3 = some (.int x300) := cw_e1 elv441 hlv402_3 (by decide) (Or.inr rfl)
                                    have hlv441_4 : aj_lv lv441 4 = some (.int x440) := by rw [elv441]; exact ak_set1_eq _ _ _
                                    show aw_W _ _ _ _ 287 lv441 [] _ _
                                    refine aw_n aj_d294 rfl rfl ?_
                                    exact ihL219_399 (aw_wf (aw_wa S424 31 ((S401.1 67).toInt).toNat (aj_nar 0 x434)) 67 x437) lv441 (x440) hlv441_0 hlv441_2 hlv441_3 hlv441_4 ⟨(hI438).1, (aw_B_sm hI438.2 hI404.2)⟩ fr439 (by omega) (show (x437).toInt ≤ _ by omega) (by omega) (by omega)
                          exact L219_399 _ (aw_wf S390 67 (Int32.ofInt 0)) lv399 ((Int32.ofInt 0)) hlv399_0 hlv399_2 hlv399_3 hlv399_4 ⟨(hI397).1, (aw_B_sm hI397.2 hI393.2)⟩ fr398 (by first | omega | decide) (show (0 : Int) ≤ 0 by omega) (show (0 : Int) ≤ x300.toInt by omega) (Nat.lt_succ_self _)
                        · have q396 : x392.toInt > (0 : Int) := aw_t_le (a := x392.toInt) (b := (0 : Int)) rfl rfl q396
                          refine aw_l2 aj_d294 rfl rfl hlv391_0 ?_
                          refine aw_g hU.1 aj_d294 rfl rfl (by decide) (v := .ref 148) rfl ?_
                          refine aw_l0 aj_d294 rfl rfl hlv391_4 ?_
                          refine aw_ld (k := 31) hU.1 aj_d294 (Or.inl ⟨rfl, rfl⟩) rfl (by decide) (by decide) rfl (a := x392.toInt) rfl (by omega) (by omega) (fun x442 ex442 => ?_)
                          have bx442 : 0 ≤ x442.toInt ∧ x442.toInt ≤ 30719 := by
                            rw [ex442]
                            exact aw_bd_a hs (hI395).1 (k := 31) (by decide) (by decide) rfl (by decide) rfl (by omega)
                          refine aw_t0 (j := 5) aj_d294 rfl (by decide) rfl ?_
                          obtain ⟨lv443, elv443⟩ : ∃ l, l = aj_set1 lv391 5 (.int x442) := ⟨_, rfl⟩
                          rw [← elv443]
                          have hlv443_0 : aj_lv lv443 0 = some (.ref 117) := cw_e1 elv443 hlv391_0 (by decide) (Or.inl (by decide))
                          have hlv443_2 : aj_lv lv443 2 = some (.int x293) := cw_e1 elv443 hlv391_2 (by decide) (Or.inl (by decide))
                          have hlv443_3 : aj_lv lv443 3 = some (.int x300) := cw_e1 elv443 hlv391_3 (by decide) (Or.inl (by decide))
                          have hlv443_4 : aj_lv lv443 4 = some (.int x392) := cw_e1 elv443 hlv391_4 (by decide) (Or.inr rfl)
                          have hlv443_5 : aj_lv lv443 5 = some (.int x442) := by rw [elv443]; exact ak_set1_eq _ _ _
                          show aw_W _ _ _ _ 176 lv443 [] _ _
                          refine aw_l2 aj_d294 rfl rfl hlv443_0 ?_
                          refine aw_g hU.1 aj_d294 rfl rfl (by decide) (v := .ref 148) rfl ?_
                          refine aw_l0 aj_d294 rfl rfl hlv443_4 ?_
                          refine aw_l2 aj_d294 rfl rfl hlv443_0 ?_
                          refine aw_g hU.1 aj_d294 rfl rfl (by decide) (v := .ref 148) rfl ?_
                          refine aw_n aj_d294 rfl rfl ?_
                          refine aw_ld (k := 31) hU.1 aj_d294 (Or.inl ⟨rfl, rfl⟩) rfl (by decide) (by decide) rfl (a := (0 : Int)) rfl (by omega) (by omega) (fun x444 ex444 => ?_)
                          have bx444 : 0 ≤ x444.toInt ∧ x444.toInt ≤ 30719 := by
                            rw [ex444]
                            exact aw_bd_a hs (hI395).1 (k := 31) (by decide) (by decide) rfl (by decide) rfl (by omega)
                          refine aw_st (k := 31) hU.1 aj_d294 (Or.inl ⟨rfl, rfl⟩) rfl (by decide) (by decide) rfl (a := x392.toInt) rfl (by omega) (by omega) ?_
                          have hI445 := aw_I_a (aw_UV hU aw_Gs_sm) (k := 31) (j := (x392.toInt).toNat) (v := aj_nar 0 x444) hI395 (by decide) (by decide) (by decide) rfl (by decide) (by decide) rfl (aw_bp (a := x444.toInt) rfl (by omega) (by omega))
                          have fr446 := aw_fr_a (k := 31) (j := (x392.toInt).toNat) (v := aj_nar 0 x444) (by decide) fr394
                          refine aw_l2 aj_d294 rfl rfl hlv443_0 ?_
                          refine aw_g hU.1 aj_d294 rfl rfl (by decide) (v := .ref 148) rfl ?_
                          refine aw_n aj_d294 rfl rfl ?_
                          refine aw_l0 aj_d294 rfl rfl hlv443_5 ?_
                          refine aw_st (k := 31) hU.1 aj_d294 (Or.inl ⟨rfl, rfl⟩) rfl (by decide) (by decide) rfl (a := (0 : Int)) rfl (by omega) (by omega) ?_
                          have hI447 := aw_I_a (aw_UV hU aw_Gs_sm) (k := 31) (j := ((0 : Int)).toNat) (v := aj_nar 0 x442) hI445 (by decide) (by decide) (by decide) rfl (by decide) (by decide) rfl (aw_bp (a := x442.toInt) rfl (by omega) (by omega))
                          have fr448 := aw_fr_a (k := 31) (j := ((0 : Int)).toNat) (v := aj_nar 0 x442) (by decide) fr446
                          refine aw_l2 aj_d294 rfl rfl hlv443_0 ?_
                          refine aw_l0 aj_d294 rfl rfl hlv443_2 ?_
                          refine aw_n aj_d294 rfl rfl ?_
                          refine aw_l0 aj_d294 rfl rfl hlv443_4 ?_
                          refine aw_k hU.1 aj_d294 rfl rfl [_, _, _] rfl rfl rfl (Nat.le_of_ble_eq_true rfl) (ar_sink hU (hI447).1 (aw_B_sm hI447.2 hI393.2) (by omega) (x := x293) (y := (Int32.ofInt 0)) (z := x392) (by omega) (by first | omega | (show 0 ≤ (0 : Int) ∧ (0 : Int) < _; omega)) (by omega)) ?_
                          rintro _ S449 ⟨hT449, fc449, rfl, hB449⟩
                          have fr450 := aw_fr_tr fr448 (aw_fr_sub (F := []) (A := [31]) (by decide) (by decide) fc449)
                          have hI451 : aw_I s h (aw_sm S449) S449 := ⟨hT449, aw_sm_rf⟩
                          show aw_W _ _ _ _ 205 lv443 [] _ _
                          refine aw_inc aj_d294 rfl hlv443_4 (a := x392.toInt) rfl (by omega) (by omega) (by decide) (by decide) (fun x452 ex452 => ?_)
                          obtain ⟨lv453, elv453⟩ : ∃ l, l = aj_set1 lv443 4 (.int x452) := ⟨_, rfl⟩
                          rw [← elv453]
                          have hlv453_0 : aj_lv lv453 0 = some (.ref 117) := cw_e1 elv453 hlv443_0 (by decide) (Or.inl (by decide))
                          have hlv453_2 : aj_lv lv453 2 = some (.int x293) := cw_e1 elv453 hlv443_2 (by decide) (Or.inl (by decide))
                          have hlv453_3 : aj_lv lv453 3 = some (.int x300) := cw_e1 elv453 hlv443_3 (by decide) (Or.inr rfl)
                          have hlv453_4 : aj_lv lv453 4 = some (.int x452) := by rw [elv453]; exact ak_set1_eq _ _ _
                          show aw_W _ _ _ _ 208 lv453 [] _ _
                          refine aw_n aj_d294 rfl rfl ?_
                          exact ihL162_388 S449 lv453 (x452) hlv453_0 hlv453_2 hlv453_3 hlv453_4 ⟨(hI451).1, hB449⟩ fr450 (by omega) (by omega) (by omega)
                    exact L162_388 _ S312 lv388 (x387) hlv388_0 hlv388_2 hlv388_3 hlv388_4 ⟨(hI317).1, hI315.2⟩ fr316 (by omega) (by omega) (Nat.lt_succ_self _)
                  · have q386 : x300.toInt > (0 : Int) := aw_t_le (a := x300.toInt) (b := (0 : Int)) rfl rfl q386
                    refine aw_l2 aj_d294 rfl rfl hlv313_0 ?_
                    refine aw_l0 aj_d294 rfl rfl hlv313_2 ?_
                    refine aw_l0 aj_d294 rfl rfl hlv313_4 ?_
                    refine aw_l0 aj_d294 rfl rfl hlv313_3 ?_
                    refine aw_k hU.1 aj_d294 rfl rfl [_, _, _] rfl rfl rfl (Nat.le_of_ble_eq_true rfl) (ar_sink hU (hI317).1 hI315.2 (by omega) (x := x293) (y := x314) (z := x300) (by omega) (by first | omega | (show 0 ≤ (0 : Int) ∧ (0 : Int) < _; omega)) (by omega)) ?_
                    rintro _ S454 ⟨hT454, fc454, rfl, hB454⟩
                    have fr455 := aw_fr_tr fr316 (aw_fr_sub (F := []) (A := [31]) (by decide) (by decide) fc454)
                    have hI456 : aw_I s h (aw_sm S454) S454 := ⟨hT454, aw_sm_rf⟩
                    show aw_W _ _ _ _ 151 lv313 [] _ _
                    refine aw_inc aj_d294 rfl hlv313_4 (a := x314.toInt) rfl (by omega) (by omega) (by decide) (by decide) (fun x457 ex457 => ?_)
                    obtain ⟨lv458, elv458⟩ : ∃ l, l = aj_set1 lv313 4 (.int x457) := ⟨_, rfl⟩
                    rw [← elv458]
                    have hlv458_0 : aj_lv lv458 0 = some (.ref 117) := cw_e1 elv458 hlv313_0 (by decide) (Or.inl (by decide))
                    have hlv458_2 : aj_lv lv458 2 = some (.int x293) := cw_e1 elv458 hlv313_2 (by decide) (Or.inl (by decide))
                    have hlv458_3 : aj_lv lv458 3 = some (.int x300) := cw_e1 elv458 hlv313_3 (by decide) (Or.inr rfl)
                    have hlv458_4 : aj_lv lv458 4 = some (.int x457) := by rw [elv458]; exact ak_set1_eq _ _ _
                    show aw_W _ _ _ _ 154 lv458 [] _ _
                    refine aw_n aj_d294 rfl rfl ?_
                    exact ihL134_310 S454 lv458 (x457) hlv458_0 hlv458_2 hlv458_3 hlv458_4 ⟨(hI456).1, hB454⟩ fr455 (by omega) (by omega) (by omega)
            exact L134_310 _ S298 lv310 (x309) hlv310_0 hlv310_2 hlv310_3 hlv310_4 ⟨(hI304).1, hI302.2⟩ fr303 (by omega) (by omega) (Nat.lt_succ_self _)
          · have q308 : x301.toInt < x307.toInt := aw_t_ge (a := x301.toInt) (b := x307.toInt) rfl rfl q308
            refine aw_l2 aj_d294 rfl rfl hlv299_0 ?_
            refine aw_l2 aj_d294 rfl rfl hlv299_0 ?_
            refine aw_g hU.1 aj_d294 rfl rfl (by decide) (v := .int (S298.1 0)) rfl ?_
            refine aw_l0 aj_d294 rfl rfl hlv299_4 ?_
            refine aw_k hU.1 aj_d294 rfl rfl [_, _] rfl rfl rfl (Nat.le_of_ble_eq_true rfl) (ar_isHeld hU (hI304).1 (by omega) (t := (S298.1 0)) (x := x301) (by omega) (by omega)) ?_
            rintro _ zb459 ⟨fb459, b459, rfl, kb459⟩
            rw [fb459]
            rcases kb459 with ⟨hb459, pb459⟩ | ⟨hb459, pb459⟩
            · skip
              show aw_W _ _ _ _ 73 lv299 [.int b459] _ _
              refine aw_z (tgt := 123) aj_d294 rfl rfl (fun q460 => ?_) (fun q460 => ?_)
              · have q460 : (1 : Int) = (0 : Int) := aw_t_eq (a := (1 : Int)) (b := (0 : Int)) hb459 rfl q460
                exfalso
                omega
              · have q460 : (1 : Int) ≠ (0 : Int) := aw_t_eq (a := (1 : Int)) (b := (0 : Int)) hb459 rfl q460
                refine aw_l2 aj_d294 rfl rfl hlv299_0 ?_
                refine aw_l0 aj_d294 rfl rfl hlv299_2 ?_
                refine aw_l0 aj_d294 rfl rfl hlv299_4 ?_
                have b461 : 0 ≤ (S.1 30).toInt ∧ (S.1 30).toInt ≤ 1001 := aw_bd_f hs (hI77).1 (by decide) rfl
                have c462 : (S298.1 30).toInt = (S.1 30).toInt := (congrArg Int32.toInt (fr303.1 30 (by decide)).1).trans rfl
                have b463 : 0 ≤ (S298.1 30).toInt ∧ (S298.1 30).toInt ≤ 1001 := aw_bd_f hs (hI304).1 (by decide) rfl
                refine aw_k hU.1 aj_d294 rfl rfl [_, _] rfl rfl rfl (Nat.le_of_ble_eq_true rfl) (aw_toK hU aw_Gs_B (con := ac_c266) (by omega) (ar_266 hU.2.1 (aw_SPc hU.2.2 aw_Gs_B) aw_kpc (arc_258 hU aw_Gs_B (fun _ q => q.1))) ⟨(hI304).1, hI302.2⟩ ⟨(aw_g117 hU.2.2), (cw_gw (a := x293.toInt) rfl (by omega) (by omega)), (cw_gw (a := x301.toInt) rfl (by omega) (by omega)), trivial⟩ (fun e he => nomatch he)) ?_
                rintro r464 S464 ⟨hr464, hJ464, fc464, po464, -⟩
                have hT464 := hJ464.1
                replace fc464 := aw_fr_sub (F' := [58]) (A' := [26]) (by decide) (by decide) fc464
                have fr465 := aw_fr_tr fr303 (aw_fr_sub (F := [58]) (A := [26]) (by decide) (by decide) fc464)
                have hI466 : aw_I s h (aw_sm S298) S464 := ⟨hT464, aw_sm_tr hI304.2 (aw_fr_sm (by decide) (by decide) (by decide) (F := [58]) (A := [26]) fc464)⟩
                obtain rfl := cw_rN hr464
                show aw_W _ _ _ _ 83 lv299 [] _ _
                refine aw_n aj_d294 rfl rfl ?_
                refine aw_t0 (j := 5) aj_d294 rfl (by decide) rfl ?_
                obtain ⟨lv467, elv467⟩ : ∃ l, l = aj_set1 lv299 5 (.int (Int32.ofInt 0)) := ⟨_, rfl⟩
                rw [← elv467]
                have hlv467_0 : aj_lv lv467 0 = some (.ref 117) := cw_e1 elv467 hlv299_0 (by decide) (Or.inl (by decide))
                have hlv467_2 : aj_lv lv467 2 = some (.int x293) := cw_e1 elv467 hlv299_2 (by decide) (Or.inl (by decide))
                have hlv467_3 : aj_lv lv467 3 = some (.int x300) := cw_e1 elv467 hlv299_3 (by decide) (Or.inl (by decide))
                have hlv467_4 : aj_lv lv467 4 = some (.int x301) := cw_e1 elv467 hlv299_4 (by decide) (Or.inr rfl)
                have hlv467_5 : aj_lv lv467 5 = some (.int (Int32.ofInt 0)) := by rw [elv467]; exact ak_set1_eq _ _ _
                show aw_W _ _ _ _ 86 lv467 [] _ _
                have L86_467 : ∀ (N : Nat) (S469 : aj_S) (lv470 : aj_V) (x471 : Int32) (x472 : Int32), (aj_lv lv470 0 = some (.ref 117)) → (aj_lv lv470 2 = some (.int x293)) → (aj_lv lv470 3 = some (.int x471)) → (aj_lv lv470 4 = some (.int x301)) → (aj_lv lv470 5 = some (.int x472)) → (aw_I s h (aw_B) S469) → (aw_fr [58, 67, 69, 70] [26, 31] S S469) → (0 ≤ x471.toInt ∧ x471.toInt ≤ 30720) → (0 ≤ x472.toInt ∧ x472.toInt ≤ 30) → (x471.toInt ≤ 30 * x301.toInt + x472.toInt) → (30 - x472.toInt).toNat < N → aw_W tb h d aj_m294 86 lv470 [] S469 ((fun r S' => ak_Ty ak_TN s (aj_mh h S') ∧ aw_fr [58, 67, 69, 70] [26, 31] S S' ∧ r = none ∧ aw_B S')) := by
                  intro N
                  induction N with
                  | zero =>
                    intro S469 lv470 x471 x472 hlv470_0 hlv470_2 hlv470_3 hlv470_4 hlv470_5 hI473 fr474 bx471 bx472 n86 hm
                    omega
                  | succ N ihL86_467 =>
                    intro S469 lv470 x471 x472 hlv470_0 hlv470_2 hlv470_3 hlv470_4 hlv470_5 hI473 fr474 bx471 bx472 n86 hm
                    have hI475 : aw_I s h (aw_sm S469) S469 := ⟨hI473.1, aw_sm_rf⟩
                    refine aw_l0 aj_d294 rfl rfl hlv470_5 ?_
                    refine aw_l2 aj_d294 rfl rfl hlv470_0 ?_
                    have b476 : 0 ≤ (S469.1 58).toInt ∧ (S469.1 58).toInt ≤ 30 := aw_bd_f hs (hI475).1 (by decide) rfl
                    refine aw_g hU.1 aj_d294 rfl rfl (by decide) (v := .int (S469.1 58)) rfl ?_
                    refine aw_c (tgt := 123) aj_d294 rfl rfl (fun q477 => ?_) (fun q477 => ?_)
                    · have q477 : x472.toInt ≥ (S469.1 58).toInt := aw_t_ge (a := x472.toInt) (b := (S469.1 58).toInt) rfl rfl q477
                      refine aw_inc aj_d294 rfl hlv470_4 (a := x301.toInt) rfl (by omega) (by omega) (by decide) (by decide) (fun x478 ex478 => ?_)
                      obtain ⟨lv479, elv479⟩ : ∃ l, l = aj_set1 lv470 4 (.int x478) := ⟨_, rfl⟩
                      rw [← elv479]
                      have hlv479_0 : aj_lv lv479 0 = some (.ref 117) := cw_e1 elv479 hlv470_0 (by decide) (Or.inl (by decide))
                      have hlv479_2 : aj_lv lv479 2 = some (.int x293) := cw_e1 elv479 hlv470_2 (by decide) (Or.inl (by decide))
                      have hlv479_3 : aj_lv lv479 3 = some (.int x471) := cw_e1 elv479 hlv470_3 (by decide) (Or.inr rfl)
                      have hlv479_4 : aj_lv lv479 4 = some (.int x478) := by rw [elv479]; exact ak_set1_eq _ _ _
                      show aw_W _ _ _ _ 126 lv479 [] _ _
                      refine aw_n aj_d294 rfl rfl ?_
                      exact ihL49_296 S469 lv479 (x471) (x478) hlv479_0 hlv479_2 hlv479_3 hlv479_4 ⟨(hI475).1, hI473.2⟩ fr474 (by omega) (by omega) (by omega) (by omega)
                    · have q477 : x472.toInt < (S469.1 58).toInt := aw_t_ge (a := x472.toInt) (b := (S469.1 58).toInt) rfl rfl q477
                      refine aw_l2 aj_d294 rfl rfl hlv470_0 ?_
                      refine aw_g hU.1 aj_d294 rfl rfl (by decide) (v := .ref 148) rfl ?_
                      refine aw_l0 aj_d294 rfl rfl hlv470_3 ?_
                      refine aw_l2 aj_d294 rfl rfl hlv470_0 ?_
                      refine aw_g hU.1 aj_d294 rfl rfl (by decide) (v := .ref 143) rfl ?_
                      refine aw_l0 aj_d294 rfl rfl hlv470_5 ?_
                      refine aw_ld (k := 26) hU.1 aj_d294 (Or.inl ⟨rfl, rfl⟩) rfl (by decide) (by decide) rfl (a := x472.toInt) rfl (by omega) (by omega) (fun x480 ex480 => ?_)
                      have bx480 : 0 ≤ x480.toInt ∧ x480.toInt ≤ 29 := by
                        rw [ex480]
                        exact aw_bd_a hs (hI475).1 (k := 26) (by decide) (by decide) rfl (by decide) rfl (by omega)
                      refine aw_n aj_d294 rfl rfl ?_
                      refine aw_any aj_d294 rfl rfl (fun x481 ex481 => ?_)
                      refine aw_l0 aj_d294 rfl rfl hlv470_4 ?_
                      refine aw_any aj_d294 rfl rfl (fun x482 ex482 => ?_)
                      have bx482 : 0 ≤ x482.toInt ∧ x482.toInt ≤ 30719 := by
                        rw [ex482, ex481]
                        exact ar_pk (by omega) (by omega)
                      refine aw_st (k := 31) hU.1 aj_d294 (Or.inl ⟨rfl, rfl⟩) rfl (by decide) (by decide) rfl (a := x471.toInt) rfl (by omega) (by omega) ?_
                      have hI483 := aw_I_a (aw_UV hU aw_Gs_sm) (k := 31) (j := (x471.toInt).toNat) (v := aj_nar 0 x482) hI475 (by decide) (by decide) (by decide) rfl (by decide) (by decide) rfl (aw_bp (a := x482.toInt) rfl (by omega) (by omega))
                      have fr484 := aw_fr_a (k := 31) (j := (x471.toInt).toNat) (v := aj_nar 0 x482) (by decide) fr474
                      refine aw_inc aj_d294 rfl hlv470_3 (a := x471.toInt) rfl (by omega) (by omega) (by decide) (by decide) (fun x485 ex485 => ?_)
                      obtain ⟨lv486, elv486⟩ : ∃ l, l = aj_set1 lv470 3 (.int x485) := ⟨_, rfl⟩
                      rw [← elv486]
                      have hlv486_0 : aj_lv lv486 0 = some (.ref 117) := cw_e1 elv486 hlv470_0 (by decide) (Or.inl (by decide))
                      have hlv486_2 : aj_lv lv486 2 = some (.int x293) := cw_e1 elv486 hlv470_2 (by decide) (Or.inr rfl)
                      have hlv486_4 : aj_lv lv486 4 = some (.int x301) := cw_e1 elv486 hlv470_4 (by decide) (Or.inl (by decide))
                      have hlv486_5 : aj_lv lv486 5 = some (.int x472) := cw_e1 elv486 hlv470_5 (by decide) (Or.inl (by decide))
                      have hlv486_3 : aj_lv lv486 3 = some (.int x485) := by rw [elv486]; exact ak_set1_eq _ _ _
                      show aw_W _ _ _ _ 117 lv486 [] _ _
                      refine aw_inc aj_d294 rfl hlv486_5 (a := x472.toInt) rfl (by omega) (by omega) (by decide) (by decide) (fun x487 ex487 => ?_)
                      obtain ⟨lv488, elv488⟩ : ∃ l, l = aj_set1 lv486 5 (.int x487) := ⟨_, rfl⟩
                      rw [← elv488]
                      have hlv488_0 : aj_lv lv488 0 = some (.ref 117) := cw_e1 elv488 hlv486_0 (by decide) (Or.inl (by decide))
                      have hlv488_2 : aj_lv lv488 2 = some (.int x293) := cw_e1 elv488 hlv486_2 (by decide) (Or.inl (by decide))
                      have hlv488_4 : aj_lv lv488 4 = some (.int x301) := cw_e1 elv488 hlv486_4 (by decide) (Or.inr rfl)
                      have hlv488_3 : aj_lv lv488 3 = some (.int x485) := cw_e1 elv488 hlv486_3 (by decide) (Or.inl (by decide))
                      have hlv488_5 : aj_lv lv488 5 = some (.int x487) := by rw [elv488]; exact ak_set1_eq _ _ _
                      show aw_W _ _ _ _ 120 lv488 [] _ _
                      refine aw_n aj_d294 rfl rfl ?_
                      exact ihL86_467 (aw_wa S469 31 (x471.toInt).toNat (aj_nar 0 x482)) lv488 (x485) (x487) hlv488_0 hlv488_2 hlv488_3 hlv488_4 hlv488_5 ⟨(hI483).1, (aw_B_sm hI483.2 hI473.2)⟩ fr484 (by omega) (by omega) (by omega) (by omega)
                exact L86_467 _ S464 lv467 (x300) ((Int32.ofInt 0)) hlv467_0 hlv467_2 hlv467_3 hlv467_4 hlv467_5 ⟨(hI466).1, (aw_B_sm hI466.2 hI302.2)⟩ fr465 (by omega) (by first | omega | decide) (by have z5 : ((Int32.ofInt 0)).toInt = 0 := rfl; omega) (Nat.lt_succ_self _)
            · skip
              show aw_W _ _ _ _ 73 lv299 [.int b459] _ _
              refine aw_z (tgt := 123) aj_d294 rfl rfl (fun q489 => ?_) (fun q489 => ?_)
              · have q489 : (0 : Int) = (0 : Int) := aw_t_eq (a := (0 : Int)) (b := (0 : Int)) hb459 rfl q489
                refine aw_inc aj_d294 rfl hlv299_4 (a := x301.toInt) rfl (by omega) (by omega) (by decide) (by decide) (fun x490 ex490 => ?_)
                obtain ⟨lv491, elv491⟩ : ∃ l, l = aj_set1 lv299 4 (.int x490) := ⟨_, rfl⟩
                rw [← elv491]
                have hlv491_0 : aj_lv lv491 0 = some (.ref 117) := cw_e1 elv491 hlv299_0 (by decide) (Or.inl (by decide))
                have hlv491_2 : aj_lv lv491 2 = some (.int x293) := cw_e1 elv491 hlv299_2 (by decide) (Or.inl (by decide))
                have hlv491_3 : aj_lv lv491 3 = some (.int x300) := cw_e1 elv491 hlv299_3 (by decide) (Or.inr rfl)
                have hlv491_4 : aj_lv lv491 4 = some (.int x490) := by rw [elv491]; exact ak_set1_eq _ _ _
                show aw_W _ _ _ _ 126 lv491 [] _ _
                refine aw_n aj_d294 rfl rfl ?_
                exact ihL49_296 S298 lv491 (x300) (x490) hlv491_0 hlv491_2 hlv491_3 hlv491_4 ⟨(hI304).1, hI302.2⟩ fr303 (by omega) (by omega) (by omega) (by omega)
              · have q489 : (0 : Int) ≠ (0 : Int) := aw_t_eq (a := (0 : Int)) (b := (0 : Int)) hb459 rfl q489
                exfalso
                omega
      exact L49_296 _ (aw_wl (aw_wf S 70 x) 69 (S.2.1 68)) lv296 ((Int32.ofInt 0)) ((Int32.ofInt 0)) hlv296_0 hlv296_2 hlv296_3 hlv296_4 ⟨(hI289).1, (aw_B_sm hI289.2 hG)⟩ fr290 (by first | omega | decide) (by first | omega | decide) (by have z3 : ((Int32.ofInt 0)).toInt = 0 := rfl; have z4 : ((Int32.ofInt 0)).toInt = 0 := rfl; omega) (Nat.lt_succ_self _)
    · have q286 : x285.toInt = (0 : Int) := aw_t_ne (a := x285.toInt) (b := (0 : Int)) rfl rfl q286
      refine aw_e aj_d294 rfl rfl ?_
      exact ⟨(hI77).1, fr78, rfl, hG⟩
theorem arc_294 (hU : aw_U tb s h) : ak_CT ak_TR (aw_SP s h aw_B) aw_kap tb 7 ac_c294 := by
  refine ar_ofP (F := [58, 67, 69, 70]) (A := [26, 31]) hU aw_Gs_B ⟨rfl, rfl, rfl, rfl, rfl, rfl, rfl⟩ ⟨by decide, by decide⟩ (fun d hd S as hI hA hQ => ?_)
  obtain ⟨v0, as, rfl, g0, hA⟩ := cw_gAc hA
  obtain ⟨v1, as, rfl, g1, hA⟩ := cw_gAc hA
  cases cw_gAn hA
  obtain rfl := aw_117 hU.2.2 g0
  obtain ⟨x1, rfl, b1⟩ := ak_gi g1
  dsimp only [ak_win] at b1
  refine aw_mono ?_ (ar_maybes hU hI.1 hI.2 hd b1)
  rintro r S' ⟨k1, k2, rfl, k3⟩
  exact ⟨k1, k2, trivial, k3, Int.le_of_eq (congrArg Int32.toInt (k2.1 30 (by decide)).1).symm⟩
end ARA30
