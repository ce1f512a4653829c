/-! LIST (printed by wip/p2/ref/r23.py) -/
section ARA23
variable {tb : aj_T} {s : List Nat} {h : aj_H} {S S' S1 S2 : aj_S} {d n : Nat} {g g' : aw_gh} {F A : List Nat} {G : aj_S → Prop} {nm : Int64 → Prop} {fl : Bool} {la ho hu ht q t p : Nat}
theorem aw_lc_1 {T : aw_Ts} {k k' q q' : Nat} (h : aw_is T q 3 44) (hk : k = k' + 1) (hq : q' = q + 1 + aw_wd T (q + 1)) : aw_lc T k q = 1 + aw_lc T k' q' := by
  subst hk hq
  conv => lhs; unfold aw_lc
  rw [if_pos h]
theorem aw_lc_0 {T : aw_Ts} {k q : Nat} (h : ¬ aw_is T q 3 44) : aw_lc T k q = 0 := by
  cases k with
  | zero => rfl
  | succ k => unfold aw_lc; rw [if_neg h]
theorem ar_list (hU : aw_U tb s h) (hT : ak_Ty ak_TN s (aj_mh h S)) (hG : aw_G (nm, false, la, ho, hu, ht) S) (hd : 6 ≤ d) {x : Int32} (hx : 0 ≤ x.toInt ∧ x.toInt ≤ 15) (hx2 : aw_h S * 8 + (S.2.2.1 1 (aw_h S)).toInt.toNat ≤ (x.toInt).toNat) (hm1 : (S.2.2.1 3 (x.toInt).toNat).toInt = 1) : aw_K tb h d 223 [.ref 117, .int x] S (ar_QB s h [24, 25, 26, 27, 28, 29, 30, 31, 35, 36] [3, 4] S (fun S' => aw_G (nm, false, la, ho, hu, ht) S' ∧ (S.1 30).toInt ≤ (S'.1 30).toInt) (fun S' => aw_G (nm, false, la, ho, hu, ht) S' ∧ (S.1 30).toInt + 0 ≤ (S'.1 30).toInt ∧ (S'.2.2.1 3 (x.toInt).toNat).toInt = 1 + (aw_lc (aw_tT S) 1001 (aw_tJ S) : Nat) ∧ ∀ j, j ≠ (x.toInt).toNat → S'.2.2.1 3 j = S.2.2.1 3 j)) := by
  obtain ⟨d, rfl⟩ : ∃ e, d = e + 1 := ⟨d - 1, by omega⟩
  have hs : aw_sT s := aw_hy_sT hU.2.2
  refine aw_m aj_m223_at rfl (Nat.le_of_ble_eq_true rfl) ?_
  show aw_W _ _ _ _ 0 [(0, .ref 117), (1, .int x)] [] _ _
  obtain ⟨lv1, elv1⟩ : ∃ l : aj_V, l = [(0, .ref 117), (1, .int x)] := ⟨_, rfl⟩
  rw [← elv1]
  have hlv1_0 : aj_lv lv1 0 = some (.ref 117) := by rw [elv1]; rfl
  have hlv1_1 : aj_lv lv1 1 = some (.int x) := by rw [elv1]; rfl
  have hI2 : aw_I s h (aw_sm S) S := ⟨hT, aw_sm_rf⟩
  have fr3 : aw_fr [24, 25, 26, 27, 28, 29, 30, 31, 35, 36] [3, 4] S S := aw_fr_rf
  have L0_3 : ∀ (N : Nat) (S5 : aj_S) (lv6 : aj_V), (aj_lv lv6 0 = some (.ref 117)) → (aj_lv lv6 1 = some (.int x)) → (aw_I s h (aw_G (nm, false, la, ho, hu, ht)) S5) → (aw_fr [24, 25, 26, 27, 28, 29, 30, 31, 35, 36] [3, 4] S S5) → ((S.1 30).toInt ≤ (S5.1 30).toInt) → (1 ≤ (S5.2.2.1 3 (x.toInt).toNat).toInt ∧ (S5.2.2.1 3 (x.toInt).toNat).toInt ≤ 16) → ((S5.2.2.1 3 (x.toInt).toNat).toInt + (aw_lc (aw_tT S) (1002 - ((S5.2.2.1 3 (x.toInt).toNat).toInt).toNat) (aw_tJ S5) : Nat) = 1 + (aw_lc (aw_tT S) 1001 (aw_tJ S) : Nat)) → (∀ j, j ≠ (x.toInt).toNat → S5.2.2.1 3 j = S.2.2.1 3 j) → (1001 - (S5.1 30).toInt).toNat < N → aw_W tb h d aj_m223 0 lv6 [] S5 ((ar_QB s h [24, 25, 26, 27, 28, 29, 30, 31, 35, 36] [3, 4] S (fun S' => aw_G (nm, false, la, ho, hu, ht) S' ∧ (S.1 30).toInt ≤ (S'.1 30).toInt) (fun S' => aw_G (nm, false, la, ho, hu, ht) S' ∧ (S.1 30).toInt + 0 ≤ (S'.1 30).toInt ∧ (S'.2.2.1 3 (x.toInt).toNat).toInt = 1 + (aw_lc (aw_tT S) 1001 (aw_tJ S) : Nat) ∧ ∀ j, j ≠ (x.toInt).toNat → S'.2.2.1 3 j = S.2.2.1 3 j))) := by
    intro N
    induction N with
    | zero =>
      intro S5 lv6  hlv6_0 hlv6_1 hI7 fr8 ck0 m0 lc0 o0 hm
      omega
    | succ N ihL0_3 =>
      intro S5 lv6  hlv6_0 hlv6_1 hI7 fr8 ck0 m0 lc0 o0 hm
      have hI9 : aw_I s h (aw_sm S5) S5 := ⟨hI7.1, aw_sm_rf⟩
      have b10 : 0 ≤ (S5.1 30).toInt ∧ (S5.1 30).toInt ≤ 1001 := aw_bd_f hs (hI9).1 (by decide) rfl
      have eT0 : aw_tT S5 = aw_tT S := aw_fr_tT fr8 (by decide) (by decide)
      refine aw_l2 aj_d223 rfl rfl hlv6_0 ?_
      refine aw_n aj_d223 rfl rfl ?_
      refine aw_k hU.1 aj_d223 rfl rfl [_] rfl rfl rfl (Nat.le_of_ble_eq_true rfl) (ar_isSign hU (by omega) (b := (44 : Int)) rfl) ?_
      have b13 : 0 ≤ (S5.1 26).toInt ∧ (S5.1 26).toInt ≤ 5 := aw_bd_f hs (hI9).1 (by decide) rfl
      rintro _ S12 ⟨eS12, b11, rfl, kb11⟩
      rw [eS12]
      rcases kb11 with ⟨hb11, pb11, qb11⟩ | ⟨hb11, pb11⟩
      · skip
        have pb11 : ((S5.1 26)).toInt = 3 := pb11
        have qb11 : ((S5.1 29)).toInt = (44 : Int) := qb11
        show aw_W _ _ _ _ 6 lv6 [.int b11] _ _
        refine aw_z (tgt := 143) aj_d223 rfl rfl (fun q14 => ?_) (fun q14 => ?_)
        · have q14 : (1 : Int) = (0 : Int) := aw_t_eq (a := (1 : Int)) (b := (0 : Int)) hb11 rfl q14
          exfalso
          omega
        · have q14 : (1 : Int) ≠ (0 : Int) := aw_t_eq (a := (1 : Int)) (b := (0 : Int)) hb11 rfl q14
          have i44 : aw_is (aw_tT S) (aw_tJ S5) 3 44 := by
            have tk := hI7.2.1.2.1
            rw [eT0] at tk
            exact ⟨tk.1.symm.trans (by omega), tk.2.2.2.symm.trans (by omega)⟩
          refine aw_l2 aj_d223 rfl rfl hlv6_0 ?_
          refine aw_k hU.1 aj_d223 rfl rfl [] rfl rfl rfl (Nat.le_of_ble_eq_true rfl) (ar_pass hU (hI9).1 hI7.2 (by omega) (show ((S5.1 26)).toInt ≠ 0 by omega) (show ¬ (((S5.1 26)).toInt = 3 ∧ ((S5.1 29)).toInt = 63) by omega) (show ((S5.1 26)).toInt = 4 → ((S5.1 29)).toInt = 3 ∨ 6 ≤ ((S5.1 29)).toInt by omega)) ?_
          rintro _ S15 ⟨hT15, fc15, ⟨b15, rfl, hb15, hG15, fd15, hz15⟩ | ⟨b15, rfl, hb15, hG15, ck15, fd15, cj15⟩⟩
          · skip
            have fr16 := aw_fr_tr fr8 (aw_fr_sub (F := [24, 25, 31]) (A := []) (by decide) (by decide) fd15)
            have hI17 : aw_I s h (aw_sm S15) S15 := ⟨hT15, aw_sm_rf⟩
            show aw_W _ _ _ _ 13 lv6 [.int b15] _ _
            refine aw_z (tgt := 18) aj_d223 rfl rfl (fun q18 => ?_) (fun q18 => ?_)
            · have q18 : (0 : Int) ≠ (0 : Int) := aw_t_ne (a := (0 : Int)) (b := (0 : Int)) hb15 rfl q18
              exfalso
              omega
            · have q18 : (0 : Int) = (0 : Int) := aw_t_ne (a := (0 : Int)) (b := (0 : Int)) hb15 rfl q18
              refine aw_n aj_d223 rfl rfl ?_
              refine aw_e aj_d223 rfl rfl ?_
              have c19 : (S15.1 30).toInt = (S5.1 30).toInt := (congrArg Int32.toInt (fd15.1 30 (by decide)).1).trans rfl
              have b20 : 0 ≤ (S15.1 30).toInt ∧ (S15.1 30).toInt ≤ 1001 := aw_bd_f hs (hI17).1 (by decide) rfl
              exact ⟨(hI17).1, fr16, Or.inl ⟨_, rfl, rfl, hG15, (show _ ≤ ((S15.1 30)).toInt by omega)⟩⟩
          · skip
            have cj15 : (S15.1 30).toInt = ((S5.1 30)).toInt + 1 := cj15
            have fr21 := aw_fr_tr fr8 (aw_fr_sub (F := [26, 27, 28, 29, 30]) (A := []) (by decide) (by decide) fd15)
            have hI22 : aw_I s h (aw_sm S15) S15 := ⟨hT15, aw_sm_rf⟩
            show aw_W _ _ _ _ 13 lv6 [.int b15] _ _
            refine aw_z (tgt := 18) aj_d223 rfl rfl (fun q23 => ?_) (fun q23 => ?_)
            · have q23 : (1 : Int) ≠ (0 : Int) := aw_t_ne (a := (1 : Int)) (b := (0 : Int)) hb15 rfl q23
              refine aw_l2 aj_d223 rfl rfl hlv6_0 ?_
              refine aw_g hU.1 aj_d223 rfl rfl (by decide) (v := .ref 120) rfl ?_
              refine aw_l0 aj_d223 rfl rfl hlv6_1 ?_
              refine aw_ld (k := 3) hU.1 aj_d223 (Or.inl ⟨rfl, rfl⟩) rfl (by decide) (by decide) rfl (a := x.toInt) rfl (by omega) (by omega) (fun x24 ex24 => ?_)
              have bx24 : 0 ≤ x24.toInt ∧ x24.toInt ≤ 64 := by
                rw [ex24]
                exact aw_bd_a hs (hI22).1 (k := 3) (by decide) (by decide) rfl (by decide) rfl (by omega)
              have ftx24 : x24.toInt = (S5.2.2.1 3 (x.toInt).toNat).toInt := congrArg Int32.toInt (ex24.trans (congrFun ((fd15.2 3 (by decide)).1.trans rfl) _))
              have yax24 : x24.toInt = (S5.2.2.1 3 (x.toInt).toNat).toInt := (congrArg Int32.toInt ex24).trans (by rw [show (S15.2.2.1 3) = S5.2.2.1 3 from ((fd15.2 3 (by decide)).1.trans rfl)])
              refine aw_n aj_d223 rfl rfl ?_
              refine aw_c (tgt := 56) aj_d223 rfl rfl (fun q25 => ?_) (fun q25 => ?_)
              · have q25 : x24.toInt ≠ (16 : Int) := aw_t_ne (a := x24.toInt) (b := (16 : Int)) rfl rfl q25
                refine aw_l2 aj_d223 rfl rfl hlv6_0 ?_
                have b26 : 0 ≤ (S15.1 26).toInt ∧ (S15.1 26).toInt ≤ 5 := aw_bd_f hs (hI22).1 (by decide) rfl
                by_cases hk27 : ((S15.1 26)).toInt ≠ 2 ∧ ¬ (((S15.1 26)).toInt = 3 ∧ ((S15.1 29)).toInt = 45)
                · skip
                  have b29 : 0 ≤ (S15.1 30).toInt ∧ (S15.1 30).toInt ≤ 1001 := aw_bd_f hs (hI22).1 (by decide) rfl
                  refine aw_k hU.1 aj_d223 rfl rfl [] rfl rfl rfl (Nat.le_of_ble_eq_true rfl) (ar_whole0 hU (hI22).1 hG15 (by omega) hk27) ?_
                  rintro _ S28 ⟨hT28, fc28, ⟨b28, rfl, hb28, hG28, ck28⟩ | ⟨b28, rfl, hb28, hG28, ck28, wf28⟩⟩
                  rotate_left
                  · exact wf28.elim
                  have ck28 : ((S15.1 30)).toInt ≤ (S28.1 30).toInt := ck28
                  have fr30 := aw_fr_tr fr21 (aw_fr_sub (F := [24, 25, 26, 27, 28, 29, 30, 31, 35, 36]) (A := []) (by decide) (by decide) fc28)
                  have hI31 : aw_I s h (aw_sm S28) S28 := ⟨hT28, aw_sm_rf⟩
                  show aw_W _ _ _ _ 60 lv6 [.int b28] _ _
                  refine aw_z (tgt := 65) aj_d223 rfl rfl (fun q32 => ?_) (fun q32 => ?_)
                  · have q32 : (0 : Int) ≠ (0 : Int) := aw_t_ne (a := (0 : Int)) (b := (0 : Int)) hb28 rfl q32
                    exfalso
                    omega
                  · have q32 : (0 : Int) = (0 : Int) := aw_t_ne (a := (0 : Int)) (b := (0 : Int)) hb28 rfl q32
                    refine aw_n aj_d223 rfl rfl ?_
                    refine aw_e aj_d223 rfl rfl ?_
                    have b33 : 0 ≤ (S28.1 30).toInt ∧ (S28.1 30).toInt ≤ 1001 := aw_bd_f hs (hI31).1 (by decide) rfl
                    exact ⟨(hI31).1, fr30, Or.inl ⟨_, rfl, rfl, hG28, (show _ ≤ ((S28.1 30)).toInt by omega)⟩⟩
                · skip
                  have isnum : ((S15.1 26)).toInt = 2 ∨ (((S15.1 26)).toInt = 3 ∧ ((S15.1 29)).toInt = 45) := by omega
                  have b35 : 0 ≤ (S15.1 30).toInt ∧ (S15.1 30).toInt ≤ 1001 := aw_bd_f hs (hI22).1 (by decide) rfl
                  refine aw_k hU.1 aj_d223 rfl rfl [] rfl rfl rfl (Nat.le_of_ble_eq_true rfl) (ar_whole hU (hI22).1 hG15 (by omega)) ?_
                  rintro _ S34 ⟨hT34, fc34, ⟨b34, rfl, hb34, hG34, ck34⟩ | ⟨b34, rfl, hb34, hG34, ck34, wj34, wn34⟩⟩
                  · skip
                    have ck34 : ((S15.1 30)).toInt ≤ (S34.1 30).toInt := ck34
                    have fr36 := aw_fr_tr fr21 (aw_fr_sub (F := [24, 25, 26, 27, 28, 29, 30, 31, 35, 36]) (A := []) (by decide) (by decide) fc34)
                    have hI37 : aw_I s h (aw_sm S34) S34 := ⟨hT34, aw_sm_rf⟩
                    show aw_W _ _ _ _ 60 lv6 [.int b34] _ _
                    refine aw_z (tgt := 65) aj_d223 rfl rfl (fun q38 => ?_) (fun q38 => ?_)
                    · have q38 : (0 : Int) ≠ (0 : Int) := aw_t_ne (a := (0 : Int)) (b := (0 : Int)) hb34 rfl q38
                      exfalso
                      omega
                    · have q38 : (0 : Int) = (0 : Int) := aw_t_ne (a := (0 : Int)) (b := (0 : Int)) hb34 rfl q38
                      refine aw_n aj_d223 rfl rfl ?_
                      refine aw_e aj_d223 rfl rfl ?_
                      have b39 : 0 ≤ (S34.1 30).toInt ∧ (S34.1 30).toInt ≤ 1001 := aw_bd_f hs (hI37).1 (by decide) rfl
                      exact ⟨(hI37).1, fr36, Or.inl ⟨_, rfl, rfl, hG34, (show _ ≤ ((S34.1 30)).toInt by omega)⟩⟩
                  · skip
                    have ck34 : ((S15.1 30)).toInt + 1 ≤ (S34.1 30).toInt := ck34
                    have fr40 := aw_fr_tr fr21 (aw_fr_sub (F := [24, 25, 26, 27, 28, 29, 30, 31, 35, 36]) (A := []) (by decide) (by decide) fc34)
                    have hI41 : aw_I s h (aw_sm S34) S34 := ⟨hT34, aw_sm_rf⟩
                    show aw_W _ _ _ _ 60 lv6 [.int b34] _ _
                    refine aw_z (tgt := 65) aj_d223 rfl rfl (fun q42 => ?_) (fun q42 => ?_)
                    · have q42 : (1 : Int) ≠ (0 : Int) := aw_t_ne (a := (1 : Int)) (b := (0 : Int)) hb34 rfl q42
                      have n16 : (S5.2.2.1 3 (x.toInt).toNat).toInt ≤ 15 := by omega
                      have eTw : aw_tT S15 = aw_tT S := aw_fr_tT fr21 (by decide) (by decide)
                      have eJw : aw_tJ S15 = aw_tJ S5 + 1 := by
                        have j1 := hG.1.1
                        unfold aw_tJ at j1 ⊢
                        omega
                      rw [eTw, eJw] at wj34
                      refine aw_n aj_d223 rfl rfl ?_
                      refine aw_t0 (j := 2) aj_d223 rfl (by decide) rfl ?_
                      obtain ⟨lv43, elv43⟩ : ∃ l, l = aj_set1 lv6 2 (.int (Int32.ofInt 0)) := ⟨_, rfl⟩
                      rw [← elv43]
                      have hlv43_0 : aj_lv lv43 0 = some (.ref 117) := cw_e1 elv43 hlv6_0 (by decide) (Or.inl (by decide))
                      have hlv43_1 : aj_lv lv43 1 = some (.int x) := cw_e1 elv43 hlv6_1 (by decide) (Or.inr rfl)
                      have hlv43_2 : aj_lv lv43 2 = some (.int (Int32.ofInt 0)) := by rw [elv43]; exact ak_set1_eq _ _ _
                      show aw_W _ _ _ _ 67 lv43 [] _ _
                      have L67_43 : ∀ (N : Nat) (S45 : aj_S) (lv46 : aj_V) (x47 : Int32), (aj_lv lv46 0 = some (.ref 117)) → (aj_lv lv46 1 = some (.int x)) → (aj_lv lv46 2 = some (.int x47)) → (aw_I s h (aw_G (nm, false, la, ho, hu, ht)) S45) → (aw_fr [24, 25, 26, 27, 28, 29, 30, 31, 35, 36] [3, 4] S S45) → (aw_fr [24, 25] [] S34 S45) → (0 ≤ x47.toInt ∧ x47.toInt ≤ 64) → (64 - x47.toInt).toNat < N → aw_W tb h d aj_m223 67 lv46 [] S45 ((ar_QB s h [24, 25, 26, 27, 28, 29, 30, 31, 35, 36] [3, 4] S (fun S' => aw_G (nm, false, la, ho, hu, ht) S' ∧ (S.1 30).toInt ≤ (S'.1 30).toInt) (fun S' => aw_G (nm, false, la, ho, hu, ht) S' ∧ (S.1 30).toInt + 0 ≤ (S'.1 30).toInt ∧ (S'.2.2.1 3 (x.toInt).toNat).toInt = 1 + (aw_lc (aw_tT S) 1001 (aw_tJ S) : Nat) ∧ ∀ j, j ≠ (x.toInt).toNat → S'.2.2.1 3 j = S.2.2.1 3 j))) := by
                        intro N
                        induction N with
                        | zero =>
                          intro S45 lv46 x47 hlv46_0 hlv46_1 hlv46_2 hI48 fr49 fl50 bx47 hm
                          omega
                        | succ N ihL67_43 =>
                          intro S45 lv46 x47 hlv46_0 hlv46_1 hlv46_2 hI48 fr49 fl50 bx47 hm
                          have hI51 : aw_I s h (aw_sm S45) S45 := ⟨hI48.1, aw_sm_rf⟩
                          have b52 : 0 ≤ (S34.1 30).toInt ∧ (S34.1 30).toInt ≤ 1001 := aw_bd_f hs (hI41).1 (by decide) rfl
                          have c53 : (S45.1 30).toInt = (S34.1 30).toInt := (congrArg Int32.toInt (fl50.1 30 (by decide)).1).trans rfl
                          have b54 : 0 ≤ (S45.1 30).toInt ∧ (S45.1 30).toInt ≤ 1001 := aw_bd_f hs (hI51).1 (by decide) rfl
                          refine aw_l0 aj_d223 rfl rfl hlv46_2 ?_
                          refine aw_l2 aj_d223 rfl rfl hlv46_0 ?_
                          refine aw_g hU.1 aj_d223 rfl rfl (by decide) (v := .ref 120) rfl ?_
                          refine aw_l0 aj_d223 rfl rfl hlv46_1 ?_
                          refine aw_ld (k := 3) hU.1 aj_d223 (Or.inl ⟨rfl, rfl⟩) rfl (by decide) (by decide) rfl (a := x.toInt) rfl (by omega) (by omega) (fun x55 ex55 => ?_)
                          have bx55 : 0 ≤ x55.toInt ∧ x55.toInt ≤ 64 := by
                            rw [ex55]
                            exact aw_bd_a hs (hI51).1 (k := 3) (by decide) (by decide) rfl (by decide) rfl (by omega)
                          have ftx55 : x55.toInt = (S5.2.2.1 3 (x.toInt).toNat).toInt := congrArg Int32.toInt (ex55.trans (congrFun ((fl50.2 3 (by decide)).1.trans ((fc34.2 3 (by decide)).1.trans ((fd15.2 3 (by decide)).1.trans rfl))) _))
                          have ybx55 : x55.toInt = (S5.2.2.1 3 (x.toInt).toNat).toInt := (congrArg Int32.toInt ex55).trans (by rw [show (S45.2.2.1 3) = S5.2.2.1 3 from ((fl50.2 3 (by decide)).1.trans ((fc34.2 3 (by decide)).1.trans ((fd15.2 3 (by decide)).1.trans rfl)))])
                          refine aw_c (tgt := 110) aj_d223 rfl rfl (fun q56 => ?_) (fun q56 => ?_)
                          · have q56 : x47.toInt ≥ x55.toInt := aw_t_ge (a := x47.toInt) (b := x55.toInt) rfl rfl q56
                            refine aw_l2 aj_d223 rfl rfl hlv46_0 ?_
                            refine aw_g hU.1 aj_d223 rfl rfl (by decide) (v := .ref 121) rfl ?_
                            refine aw_l0 aj_d223 rfl rfl hlv46_1 ?_
                            refine aw_n aj_d223 rfl rfl ?_
                            refine aw_mul aj_d223 rfl (a := x.toInt) (b := (64 : Int)) rfl rfl (by omega) (by omega) (fun x57 ex57 => ?_)
                            refine aw_l2 aj_d223 rfl rfl hlv46_0 ?_
                            refine aw_g hU.1 aj_d223 rfl rfl (by decide) (v := .ref 120) rfl ?_
                            refine aw_l0 aj_d223 rfl rfl hlv46_1 ?_
                            refine aw_ld (k := 3) hU.1 aj_d223 (Or.inl ⟨rfl, rfl⟩) rfl (by decide) (by decide) rfl (a := x.toInt) rfl (by omega) (by omega) (fun x58 ex58 => ?_)
                            have bx58 : 0 ≤ x58.toInt ∧ x58.toInt ≤ 64 := by
                              rw [ex58]
                              exact aw_bd_a hs (hI51).1 (k := 3) (by decide) (by decide) rfl (by decide) rfl (by omega)
                            have ftx58 : x58.toInt = (S5.2.2.1 3 (x.toInt).toNat).toInt := congrArg Int32.toInt (ex58.trans (congrFun ((fl50.2 3 (by decide)).1.trans ((fc34.2 3 (by decide)).1.trans ((fd15.2 3 (by decide)).1.trans rfl))) _))
                            have ycx58 : x58.toInt = (S5.2.2.1 3 (x.toInt).toNat).toInt := (congrArg Int32.toInt ex58).trans (by rw [show (S45.2.2.1 3) = S5.2.2.1 3 from ((fl50.2 3 (by decide)).1.trans ((fc34.2 3 (by decide)).1.trans ((fd15.2 3 (by decide)).1.trans rfl)))])
                            refine aw_add aj_d223 rfl (a := x57.toInt) (b := x58.toInt) rfl rfl (by omega) (by omega) (fun x59 ex59 => ?_)
                            refine aw_l2 aj_d223 rfl rfl hlv46_0 ?_
                            have b60 : (-9999) ≤ (S34.1 35).toInt ∧ (S34.1 35).toInt ≤ 9999 := aw_bd_f hs (hI41).1 (by decide) rfl
                            have c61 : (S45.1 35).toInt = (S34.1 35).toInt := (congrArg Int32.toInt (fl50.1 35 (by decide)).1).trans rfl
                            have b62 : (-9999) ≤ (S45.1 35).toInt ∧ (S45.1 35).toInt ≤ 9999 := aw_bd_f hs (hI51).1 (by decide) rfl
                            refine aw_g hU.1 aj_d223 rfl rfl (by decide) (v := .int (S45.1 35)) rfl ?_
                            refine aw_st (k := 4) hU.1 aj_d223 (Or.inl ⟨rfl, rfl⟩) rfl (by decide) (by decide) rfl (a := x59.toInt) rfl (by omega) (by omega) ?_
                            have hI63 := aw_I_a (aw_UV hU aw_Gs_sm) (k := 4) (j := (x59.toInt).toNat) (v := aj_nar 0 (S45.1 35)) hI51 (by decide) (by decide) (by decide) rfl (by decide) (by decide) rfl (aw_full _)
                            have fr64 := aw_fr_a (k := 4) (j := (x59.toInt).toNat) (v := aj_nar 0 (S45.1 35)) (by decide) fr49
                            refine aw_l2 aj_d223 rfl rfl hlv46_0 ?_
                            refine aw_g hU.1 aj_d223 rfl rfl (by decide) (v := .ref 120) rfl ?_
                            refine aw_l0 aj_d223 rfl rfl hlv46_1 ?_
                            refine aw_n aj_d223 rfl rfl ?_
                            refine aw_ld (k := 3) hU.1 aj_d223 (Or.inl ⟨rfl, rfl⟩) rfl (by decide) (by decide) rfl (a := x.toInt) rfl (by omega) (by omega) (fun x65 ex65 => ?_)
                            have bx65 : 0 ≤ x65.toInt ∧ x65.toInt ≤ 64 := by
                              rw [ex65]
                              exact aw_bd_a hs (hI63).1 (k := 3) (by decide) (by decide) rfl (by decide) rfl (by omega)
                            have ftx65 : x65.toInt = (S5.2.2.1 3 (x.toInt).toNat).toInt := congrArg Int32.toInt (ex65.trans (congrFun ((fl50.2 3 (by decide)).1.trans ((fc34.2 3 (by decide)).1.trans ((fd15.2 3 (by decide)).1.trans rfl))) _))
                            have ydx65 : x65.toInt = (S5.2.2.1 3 (x.toInt).toNat).toInt := (congrArg Int32.toInt ex65).trans (by rw [show ((aw_wa S45 4 (x59.toInt).toNat (aj_nar 0 (S45.1 35))).2.2.1 3) = S5.2.2.1 3 from ((fl50.2 3 (by decide)).1.trans ((fc34.2 3 (by decide)).1.trans ((fd15.2 3 (by decide)).1.trans rfl)))])
                            refine aw_n aj_d223 rfl rfl ?_
                            refine aw_add aj_d223 rfl (a := x65.toInt) (b := (1 : Int)) rfl rfl (by omega) (by omega) (fun x66 ex66 => ?_)
                            have b67 : 0 ≤ (S.1 37).toInt ∧ (S.1 37).toInt ≤ 1 := aw_bd_f hs (hI2).1 (by decide) rfl
                            have c68 : (S5.1 37).toInt = (S.1 37).toInt := (congrArg Int32.toInt (fr8.1 37 (by decide)).1).trans rfl
                            have b69 : 0 ≤ (S5.1 37).toInt ∧ (S5.1 37).toInt ≤ 1 := aw_bd_f hs (hI9).1 (by decide) rfl
                            have c70 : (S15.1 37).toInt = (S.1 37).toInt := (congrArg Int32.toInt (fd15.1 37 (by decide)).1).trans c68
                            have b71 : 0 ≤ (S15.1 37).toInt ∧ (S15.1 37).toInt ≤ 1 := aw_bd_f hs (hI22).1 (by decide) rfl
                            have c72 : (S34.1 37).toInt = (S.1 37).toInt := (congrArg Int32.toInt (fc34.1 37 (by decide)).1).trans c70
                            have b73 : 0 ≤ (S34.1 37).toInt ∧ (S34.1 37).toInt ≤ 1 := aw_bd_f hs (hI41).1 (by decide) rfl
                            have c74 : (S45.1 37).toInt = (S.1 37).toInt := (congrArg Int32.toInt (fl50.1 37 (by decide)).1).trans c72
                            have b75 : 0 ≤ (S45.1 37).toInt ∧ (S45.1 37).toInt ≤ 1 := aw_bd_f hs (hI51).1 (by decide) rfl
                            refine aw_st (k := 3) hU.1 aj_d223 (Or.inl ⟨rfl, rfl⟩) rfl (by decide) (by decide) rfl (a := x.toInt) rfl (by omega) (by omega) ?_
                            have hI76 : aw_I s h (aw_sm (aw_wa (aw_wa S45 4 (x59.toInt).toNat (aj_nar 0 (S45.1 35))) 3 (x.toInt).toNat (aj_nar 0 x66))) (aw_wa (aw_wa S45 4 (x59.toInt).toNat (aj_nar 0 (S45.1 35))) 3 (x.toInt).toNat (aj_nar 0 x66)) := ⟨aw_T_a hU.2.1 hs hU.1.1 (hI63).1 (by decide) (by decide) rfl (by decide) (by decide) rfl (aw_bp (a := x66.toInt) rfl (by omega) (by omega)), aw_sm_rf⟩
                            have fr77 := aw_fr_a (k := 3) (j := (x.toInt).toNat) (v := aj_nar 0 x66) (by decide) fr64
                            have hG78 : aw_G (nm, false, la, ho, hu, ht) (aw_wa (aw_wa S45 4 (x59.toInt).toNat (aj_nar 0 (S45.1 35))) 3 (x.toInt).toNat (aj_nar 0 x66)) := aw_G_t3 (aw_G_sm hI63.2 hI48.2) (by
                              have e1 : aw_h (aw_wa S45 4 (x59.toInt).toNat (aj_nar 0 (S45.1 35))) = aw_h S := by
                                unfold aw_h
                                rw [show ((aw_wa S45 4 (x59.toInt).toNat (aj_nar 0 (S45.1 35))).1 37).toInt = (S.1 37).toInt from c74]
                              rw [e1, show ((aw_wa S45 4 (x59.toInt).toNat (aj_nar 0 (S45.1 35))).2.2.1 1) = S.2.2.1 1 from ((fl50.2 1 (by decide)).1.trans ((fc34.2 1 (by decide)).1.trans ((fd15.2 1 (by decide)).1.trans ((fr8.2 1 (by decide)).1.trans rfl))))]
                              omega)
                            have m9 : ((aw_wa (aw_wa S45 4 (x59.toInt).toNat (aj_nar 0 (S45.1 35))) 3 (x.toInt).toNat (aj_nar 0 x66)).2.2.1 3 (x.toInt).toNat).toInt = (S5.2.2.1 3 (x.toInt).toNat).toInt + 1 := by
                              show (upd ((aw_wa S45 4 (x59.toInt).toNat (aj_nar 0 (S45.1 35))).2.2.1 3) (x.toInt).toNat (aj_nar 0 x66) (x.toInt).toNat).toInt = _
                              unfold upd
                              rw [if_pos (by omega)]
                              show (x66).toInt = _
                              omega
                            have o9 : ∀ j, j ≠ (x.toInt).toNat → (aw_wa (aw_wa S45 4 (x59.toInt).toNat (aj_nar 0 (S45.1 35))) 3 (x.toInt).toNat (aj_nar 0 x66)).2.2.1 3 j = S.2.2.1 3 j := fun j hj => by
                              show (upd ((aw_wa S45 4 (x59.toInt).toNat (aj_nar 0 (S45.1 35))).2.2.1 3) (x.toInt).toNat (aj_nar 0 x66) j) = _
                              unfold upd
                              rw [if_neg (by omega), show ((aw_wa S45 4 (x59.toInt).toNat (aj_nar 0 (S45.1 35))).2.2.1 3) = S5.2.2.1 3 from ((fl50.2 3 (by decide)).1.trans ((fc34.2 3 (by decide)).1.trans ((fd15.2 3 (by decide)).1.trans rfl)))]
                              exact o0 j hj
                            have lc9 : (S5.2.2.1 3 (x.toInt).toNat).toInt + 1 + ((aw_lc (aw_tT S) (1002 - ((S5.2.2.1 3 (x.toInt).toNat).toInt + 1).toNat) (aw_tJ (aw_wa (aw_wa S45 4 (x59.toInt).toNat (aj_nar 0 (S45.1 35))) 3 (x.toInt).toNat (aj_nar 0 x66))) : Nat) : Int) = (S5.2.2.1 3 (x.toInt).toNat).toInt + (aw_lc (aw_tT S) (1002 - ((S5.2.2.1 3 (x.toInt).toNat).toInt).toNat) (aw_tJ S5) : Nat) := by
                              rw [aw_lc_1 (k' := 1002 - ((S5.2.2.1 3 (x.toInt).toNat).toInt + 1).toNat) (q' := aw_tJ (aw_wa (aw_wa S45 4 (x59.toInt).toNat (aj_nar 0 (S45.1 35))) 3 (x.toInt).toNat (aj_nar 0 x66))) i44 (by omega) (by
                                have j1 := hG.1.1
                                unfold aw_tJ at j1 wj34 ⊢
                                show (((S45.1 30)).toInt).toNat = _
                                omega)]
                              omega
                            have hI79 : aw_I s h (aw_sm (aw_wa (aw_wa S45 4 (x59.toInt).toNat (aj_nar 0 (S45.1 35))) 3 (x.toInt).toNat (aj_nar 0 x66))) (aw_wa (aw_wa S45 4 (x59.toInt).toNat (aj_nar 0 (S45.1 35))) 3 (x.toInt).toNat (aj_nar 0 x66)) := ⟨(hI76).1, aw_sm_rf⟩
                            refine aw_n aj_d223 rfl rfl ?_
                            exact ihL0_3 (aw_wa (aw_wa S45 4 (x59.toInt).toNat (aj_nar 0 (S45.1 35))) 3 (x.toInt).toNat (aj_nar 0 x66)) lv46 hlv46_0 hlv46_1 ⟨(hI79).1, hG78⟩ fr77 (show _ ≤ ((S45.1 30)).toInt by omega) (by rw [m9]; omega) (by rw [m9, lc9]; exact lc0) o9 (show (1001 - ((S45.1 30)).toInt).toNat < _ by omega)
                          · have q56 : x47.toInt < x55.toInt := aw_t_ge (a := x47.toInt) (b := x55.toInt) rfl rfl q56
                            refine aw_l2 aj_d223 rfl rfl hlv46_0 ?_
                            refine aw_g hU.1 aj_d223 rfl rfl (by decide) (v := .ref 121) rfl ?_
                            refine aw_l0 aj_d223 rfl rfl hlv46_1 ?_
                            refine aw_n aj_d223 rfl rfl ?_
                            refine aw_mul aj_d223 rfl (a := x.toInt) (b := (64 : Int)) rfl rfl (by omega) (by omega) (fun x80 ex80 => ?_)
                            refine aw_l0 aj_d223 rfl rfl hlv46_2 ?_
                            refine aw_add aj_d223 rfl (a := x80.toInt) (b := x47.toInt) rfl rfl (by omega) (by omega) (fun x81 ex81 => ?_)
                            refine aw_ld (k := 4) hU.1 aj_d223 (Or.inl ⟨rfl, rfl⟩) rfl (by decide) (by decide) rfl (a := x81.toInt) rfl (by omega) (by omega) (fun x82 ex82 => ?_)
                            refine aw_l2 aj_d223 rfl rfl hlv46_0 ?_
                            have b83 : (-9999) ≤ (S34.1 35).toInt ∧ (S34.1 35).toInt ≤ 9999 := aw_bd_f hs (hI41).1 (by decide) rfl
                            have c84 : (S45.1 35).toInt = (S34.1 35).toInt := (congrArg Int32.toInt (fl50.1 35 (by decide)).1).trans rfl
                            have b85 : (-9999) ≤ (S45.1 35).toInt ∧ (S45.1 35).toInt ≤ 9999 := aw_bd_f hs (hI51).1 (by decide) rfl
                            refine aw_g hU.1 aj_d223 rfl rfl (by decide) (v := .int (S45.1 35)) rfl ?_
                            refine aw_c (tgt := 104) aj_d223 rfl rfl (fun q86 => ?_) (fun q86 => ?_)
                            · have q86 : x82.toInt ≠ (S34.1 35).toInt := aw_t_ne (a := x82.toInt) (b := (S34.1 35).toInt) rfl c84 q86
                              refine aw_inc aj_d223 rfl hlv46_2 (a := x47.toInt) rfl (by omega) (by omega) (by decide) (by decide) (fun x87 ex87 => ?_)
                              obtain ⟨lv88, elv88⟩ : ∃ l, l = aj_set1 lv46 2 (.int x87) := ⟨_, rfl⟩
                              rw [← elv88]
                              have hlv88_0 : aj_lv lv88 0 = some (.ref 117) := cw_e1 elv88 hlv46_0 (by decide) (Or.inl (by decide))
                              have hlv88_1 : aj_lv lv88 1 = some (.int x) := cw_e1 elv88 hlv46_1 (by decide) (Or.inr rfl)
                              have hlv88_2 : aj_lv lv88 2 = some (.int x87) := by rw [elv88]; exact ak_set1_eq _ _ _
                              show aw_W _ _ _ _ 107 lv88 [] _ _
                              refine aw_n aj_d223 rfl rfl ?_
                              exact ihL67_43 S45 lv88 (x87) hlv88_0 hlv88_1 hlv88_2 ⟨(hI51).1, hI48.2⟩ fr49 fl50 (by omega) (by omega)
                            · have q86 : x82.toInt = (S34.1 35).toInt := aw_t_ne (a := x82.toInt) (b := (S34.1 35).toInt) rfl c84 q86
                              refine aw_l2 aj_d223 rfl rfl hlv46_0 ?_
                              refine aw_n aj_d223 rfl rfl ?_
                              refine aw_l2 aj_d223 rfl rfl hlv46_0 ?_
                              have c89 : (S45.1 36).toInt = (S34.1 36).toInt := (congrArg Int32.toInt (fl50.1 36 (by decide)).1).trans rfl
                              refine aw_g hU.1 aj_d223 rfl rfl (by decide) (v := .int (S45.1 36)) rfl ?_
                              refine aw_k hU.1 aj_d223 rfl rfl [_, _] rfl rfl rfl (Nat.le_of_ble_eq_true rfl) (ar_tell hU (hI51).1 (by omega) (a := (5 : Int)) rfl (by omega)) ?_
                              rintro _ S90 ⟨hT90, fc90, rfl, hz90, hw90⟩
                              have hG90 := aw_G_tell hI48.2 fc90 hz90
                              have b91 : 0 ≤ (S.1 32).toInt ∧ (S.1 32).toInt ≤ 1 := aw_bd_f hs (hI2).1 (by decide) rfl
                              have c92 : (S5.1 32).toInt = (S.1 32).toInt := (congrArg Int32.toInt (fr8.1 32 (by decide)).1).trans rfl
                              have b93 : 0 ≤ (S5.1 32).toInt ∧ (S5.1 32).toInt ≤ 1 := aw_bd_f hs (hI9).1 (by decide) rfl
                              have c94 : (S15.1 32).toInt = (S.1 32).toInt := (congrArg Int32.toInt (fd15.1 32 (by decide)).1).trans c92
                              have b95 : 0 ≤ (S15.1 32).toInt ∧ (S15.1 32).toInt ≤ 1 := aw_bd_f hs (hI22).1 (by decide) rfl
                              have c96 : (S34.1 32).toInt = (S.1 32).toInt := (congrArg Int32.toInt (fc34.1 32 (by decide)).1).trans c94
                              have b97 : 0 ≤ (S34.1 32).toInt ∧ (S34.1 32).toInt ≤ 1 := aw_bd_f hs (hI41).1 (by decide) rfl
                              have c98 : (S45.1 32).toInt = (S.1 32).toInt := (congrArg Int32.toInt (fl50.1 32 (by decide)).1).trans c96
                              have b99 : 0 ≤ (S45.1 32).toInt ∧ (S45.1 32).toInt ≤ 1 := aw_bd_f hs (hI51).1 (by decide) rfl
                              have hz90 : ((S45.1 32)).toInt = 0 → (S90.1 24).toInt ≠ 0 := hz90
                              have fr100 := aw_fr_tr fr49 (aw_fr_sub (F := [24, 25]) (A := []) (by decide) (by decide) fc90)
                              have fl101 := aw_fr_tr fl50 (aw_fr_sub (F := [24, 25]) (A := []) (by decide) (by decide) fc90)
                              have hI102 : aw_I s h (aw_sm S90) S90 := ⟨hT90, aw_sm_rf⟩
                              show aw_W _ _ _ _ 104 lv46 [] _ _
                              refine aw_inc aj_d223 rfl hlv46_2 (a := x47.toInt) rfl (by omega) (by omega) (by decide) (by decide) (fun x103 ex103 => ?_)
                              obtain ⟨lv104, elv104⟩ : ∃ l, l = aj_set1 lv46 2 (.int x103) := ⟨_, rfl⟩
                              rw [← elv104]
                              have hlv104_0 : aj_lv lv104 0 = some (.ref 117) := cw_e1 elv104 hlv46_0 (by decide) (Or.inl (by decide))
                              have hlv104_1 : aj_lv lv104 1 = some (.int x) := cw_e1 elv104 hlv46_1 (by decide) (Or.inr rfl)
                              have hlv104_2 : aj_lv lv104 2 = some (.int x103) := by rw [elv104]; exact ak_set1_eq _ _ _
                              show aw_W _ _ _ _ 107 lv104 [] _ _
                              refine aw_n aj_d223 rfl rfl ?_
                              exact ihL67_43 S90 lv104 (x103) hlv104_0 hlv104_1 hlv104_2 ⟨(hI102).1, hG90⟩ fr100 fl101 (by omega) (by omega)
                      exact L67_43 _ S34 lv43 ((Int32.ofInt 0)) hlv43_0 hlv43_1 hlv43_2 ⟨(hI41).1, hG34⟩ fr40 (aw_fr_rf : aw_fr [24, 25] [] S34 S34) (by first | omega | decide) (Nat.lt_succ_self _)
                    · have q42 : (1 : Int) = (0 : Int) := aw_t_ne (a := (1 : Int)) (b := (0 : Int)) hb34 rfl q42
                      exfalso
                      omega
              · have q25 : x24.toInt = (16 : Int) := aw_t_ne (a := x24.toInt) (b := (16 : Int)) rfl rfl q25
                refine aw_l2 aj_d223 rfl rfl hlv6_0 ?_
                have b105 : 0 ≤ (S15.1 26).toInt ∧ (S15.1 26).toInt ≤ 5 := aw_bd_f hs (hI22).1 (by decide) rfl
                refine aw_g hU.1 aj_d223 rfl rfl (by decide) (v := .int (S15.1 26)) rfl ?_
                refine aw_n aj_d223 rfl rfl ?_
                refine aw_c (tgt := 46) aj_d223 rfl rfl (fun q106 => ?_) (fun q106 => ?_)
                · have q106 : (S15.1 26).toInt = (2 : Int) := aw_t_eq (a := (S15.1 26).toInt) (b := (2 : Int)) rfl rfl q106
                  refine aw_l2 aj_d223 rfl rfl hlv6_0 ?_
                  refine aw_n aj_d223 rfl rfl ?_
                  refine aw_l2 aj_d223 rfl rfl hlv6_0 ?_
                  have b107 : 0 ≤ (S15.1 27).toInt ∧ (S15.1 27).toInt ≤ 4000 := aw_bd_f hs (hI22).1 (by decide) rfl
                  refine aw_g hU.1 aj_d223 rfl rfl (by decide) (v := .int (S15.1 27)) rfl ?_
                  refine aw_k hU.1 aj_d223 rfl rfl [_, _] rfl rfl rfl (Nat.le_of_ble_eq_true rfl) (ar_stop hU (hI22).1 (by omega) (a := (2 : Int)) rfl) ?_
                  rintro _ S108 ⟨hT108, fc108, rfl, hz108⟩
                  have hG108 := aw_G_stop hG15 fc108 (by omega)
                  have fr109 := aw_fr_tr fr21 (aw_fr_sub (F := [24, 25, 31]) (A := []) (by decide) (by decide) fc108)
                  have hI110 : aw_I s h (aw_sm S108) S108 := ⟨hT108, aw_sm_rf⟩
                  show aw_W _ _ _ _ 55 lv6 [.int (Int32.ofInt 0)] _ _
                  refine aw_e aj_d223 rfl rfl ?_
                  have b111 : 0 ≤ (S15.1 30).toInt ∧ (S15.1 30).toInt ≤ 1001 := aw_bd_f hs (hI22).1 (by decide) rfl
                  have c112 : (S108.1 30).toInt = (S15.1 30).toInt := (congrArg Int32.toInt (fc108.1 30 (by decide)).1).trans rfl
                  have b113 : 0 ≤ (S108.1 30).toInt ∧ (S108.1 30).toInt ≤ 1001 := aw_bd_f hs (hI110).1 (by decide) rfl
                  exact ⟨(hI110).1, fr109, Or.inl ⟨_, rfl, rfl, hG108, (show _ ≤ ((S108.1 30)).toInt by omega)⟩⟩
                · have q106 : (S15.1 26).toInt ≠ (2 : Int) := aw_t_eq (a := (S15.1 26).toInt) (b := (2 : Int)) rfl rfl q106
                  refine aw_l2 aj_d223 rfl rfl hlv6_0 ?_
                  refine aw_n aj_d223 rfl rfl ?_
                  refine aw_k hU.1 aj_d223 rfl rfl [_] rfl rfl rfl (Nat.le_of_ble_eq_true rfl) (ar_isSign hU (by omega) (b := (45 : Int)) rfl) ?_
                  rintro _ S115 ⟨eS115, b114, rfl, kb114⟩
                  rw [eS115]
                  rcases kb114 with ⟨hb114, pb114, qb114⟩ | ⟨hb114, pb114⟩
                  · skip
                    have pb114 : ((S15.1 26)).toInt = 3 := pb114
                    have qb114 : ((S15.1 29)).toInt = (45 : Int) := qb114
                    show aw_W _ _ _ _ 43 lv6 [.int b114] _ _
                    refine aw_z (tgt := 56) aj_d223 rfl rfl (fun q116 => ?_) (fun q116 => ?_)
                    · have q116 : (1 : Int) = (0 : Int) := aw_t_eq (a := (1 : Int)) (b := (0 : Int)) hb114 rfl q116
                      exfalso
                      omega
                    · have q116 : (1 : Int) ≠ (0 : Int) := aw_t_eq (a := (1 : Int)) (b := (0 : Int)) hb114 rfl q116
                      refine aw_l2 aj_d223 rfl rfl hlv6_0 ?_
                      refine aw_n aj_d223 rfl rfl ?_
                      refine aw_l2 aj_d223 rfl rfl hlv6_0 ?_
                      have b117 : 0 ≤ (S15.1 27).toInt ∧ (S15.1 27).toInt ≤ 4000 := aw_bd_f hs (hI22).1 (by decide) rfl
                      refine aw_g hU.1 aj_d223 rfl rfl (by decide) (v := .int (S15.1 27)) rfl ?_
                      refine aw_k hU.1 aj_d223 rfl rfl [_, _] rfl rfl rfl (Nat.le_of_ble_eq_true rfl) (ar_stop hU (hI22).1 (by omega) (a := (2 : Int)) rfl) ?_
                      rintro _ S118 ⟨hT118, fc118, rfl, hz118⟩
                      have hG118 := aw_G_stop hG15 fc118 (by omega)
                      have fr119 := aw_fr_tr fr21 (aw_fr_sub (F := [24, 25, 31]) (A := []) (by decide) (by decide) fc118)
                      have hI120 : aw_I s h (aw_sm S118) S118 := ⟨hT118, aw_sm_rf⟩
                      show aw_W _ _ _ _ 55 lv6 [.int (Int32.ofInt 0)] _ _
                      refine aw_e aj_d223 rfl rfl ?_
                      have b121 : 0 ≤ (S15.1 30).toInt ∧ (S15.1 30).toInt ≤ 1001 := aw_bd_f hs (hI22).1 (by decide) rfl
                      have c122 : (S118.1 30).toInt = (S15.1 30).toInt := (congrArg Int32.toInt (fc118.1 30 (by decide)).1).trans rfl
                      have b123 : 0 ≤ (S118.1 30).toInt ∧ (S118.1 30).toInt ≤ 1001 := aw_bd_f hs (hI120).1 (by decide) rfl
                      exact ⟨(hI120).1, fr119, Or.inl ⟨_, rfl, rfl, hG118, (show _ ≤ ((S118.1 30)).toInt by omega)⟩⟩
                  · skip
                    have pb114 : ¬ (((S15.1 26)).toInt = 3 ∧ ((S15.1 29)).toInt = (45 : Int)) := pb114
                    show aw_W _ _ _ _ 43 lv6 [.int b114] _ _
                    refine aw_z (tgt := 56) aj_d223 rfl rfl (fun q124 => ?_) (fun q124 => ?_)
                    · have q124 : (0 : Int) = (0 : Int) := aw_t_eq (a := (0 : Int)) (b := (0 : Int)) hb114 rfl q124
                      refine aw_l2 aj_d223 rfl rfl hlv6_0 ?_
                      by_cases hk125 : ((S15.1 26)).toInt ≠ 2 ∧ ¬ (((S15.1 26)).toInt = 3 ∧ ((S15.1 29)).toInt = 45)
                      · skip
                        have b127 : 0 ≤ (S15.1 30).toInt ∧ (S15.1 30).toInt ≤ 1001 := aw_bd_f hs (hI22).1 (by decide) rfl
                        refine aw_k hU.1 aj_d223 rfl rfl [] rfl rfl rfl (Nat.le_of_ble_eq_true rfl) (ar_whole0 hU (hI22).1 hG15 (by omega) hk125) ?_
                        rintro _ S126 ⟨hT126, fc126, ⟨b126, rfl, hb126, hG126, ck126⟩ | ⟨b126, rfl, hb126, hG126, ck126, wf126⟩⟩
                        rotate_left
                        · exact wf126.elim
                        have ck126 : ((S15.1 30)).toInt ≤ (S126.1 30).toInt := ck126
                        have fr128 := aw_fr_tr fr21 (aw_fr_sub (F := [24, 25, 26, 27, 28, 29, 30, 31, 35, 36]) (A := []) (by decide) (by decide) fc126)
                        have hI129 : aw_I s h (aw_sm S126) S126 := ⟨hT126, aw_sm_rf⟩
                        show aw_W _ _ _ _ 60 lv6 [.int b126] _ _
                        refine aw_z (tgt := 65) aj_d223 rfl rfl (fun q130 => ?_) (fun q130 => ?_)
                        · have q130 : (0 : Int) ≠ (0 : Int) := aw_t_ne (a := (0 : Int)) (b := (0 : Int)) hb126 rfl q130
                          exfalso
                          omega
                        · have q130 : (0 : Int) = (0 : Int) := aw_t_ne (a := (0 : Int)) (b := (0 : Int)) hb126 rfl q130
                          refine aw_n aj_d223 rfl rfl ?_
                          refine aw_e aj_d223 rfl rfl ?_
                          have b131 : 0 ≤ (S126.1 30).toInt ∧ (S126.1 30).toInt ≤ 1001 := aw_bd_f hs (hI129).1 (by decide) rfl
                          exact ⟨(hI129).1, fr128, Or.inl ⟨_, rfl, rfl, hG126, (show _ ≤ ((S126.1 30)).toInt by omega)⟩⟩
                      · skip
                        have isnum : ((S15.1 26)).toInt = 2 ∨ (((S15.1 26)).toInt = 3 ∧ ((S15.1 29)).toInt = 45) := by omega
                        have b133 : 0 ≤ (S15.1 30).toInt ∧ (S15.1 30).toInt ≤ 1001 := aw_bd_f hs (hI22).1 (by decide) rfl
                        refine aw_k hU.1 aj_d223 rfl rfl [] rfl rfl rfl (Nat.le_of_ble_eq_true rfl) (ar_whole hU (hI22).1 hG15 (by omega)) ?_
                        rintro _ S132 ⟨hT132, fc132, ⟨b132, rfl, hb132, hG132, ck132⟩ | ⟨b132, rfl, hb132, hG132, ck132, wj132, wn132⟩⟩
                        · skip
                          have ck132 : ((S15.1 30)).toInt ≤ (S132.1 30).toInt := ck132
                          have fr134 := aw_fr_tr fr21 (aw_fr_sub (F := [24, 25, 26, 27, 28, 29, 30, 31, 35, 36]) (A := []) (by decide) (by decide) fc132)
                          have hI135 : aw_I s h (aw_sm S132) S132 := ⟨hT132, aw_sm_rf⟩
                          show aw_W _ _ _ _ 60 lv6 [.int b132] _ _
                          refine aw_z (tgt := 65) aj_d223 rfl rfl (fun q136 => ?_) (fun q136 => ?_)
                          · have q136 : (0 : Int) ≠ (0 : Int) := aw_t_ne (a := (0 : Int)) (b := (0 : Int)) hb132 rfl q136
                            exfalso
                            omega
                          · have q136 : (0 : Int) = (0 : Int) := aw_t_ne (a := (0 : Int)) (b := (0 : Int)) hb132 rfl q136
                            refine aw_n aj_d223 rfl rfl ?_
                            refine aw_e aj_d223 rfl rfl ?_
                            have b137 : 0 ≤ (S132.1 30).toInt ∧ (S132.1 30).toInt ≤ 1001 := aw_bd_f hs (hI135).1 (by decide) rfl
                            exact ⟨(hI135).1, fr134, Or.inl ⟨_, rfl, rfl, hG132, (show _ ≤ ((S132.1 30)).toInt by omega)⟩⟩
                        · skip
                          have ck132 : ((S15.1 30)).toInt + 1 ≤ (S132.1 30).toInt := ck132
                          have fr138 := aw_fr_tr fr21 (aw_fr_sub (F := [24, 25, 26, 27, 28, 29, 30, 31, 35, 36]) (A := []) (by decide) (by decide) fc132)
                          have hI139 : aw_I s h (aw_sm S132) S132 := ⟨hT132, aw_sm_rf⟩
                          show aw_W _ _ _ _ 60 lv6 [.int b132] _ _
                          refine aw_z (tgt := 65) aj_d223 rfl rfl (fun q140 => ?_) (fun q140 => ?_)
                          · have q140 : (1 : Int) ≠ (0 : Int) := aw_t_ne (a := (1 : Int)) (b := (0 : Int)) hb132 rfl q140
                            have n16 : (S5.2.2.1 3 (x.toInt).toNat).toInt ≤ 15 := by omega
                            have eTw : aw_tT S15 = aw_tT S := aw_fr_tT fr21 (by decide) (by decide)
                            have eJw : aw_tJ S15 = aw_tJ S5 + 1 := by
                              have j1 := hG.1.1
                              unfold aw_tJ at j1 ⊢
                              omega
                            rw [eTw, eJw] at wj132
                            refine aw_n aj_d223 rfl rfl ?_
                            refine aw_t0 (j := 2) aj_d223 rfl (by decide) rfl ?_
                            obtain ⟨lv141, elv141⟩ : ∃ l, l = aj_set1 lv6 2 (.int (Int32.ofInt 0)) := ⟨_, rfl⟩
                            rw [← elv141]
                            have hlv141_0 : aj_lv lv141 0 = some (.ref 117) := cw_e1 elv141 hlv6_0 (by decide) (Or.inl (by decide))
                            have hlv141_1 : aj_lv lv141 1 = some (.int x) := cw_e1 elv141 hlv6_1 (by decide) (Or.inr rfl)
                            have hlv141_2 : aj_lv lv141 2 = some (.int (Int32.ofInt 0)) := by rw [elv141]; exact ak_set1_eq _ _ _
                            show aw_W _ _ _ _ 67 lv141 [] _ _
                            have L67_141 : ∀ (N : Nat) (S143 : aj_S) (lv144 : aj_V) (x145 : Int32), (aj_lv lv144 0 = some (.ref 117)) → (aj_lv lv144 1 = some (.int x)) → (aj_lv lv144 2 = some (.int x145)) → (aw_I s h (aw_G (nm, false, la, ho, hu, ht)) S143) → (aw_fr [24, 25, 26, 27, 28, 29, 30, 31, 35, 36] [3, 4] S S143) → (aw_fr [24, 25] [] S132 S143) → (0 ≤ x145.toInt ∧ x145.toInt ≤ 64) → (64 - x145.toInt).toNat < N → aw_W tb h d aj_m223 67 lv144 [] S143 ((ar_QB s h [24, 25, 26, 27, 28, 29, 30, 31, 35, 36] [3, 4] S (fun S' => aw_G (nm, false, la, ho, hu, ht) S' ∧ (S.1 30).toInt ≤ (S'.1 30).toInt) (fun S' => aw_G (nm, false, la, ho, hu, ht) S' ∧ (S.1 30).toInt + 0 ≤ (S'.1 30).toInt ∧ (S'.2.2.1 3 (x.toInt).toNat).toInt = 1 + (aw_lc (aw_tT S) 1001 (aw_tJ S) : Nat) ∧ ∀ j, j ≠ (x.toInt).toNat → S'.2.2.1 3 j = S.2.2.1 3 j))) := by
                              intro N
                              induction N with
                              | zero =>
                                intro S143 lv144 x145 hlv144_0 hlv144_1 hlv144_2 hI146 fr147 fl148 bx145 hm
                                omega
                              | succ N ihL67_141 =>
                                intro S143 lv144 x145 hlv144_0 hlv144_1 hlv144_2 hI146 fr147 fl148 bx145 hm
                                have hI149 : aw_I s h (aw_sm S143) S143 := ⟨hI146.1, aw_sm_rf⟩
                                have b150 : 0 ≤ (S132.1 30).toInt ∧ (S132.1 30).toInt ≤ 1001 := aw_bd_f hs (hI139).1 (by decide) rfl
                                have c151 : (S143.1 30).toInt = (S132.1 30).toInt := (congrArg Int32.toInt (fl148.1 30 (by decide)).1).trans rfl
                                have b152 : 0 ≤ (S143.1 30).toInt ∧ (S143.1 30).toInt ≤ 1001 := aw_bd_f hs (hI149).1 (by decide) rfl
                                refine aw_l0 aj_d223 rfl rfl hlv144_2 ?_
                                refine aw_l2 aj_d223 rfl rfl hlv144_0 ?_
                                refine aw_g hU.1 aj_d223 rfl rfl (by decide) (v := .ref 120) rfl ?_
                                refine aw_l0 aj_d223 rfl rfl hlv144_1 ?_
                                refine aw_ld (k := 3) hU.1 aj_d223 (Or.inl ⟨rfl, rfl⟩) rfl (by decide) (by decide) rfl (a := x.toInt) rfl (by omega) (by omega) (fun x153 ex153 => ?_)
                                have bx153 : 0 ≤ x153.toInt ∧ x153.toInt ≤ 64 := by
                                  rw [ex153]
                                  exact aw_bd_a hs (hI149).1 (k := 3) (by decide) (by decide) rfl (by decide) rfl (by omega)
                                have ftx153 : x153.toInt = (S5.2.2.1 3 (x.toInt).toNat).toInt := congrArg Int32.toInt (ex153.trans (congrFun ((fl148.2 3 (by decide)).1.trans ((fc132.2 3 (by decide)).1.trans ((fd15.2 3 (by decide)).1.trans rfl))) _))
                                have ybx153 : x153.toInt = (S5.2.2.1 3 (x.toInt).toNat).toInt := (congrArg Int32.toInt ex153).trans (by rw [show (S143.2.2.1 3) = S5.2.2.1 3 from ((fl148.2 3 (by decide)).1.trans ((fc132.2 3 (by decide)).1.trans ((fd15.2 3 (by decide)).1.trans rfl)))])
                                refine aw_c (tgt := 110) aj_d223 rfl rfl (fun q154 => ?_) (fun q154 => ?_)
                                · have q154 : x145.toInt ≥ x153.toInt := aw_t_ge (a := x145.toInt) (b := x153.toInt) rfl rfl q154
                                  refine aw_l2 aj_d223 rfl rfl hlv144_0 ?_
                                  refine aw_g hU.1 aj_d223 rfl rfl (by decide) (v := .ref 121) rfl ?_
                                  refine aw_l0 aj_d223 rfl rfl hlv144_1 ?_
                                  refine aw_n aj_d223 rfl rfl ?_
                                  refine aw_mul aj_d223 rfl (a := x.toInt) (b := (64 : Int)) rfl rfl (by omega) (by omega) (fun x155 ex155 => ?_)
                                  refine aw_l2 aj_d223 rfl rfl hlv144_0 ?_
                                  refine aw_g hU.1 aj_d223 rfl rfl (by decide) (v := .ref 120) rfl ?_
                                  refine aw_l0 aj_d223 rfl rfl hlv144_1 ?_
                                  refine aw_ld (k := 3) hU.1 aj_d223 (Or.inl ⟨rfl, rfl⟩) rfl (by decide) (by decide) rfl (a := x.toInt) rfl (by omega) (by omega) (fun x156 ex156 => ?_)
                                  have bx156 : 0 ≤ x156.toInt ∧ x156.toInt ≤ 64 := by
                                    rw [ex156]
                                    exact aw_bd_a hs (hI149).1 (k := 3) (by decide) (by decide) rfl (by decide) rfl (by omega)
                                  have ftx156 : x156.toInt = (S5.2.2.1 3 (x.toInt).toNat).toInt := congrArg Int32.toInt (ex156.trans (congrFun ((fl148.2 3 (by decide)).1.trans ((fc132.2 3 (by decide)).1.trans ((fd15.2 3 (by decide)).1.trans rfl))) _))
                                  have ycx156 : x156.toInt = (S5.2.2.1 3 (x.toInt).toNat).toInt := (congrArg Int32.toInt ex156).trans (by rw [show (S143.2.2.1 3) = S5.2.2.1 3 from ((fl148.2 3 (by decide)).1.trans ((fc132.2 3 (by decide)).1.trans ((fd15.2 3 (by decide)).1.trans rfl)))])
                                  refine aw_add aj_d223 rfl (a := x155.toInt) (b := x156.toInt) rfl rfl (by omega) (by omega) (fun x157 ex157 => ?_)
                                  refine aw_l2 aj_d223 rfl rfl hlv144_0 ?_
                                  have b158 : (-9999) ≤ (S132.1 35).toInt ∧ (S132.1 35).toInt ≤ 9999 := aw_bd_f hs (hI139).1 (by decide) rfl
                                  have c159 : (S143.1 35).toInt = (S132.1 35).toInt := (congrArg Int32.toInt (fl148.1 35 (by decide)).1).trans rfl
                                  have b160 : (-9999) ≤ (S143.1 35).toInt ∧ (S143.1 35).toInt ≤ 9999 := aw_bd_f hs (hI149).1 (by decide) rfl
                                  refine aw_g hU.1 aj_d223 rfl rfl (by decide) (v := .int (S143.1 35)) rfl ?_
                                  refine aw_st (k := 4) hU.1 aj_d223 (Or.inl ⟨rfl, rfl⟩) rfl (by decide) (by decide) rfl (a := x157.toInt) rfl (by omega) (by omega) ?_
                                  have hI161 := aw_I_a (aw_UV hU aw_Gs_sm) (k := 4) (j := (x157.toInt).toNat) (v := aj_nar 0 (S143.1 35)) hI149 (by decide) (by decide) (by decide) rfl (by decide) (by decide) rfl (aw_full _)
                                  have fr162 := aw_fr_a (k := 4) (j := (x157.toInt).toNat) (v := aj_nar 0 (S143.1 35)) (by decide) fr147
                                  refine aw_l2 aj_d223 rfl rfl hlv144_0 ?_
                                  refine aw_g hU.1 aj_d223 rfl rfl (by decide) (v := .ref 120) rfl ?_
                                  refine aw_l0 aj_d223 rfl rfl hlv144_1 ?_
                                  refine aw_n aj_d223 rfl rfl ?_
                                  refine aw_ld (k := 3) hU.1 aj_d223 (Or.inl ⟨rfl, rfl⟩) rfl (by decide) (by decide) rfl (a := x.toInt) rfl (by omega) (by omega) (fun x163 ex163 => ?_)
                                  have bx163 : 0 ≤ x163.toInt ∧ x163.toInt ≤ 64 := by
                                    rw [ex163]
                                    exact aw_bd_a hs (hI161).1 (k := 3) (by decide) (by decide) rfl (by decide) rfl (by omega)
                                  have ftx163 : x163.toInt = (S5.2.2.1 3 (x.toInt).toNat).toInt := congrArg Int32.toInt (ex163.trans (congrFun ((fl148.2 3 (by decide)).1.trans ((fc132.2 3 (by decide)).1.trans ((fd15.2 3 (by decide)).1.trans rfl))) _))
                                  have ydx163 : x163.toInt = (S5.2.2.1 3 (x.toInt).toNat).toInt := (congrArg Int32.toInt ex163).trans (by rw [show ((aw_wa S143 4 (x157.toInt).toNat (aj_nar 0 (S143.1 35))).2.2.1 3) = S5.2.2.1 3 from ((fl148.2 3 (by decide)).1.trans ((fc132.2 3 (by decide)).1.trans ((fd15.2 3 (by decide)).1.trans rfl)))])
                                  refine aw_n aj_d223 rfl rfl ?_
                                  refine aw_add aj_d223 rfl (a := x163.toInt) (b := (1 : Int)) rfl rfl (by omega) (by omega) (fun x164 ex164 => ?_)
                                  have b165 : 0 ≤ (S.1 37).toInt ∧ (S.1 37).toInt ≤ 1 := aw_bd_f hs (hI2).1 (by decide) rfl
                                  have c166 : (S5.1 37).toInt = (S.1 37).toInt := (congrArg Int32.toInt (fr8.1 37 (by decide)).1).trans rfl
                                  have b167 : 0 ≤ (S5.1 37).toInt ∧ (S5.1 37).toInt ≤ 1 := aw_bd_f hs (hI9).1 (by decide) rfl
                                  have c168 : (S15.1 37).toInt = (S.1 37).toInt := (congrArg Int32.toInt (fd15.1 37 (by decide)).1).trans c166
                                  have b169 : 0 ≤ (S15.1 37).toInt ∧ (S15.1 37).toInt ≤ 1 := aw_bd_f hs (hI22).1 (by decide) rfl
                                  have c170 : (S132.1 37).toInt = (S.1 37).toInt := (congrArg Int32.toInt (fc132.1 37 (by decide)).1).trans c168
                                  have b171 : 0 ≤ (S132.1 37).toInt ∧ (S132.1 37).toInt ≤ 1 := aw_bd_f hs (hI139).1 (by decide) rfl
                                  have c172 : (S143.1 37).toInt = (S.1 37).toInt := (congrArg Int32.toInt (fl148.1 37 (by decide)).1).trans c170
                                  have b173 : 0 ≤ (S143.1 37).toInt ∧ (S143.1 37).toInt ≤ 1 := aw_bd_f hs (hI149).1 (by decide) rfl
                                  refine aw_st (k := 3) hU.1 aj_d223 (Or.inl ⟨rfl, rfl⟩) rfl (by decide) (by decide) rfl (a := x.toInt) rfl (by omega) (by omega) ?_
                                  have hI174 : aw_I s h (aw_sm (aw_wa (aw_wa S143 4 (x157.toInt).toNat (aj_nar 0 (S143.1 35))) 3 (x.toInt).toNat (aj_nar 0 x164))) (aw_wa (aw_wa S143 4 (x157.toInt).toNat (aj_nar 0 (S143.1 35))) 3 (x.toInt).toNat (aj_nar 0 x164)) := ⟨aw_T_a hU.2.1 hs hU.1.1 (hI161).1 (by decide) (by decide) rfl (by decide) (by decide) rfl (aw_bp (a := x164.toInt) rfl (by omega) (by omega)), aw_sm_rf⟩
                                  have fr175 := aw_fr_a (k := 3) (j := (x.toInt).toNat) (v := aj_nar 0 x164) (by decide) fr162
                                  have hG176 : aw_G (nm, false, la, ho, hu, ht) (aw_wa (aw_wa S143 4 (x157.toInt).toNat (aj_nar 0 (S143.1 35))) 3 (x.toInt).toNat (aj_nar 0 x164)) := aw_G_t3 (aw_G_sm hI161.2 hI146.2) (by
                                    have e1 : aw_h (aw_wa S143 4 (x157.toInt).toNat (aj_nar 0 (S143.1 35))) = aw_h S := by
                                      unfold aw_h
                                      rw [show ((aw_wa S143 4 (x157.toInt).toNat (aj_nar 0 (S143.1 35))).1 37).toInt = (S.1 37).toInt from c172]
                                    rw [e1, show ((aw_wa S143 4 (x157.toInt).toNat (aj_nar 0 (S143.1 35))).2.2.1 1) = S.2.2.1 1 from ((fl148.2 1 (by decide)).1.trans ((fc132.2 1 (by decide)).1.trans ((fd15.2 1 (by decide)).1.trans ((fr8.2 1 (by decide)).1.trans rfl))))]
                                    omega)
                                  have m9 : ((aw_wa (aw_wa S143 4 (x157.toInt).toNat (aj_nar 0 (S143.1 35))) 3 (x.toInt).toNat (aj_nar 0 x164)).2.2.1 3 (x.toInt).toNat).toInt = (S5.2.2.1 3 (x.toInt).toNat).toInt + 1 := by
                                    show (upd ((aw_wa S143 4 (x157.toInt).toNat (aj_nar 0 (S143.1 35))).2.2.1 3) (x.toInt).toNat (aj_nar 0 x164) (x.toInt).toNat).toInt = _
                                    unfold upd
                                    rw [if_pos (by omega)]
                                    show (x164).toInt = _
                                    omega
                                  have o9 : ∀ j, j ≠ (x.toInt).toNat → (aw_wa (aw_wa S143 4 (x157.toInt).toNat (aj_nar 0 (S143.1 35))) 3 (x.toInt).toNat (aj_nar 0 x164)).2.2.1 3 j = S.2.2.1 3 j := fun j hj => by
                                    show (upd ((aw_wa S143 4 (x157.toInt).toNat (aj_nar 0 (S143.1 35))).2.2.1 3) (x.toInt).toNat (aj_nar 0 x164) j) = _
                                    unfold upd
                                    rw [if_neg (by omega), show ((aw_wa S143 4 (x157.toInt).toNat (aj_nar 0 (S143.1 35))).2.2.1 3) = S5.2.2.1 3 from ((fl148.2 3 (by decide)).1.trans ((fc132.2 3 (by decide)).1.trans ((fd15.2 3 (by decide)).1.trans rfl)))]
                                    exact o0 j hj
                                  have lc9 : (S5.2.2.1 3 (x.toInt).toNat).toInt + 1 + ((aw_lc (aw_tT S) (1002 - ((S5.2.2.1 3 (x.toInt).toNat).toInt + 1).toNat) (aw_tJ (aw_wa (aw_wa S143 4 (x157.toInt).toNat (aj_nar 0 (S143.1 35))) 3 (x.toInt).toNat (aj_nar 0 x164))) : Nat) : Int) = (S5.2.2.1 3 (x.toInt).toNat).toInt + (aw_lc (aw_tT S) (1002 - ((S5.2.2.1 3 (x.toInt).toNat).toInt).toNat) (aw_tJ S5) : Nat) := by
                                    rw [aw_lc_1 (k' := 1002 - ((S5.2.2.1 3 (x.toInt).toNat).toInt + 1).toNat) (q' := aw_tJ (aw_wa (aw_wa S143 4 (x157.toInt).toNat (aj_nar 0 (S143.1 35))) 3 (x.toInt).toNat (aj_nar 0 x164))) i44 (by omega) (by
                                      have j1 := hG.1.1
                                      unfold aw_tJ at j1 wj132 ⊢
                                      show (((S143.1 30)).toInt).toNat = _
                                      omega)]
                                    omega
                                  have hI177 : aw_I s h (aw_sm (aw_wa (aw_wa S143 4 (x157.toInt).toNat (aj_nar 0 (S143.1 35))) 3 (x.toInt).toNat (aj_nar 0 x164))) (aw_wa (aw_wa S143 4 (x157.toInt).toNat (aj_nar 0 (S143.1 35))) 3 (x.toInt).toNat (aj_nar 0 x164)) := ⟨(hI174).1, aw_sm_rf⟩
                                  refine aw_n aj_d223 rfl rfl ?_
                                  exact ihL0_3 (aw_wa (aw_wa S143 4 (x157.toInt).toNat (aj_nar 0 (S143.1 35))) 3 (x.toInt).toNat (aj_nar 0 x164)) lv144 hlv144_0 hlv144_1 ⟨(hI177).1, hG176⟩ fr175 (show _ ≤ ((S143.1 30)).toInt by omega) (by rw [m9]; omega) (by rw [m9, lc9]; exact lc0) o9 (show (1001 - ((S143.1 30)).toInt).toNat < _ by omega)
                                · have q154 : x145.toInt < x153.toInt := aw_t_ge (a := x145.toInt) (b := x153.toInt) rfl rfl q154
                                  refine aw_l2 aj_d223 rfl rfl hlv144_0 ?_
                                  refine aw_g hU.1 aj_d223 rfl rfl (by decide) (v := .ref 121) rfl ?_
                                  refine aw_l0 aj_d223 rfl rfl hlv144_1 ?_
                                  refine aw_n aj_d223 rfl rfl ?_
                                  refine aw_mul aj_d223 rfl (a := x.toInt) (b := (64 : Int)) rfl rfl (by omega) (by omega) (fun x178 ex178 => ?_)
                                  refine aw_l0 aj_d223 rfl rfl hlv144_2 ?_
                                  refine aw_add aj_d223 rfl (a := x178.toInt) (b := x145.toInt) rfl rfl (by omega) (by omega) (fun x179 ex179 => ?_)
                                  refine aw_ld (k := 4) hU.1 aj_d223 (Or.inl ⟨rfl, rfl⟩) rfl (by decide) (by decide) rfl (a := x179.toInt) rfl (by omega) (by omega) (fun x180 ex180 => ?_)
                                  refine aw_l2 aj_d223 rfl rfl hlv144_0 ?_
                                  have b181 : (-9999) ≤ (S132.1 35).toInt ∧ (S132.1 35).toInt ≤ 9999 := aw_bd_f hs (hI139).1 (by decide) rfl
                                  have c182 : (S143.1 35).toInt = (S132.1 35).toInt := (congrArg Int32.toInt (fl148.1 35 (by decide)).1).trans rfl
                                  have b183 : (-9999) ≤ (S143.1 35).toInt ∧ (S143.1 35).toInt ≤ 9999 := aw_bd_f hs (hI149).1 (by decide) rfl
                                  refine aw_g hU.1 aj_d223 rfl rfl (by decide) (v := .int (S143.1 35)) rfl ?_
                                  refine aw_c (tgt := 104) aj_d223 rfl rfl (fun q184 => ?_) (fun q184 => ?_)
                                  · have q184 : x180.toInt ≠ (S132.1 35).toInt := aw_t_ne (a := x180.toInt) (b := (S132.1 35).toInt) rfl c182 q184
                                    refine aw_inc aj_d223 rfl hlv144_2 (a := x145.toInt) rfl (by omega) (by omega) (by decide) (by decide) (fun x185 ex185 => ?_)
                                    obtain ⟨lv186, elv186⟩ : ∃ l, l = aj_set1 lv144 2 (.int x185) := ⟨_, rfl⟩
                                    rw [← elv186]
                                    have hlv186_0 : aj_lv lv186 0 = some (.ref 117) := cw_e1 elv186 hlv144_0 (by decide) (Or.inl (by decide))
                                    have hlv186_1 : aj_lv lv186 1 = some (.int x) := cw_e1 elv186 hlv144_1 (by decide) (Or.inr rfl)
                                    have hlv186_2 : aj_lv lv186 2 = some (.int x185) := by rw [elv186]; exact ak_set1_eq _ _ _
                                    show aw_W _ _ _ _ 107 lv186 [] _ _
                                    refine aw_n aj_d223 rfl rfl ?_
                                    exact ihL67_141 S143 lv186 (x185) hlv186_0 hlv186_1 hlv186_2 ⟨(hI149).1, hI146.2⟩ fr147 fl148 (by omega) (by omega)
                                  · have q184 : x180.toInt = (S132.1 35).toInt := aw_t_ne (a := x180.toInt) (b := (S132.1 35).toInt) rfl c182 q184
                                    refine aw_l2 aj_d223 rfl rfl hlv144_0 ?_
                                    refine aw_n aj_d223 rfl rfl ?_
                                    refine aw_l2 aj_d223 rfl rfl hlv144_0 ?_
                                    have c187 : (S143.1 36).toInt = (S132.1 36).toInt := (congrArg Int32.toInt (fl148.1 36 (by decide)).1).trans rfl
                                    refine aw_g hU.1 aj_d223 rfl rfl (by decide) (v := .int (S143.1 36)) rfl ?_
                                    refine aw_k hU.1 aj_d223 rfl rfl [_, _] rfl rfl rfl (Nat.le_of_ble_eq_true rfl) (ar_tell hU (hI149).1 (by omega) (a := (5 : Int)) rfl (by omega)) ?_
                                    rintro _ S188 ⟨hT188, fc188, rfl, hz188, hw188⟩
                                    have hG188 := aw_G_tell hI146.2 fc188 hz188
                                    have b189 : 0 ≤ (S.1 32).toInt ∧ (S.1 32).toInt ≤ 1 := aw_bd_f hs (hI2).1 (by decide) rfl
                                    have c190 : (S5.1 32).toInt = (S.1 32).toInt := (congrArg Int32.toInt (fr8.1 32 (by decide)).1).trans rfl
                                    have b191 : 0 ≤ (S5.1 32).toInt ∧ (S5.1 32).toInt ≤ 1 := aw_bd_f hs (hI9).1 (by decide) rfl
                                    have c192 : (S15.1 32).toInt = (S.1 32).toInt := (congrArg Int32.toInt (fd15.1 32 (by decide)).1).trans c190
                                    have b193 : 0 ≤ (S15.1 32).toInt ∧ (S15.1 32).toInt ≤ 1 := aw_bd_f hs (hI22).1 (by decide) rfl
                                    have c194 : (S132.1 32).toInt = (S.1 32).toInt := (congrArg Int32.toInt (fc132.1 32 (by decide)).1).trans c192
                                    have b195 : 0 ≤ (S132.1 32).toInt ∧ (S132.1 32).toInt ≤ 1 := aw_bd_f hs (hI139).1 (by decide) rfl
                                    have c196 : (S143.1 32).toInt = (S.1 32).toInt := (congrArg Int32.toInt (fl148.1 32 (by decide)).1).trans c194
                                    have b197 : 0 ≤ (S143.1 32).toInt ∧ (S143.1 32).toInt ≤ 1 := aw_bd_f hs (hI149).1 (by decide) rfl
                                    have hz188 : ((S143.1 32)).toInt = 0 → (S188.1 24).toInt ≠ 0 := hz188
                                    have fr198 := aw_fr_tr fr147 (aw_fr_sub (F := [24, 25]) (A := []) (by decide) (by decide) fc188)
                                    have fl199 := aw_fr_tr fl148 (aw_fr_sub (F := [24, 25]) (A := []) (by decide) (by decide) fc188)
                                    have hI200 : aw_I s h (aw_sm S188) S188 := ⟨hT188, aw_sm_rf⟩
                                    show aw_W _ _ _ _ 104 lv144 [] _ _
                                    refine aw_inc aj_d223 rfl hlv144_2 (a := x145.toInt) rfl (by omega) (by omega) (by decide) (by decide) (fun x201 ex201 => ?_)
                                    obtain ⟨lv202, elv202⟩ : ∃ l, l = aj_set1 lv144 2 (.int x201) := ⟨_, rfl⟩
                                    rw [← elv202]
                                    have hlv202_0 : aj_lv lv202 0 = some (.ref 117) := cw_e1 elv202 hlv144_0 (by decide) (Or.inl (by decide))
                                    have hlv202_1 : aj_lv lv202 1 = some (.int x) := cw_e1 elv202 hlv144_1 (by decide) (Or.inr rfl)
                                    have hlv202_2 : aj_lv lv202 2 = some (.int x201) := by rw [elv202]; exact ak_set1_eq _ _ _
                                    show aw_W _ _ _ _ 107 lv202 [] _ _
                                    refine aw_n aj_d223 rfl rfl ?_
                                    exact ihL67_141 S188 lv202 (x201) hlv202_0 hlv202_1 hlv202_2 ⟨(hI200).1, hG188⟩ fr198 fl199 (by omega) (by omega)
                            exact L67_141 _ S132 lv141 ((Int32.ofInt 0)) hlv141_0 hlv141_1 hlv141_2 ⟨(hI139).1, hG132⟩ fr138 (aw_fr_rf : aw_fr [24, 25] [] S132 S132) (by first | omega | decide) (Nat.lt_succ_self _)
                          · have q140 : (1 : Int) = (0 : Int) := aw_t_ne (a := (1 : Int)) (b := (0 : Int)) hb132 rfl q140
                            exfalso
                            omega
                    · have q124 : (0 : Int) ≠ (0 : Int) := aw_t_eq (a := (0 : Int)) (b := (0 : Int)) hb114 rfl q124
                      exfalso
                      omega
            · have q23 : (1 : Int) = (0 : Int) := aw_t_ne (a := (1 : Int)) (b := (0 : Int)) hb15 rfl q23
              exfalso
              omega
      · skip
        have pb11 : ¬ (((S5.1 26)).toInt = 3 ∧ ((S5.1 29)).toInt = (44 : Int)) := pb11
        show aw_W _ _ _ _ 6 lv6 [.int b11] _ _
        refine aw_z (tgt := 143) aj_d223 rfl rfl (fun q203 => ?_) (fun q203 => ?_)
        · have q203 : (0 : Int) = (0 : Int) := aw_t_eq (a := (0 : Int)) (b := (0 : Int)) hb11 rfl q203
          have i44 : ¬ aw_is (aw_tT S) (aw_tJ S5) 3 44 := fun z => by
            have tk := hI7.2.1.2.1
            rw [eT0] at tk
            have z1 := tk.1.trans z.1
            have z2 := tk.2.2.2.trans z.2
            omega
          rw [aw_lc_0 i44] at lc0
          refine aw_n aj_d223 rfl rfl ?_
          refine aw_e aj_d223 rfl rfl ?_
          exact ⟨(hI9).1, fr8, Or.inr ⟨_, rfl, rfl, hI7.2, (show _ + 0 ≤ ((S5.1 30)).toInt by omega), by omega, o0⟩⟩
        · have q203 : (0 : Int) ≠ (0 : Int) := aw_t_eq (a := (0 : Int)) (b := (0 : Int)) hb11 rfl q203
          exfalso
          omega
  have b204 : 0 ≤ (S.1 30).toInt ∧ (S.1 30).toInt ≤ 1001 := aw_bd_f hs (hI2).1 (by decide) rfl
  exact L0_3 _ S lv1 hlv1_0 hlv1_1 ⟨(hI2).1, hG⟩ fr3 (show _ ≤ ((S.1 30)).toInt by omega) (by rw [hm1]; omega) (by rw [hm1]; rfl) (fun _ _ => rfl) (Nat.lt_succ_self _)
end ARA23
