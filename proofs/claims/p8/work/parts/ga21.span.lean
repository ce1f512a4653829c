/-! SPAN (printed by wip/p2/ref/r21.py) -/
section ARA21
variable {tb : aj_T} {s : List Nat} {h : aj_H} {S S' S1 S2 : aj_S} {d n : Nat} {g g' : aw_gh} {F A : List Nat} {G : aj_S → Prop} {nm : Int64 → Prop} {fl : Bool} {la ho hu ht q t p : Nat}
/-- the next slot of UNKNOWNS is free -/
theorem aw_G_t3 {j : Nat} {v : Int32} (hG : aw_G (nm, false, la, ho, hu, ht) S) (hj : aw_h S * 8 + (S.2.2.1 1 (aw_h S)).toInt.toNat ≤ j) : aw_G (nm, false, la, ho, hu, ht) (aw_wa S 3 j v) := by
  obtain ⟨GA, GB, GC, GD, GE⟩ := hG
  refine ⟨GA, GB, GC, ⟨fun z => absurd z Bool.false_ne_true, fun z => ?_, GD.2.2.1, GD.2.2.2⟩, GE⟩
  obtain ⟨⟨u1, u2, u3⟩, t1⟩ := GD.2.1 rfl
  refine ⟨⟨u1, fun u i hi => ?_, u3⟩, t1⟩
  obtain ⟨w1, w2⟩ := u2 u i hi
  refine ⟨w1, Eq.trans ?_ w2⟩
  have hl := (List.getElem?_eq_some_iff.mp hi).1
  have u1 : (S.2.2.1 1 (aw_h S)).toInt = ((aw_ul (aw_tT S) hu (aw_tJ S)).length : Nat) := u1
  have hl : u < (aw_ul (aw_tT S) hu (aw_tJ S)).length := hl
  show (upd (S.2.2.1 3) j v (aw_h S * 8 + u)).toInt = _
  unfold upd
  rw [if_neg (by omega)]
theorem ar_span (hU : aw_U tb s h) (hT : ak_Ty ak_TN s (aj_mh h S)) (hG : aw_G (nm, false, la, ho, hu, ht) S) (hd : 6 ≤ d) {x : Int32} (hx : 0 ≤ x.toInt ∧ x.toInt ≤ 15) (hx2 : aw_h S * 8 + (S.2.2.1 1 (aw_h S)).toInt.toNat ≤ (x.toInt).toNat) (hv : -999999999 ≤ (S.2.2.1 4 ((x.toInt).toNat * 64)).toInt ∧ (S.2.2.1 4 ((x.toInt).toNat * 64)).toInt ≤ 999999999) (hk : (S.1 26).toInt = 3 ∧ (S.1 29).toInt = 256) : aw_K tb h d 222 [.ref 117, .int x] S (ar_QT s h (nm, false, la, ho, hu, ht) [24, 25, 26, 27, 28, 29, 30, 31, 35, 36] [3, 4] S (fun S' => (S'.1 30).toInt = (S.1 30).toInt + 1 + (aw_wd (aw_tT S) (aw_tJ S + 1) : Nat) ∧ (S'.2.2.1 3 (x.toInt).toNat).toInt = (if 0 ≤ (aw_num (aw_tF S) (aw_tT S) (aw_tJ S + 1)) - (S.2.2.1 4 ((x.toInt).toNat * 64)).toInt ∧ (aw_num (aw_tF S) (aw_tT S) (aw_tJ S + 1)) - (S.2.2.1 4 ((x.toInt).toNat * 64)).toInt ≤ 63 then (aw_num (aw_tF S) (aw_tT S) (aw_tJ S + 1)) - (S.2.2.1 4 ((x.toInt).toNat * 64)).toInt + 1 else (S.2.2.1 3 (x.toInt).toNat).toInt) ∧ ∀ j, j ≠ (x.toInt).toNat → S'.2.2.1 3 j = S.2.2.1 3 j)) := by
  obtain ⟨d, rfl⟩ : ∃ e, d = e + 1 := ⟨d - 1, by omega⟩
  have hs : aw_sT s := aw_hy_sT hU.2.2
  refine aw_m aj_m222_at rfl (Nat.le_of_ble_eq_true rfl) ?_
  show aw_W _ _ _ _ 0 [(0, .ref 117), (1, .int x)] [] _ _
  obtain ⟨lv1, elv1⟩ : ∃ l : aj_V, l = [(0, .ref 117), (1, .int x)] := ⟨_, rfl⟩
  rw [← elv1]
  have hlv1_0 : aj_lv lv1 0 = some (.ref 117) := by rw [elv1]; rfl
  have hlv1_1 : aj_lv lv1 1 = some (.int x) := by rw [elv1]; rfl
  have hI2 : aw_I s h (aw_sm S) S := ⟨hT, aw_sm_rf⟩
  have fr3 : aw_fr [24, 25, 26, 27, 28, 29, 30, 31, 35, 36] [3, 4] S S := aw_fr_rf
  refine aw_l2 aj_d222 rfl rfl hlv1_0 ?_
  have b4 : 0 ≤ (S.1 26).toInt ∧ (S.1 26).toInt ≤ 5 := aw_bd_f hs (hI2).1 (by decide) rfl
  have b5 : 0 ≤ (S.1 30).toInt ∧ (S.1 30).toInt ≤ 1001 := aw_bd_f hs (hI2).1 (by decide) rfl
  refine aw_k hU.1 aj_d222 rfl rfl [] rfl rfl rfl (Nat.le_of_ble_eq_true rfl) (ar_pass hU (hI2).1 hG (by omega) (show ((S.1 26)).toInt ≠ 0 by omega) (show ¬ (((S.1 26)).toInt = 3 ∧ ((S.1 29)).toInt = 63) by omega) (show ((S.1 26)).toInt = 4 → ((S.1 29)).toInt = 3 ∨ 6 ≤ ((S.1 29)).toInt by omega)) ?_
  rintro _ S6 ⟨hT6, fc6, ⟨b6, rfl, hb6, hG6, fd6, hz6⟩ | ⟨b6, rfl, hb6, hG6, ck6, fd6, cj6⟩⟩
  · skip
    have fr7 := aw_fr_tr fr3 (aw_fr_sub (F := [24, 25, 31]) (A := []) (by decide) (by decide) fd6)
    have hI8 : aw_I s h (aw_sm S6) S6 := ⟨hT6, aw_sm_rf⟩
    show aw_W _ _ _ _ 4 lv1 [.int b6] _ _
    refine aw_z (tgt := 14) aj_d222 rfl rfl (fun q9 => ?_) (fun q9 => ?_)
    · have q9 : (0 : Int) = (0 : Int) := aw_t_eq (a := (0 : Int)) (b := (0 : Int)) hb6 rfl q9
      refine aw_n aj_d222 rfl rfl ?_
      refine aw_e aj_d222 rfl rfl ?_
      have c10 : (S6.1 30).toInt = (S.1 30).toInt := (congrArg Int32.toInt (fd6.1 30 (by decide)).1).trans rfl
      have b11 : 0 ≤ (S6.1 30).toInt ∧ (S6.1 30).toInt ≤ 1001 := aw_bd_f hs (hI8).1 (by decide) rfl
      exact ⟨(hI8).1, fr7, Or.inl ⟨_, rfl, rfl, hG6, (show _ ≤ ((S6.1 30)).toInt by omega)⟩⟩
    · have q9 : (0 : Int) ≠ (0 : Int) := aw_t_eq (a := (0 : Int)) (b := (0 : Int)) hb6 rfl q9
      exfalso
      omega
  · skip
    have cj6 : (S6.1 30).toInt = ((S.1 30)).toInt + 1 := cj6
    have fr12 := aw_fr_tr fr3 (aw_fr_sub (F := [26, 27, 28, 29, 30]) (A := []) (by decide) (by decide) fd6)
    have hI13 : aw_I s h (aw_sm S6) S6 := ⟨hT6, aw_sm_rf⟩
    show aw_W _ _ _ _ 4 lv1 [.int b6] _ _
    refine aw_z (tgt := 14) aj_d222 rfl rfl (fun q14 => ?_) (fun q14 => ?_)
    · have q14 : (1 : Int) = (0 : Int) := aw_t_eq (a := (1 : Int)) (b := (0 : Int)) hb6 rfl q14
      exfalso
      omega
    · have q14 : (1 : Int) ≠ (0 : Int) := aw_t_eq (a := (1 : Int)) (b := (0 : Int)) hb6 rfl q14
      refine aw_l2 aj_d222 rfl rfl hlv1_0 ?_
      have b16 : 0 ≤ (S6.1 30).toInt ∧ (S6.1 30).toInt ≤ 1001 := aw_bd_f hs (hI13).1 (by decide) rfl
      refine aw_k hU.1 aj_d222 rfl rfl [] rfl rfl rfl (Nat.le_of_ble_eq_true rfl) (ar_whole hU (hI13).1 hG6 (by omega)) ?_
      rintro _ S15 ⟨hT15, fc15, ⟨b15, rfl, hb15, hG15, ck15⟩ | ⟨b15, rfl, hb15, hG15, ck15, wj15, wn15⟩⟩
      · skip
        have ck15 : ((S6.1 30)).toInt ≤ (S15.1 30).toInt := ck15
        have fr17 := aw_fr_tr fr12 (aw_fr_sub (F := [24, 25, 26, 27, 28, 29, 30, 31, 35, 36]) (A := []) (by decide) (by decide) fc15)
        have hI18 : aw_I s h (aw_sm S15) S15 := ⟨hT15, aw_sm_rf⟩
        show aw_W _ _ _ _ 11 lv1 [.int b15] _ _
        refine aw_z (tgt := 16) aj_d222 rfl rfl (fun q19 => ?_) (fun q19 => ?_)
        · have q19 : (0 : Int) ≠ (0 : Int) := aw_t_ne (a := (0 : Int)) (b := (0 : Int)) hb15 rfl q19
          exfalso
          omega
        · have q19 : (0 : Int) = (0 : Int) := aw_t_ne (a := (0 : Int)) (b := (0 : Int)) hb15 rfl q19
          refine aw_n aj_d222 rfl rfl ?_
          refine aw_e aj_d222 rfl rfl ?_
          have b20 : 0 ≤ (S15.1 30).toInt ∧ (S15.1 30).toInt ≤ 1001 := aw_bd_f hs (hI18).1 (by decide) rfl
          exact ⟨(hI18).1, fr17, Or.inl ⟨_, rfl, rfl, hG15, (show _ ≤ ((S15.1 30)).toInt by omega)⟩⟩
      · skip
        have ck15 : ((S6.1 30)).toInt + 1 ≤ (S15.1 30).toInt := ck15
        have fr21 := aw_fr_tr fr12 (aw_fr_sub (F := [24, 25, 26, 27, 28, 29, 30, 31, 35, 36]) (A := []) (by decide) (by decide) fc15)
        have hI22 : aw_I s h (aw_sm S15) S15 := ⟨hT15, aw_sm_rf⟩
        show aw_W _ _ _ _ 11 lv1 [.int b15] _ _
        refine aw_z (tgt := 16) aj_d222 rfl rfl (fun q23 => ?_) (fun q23 => ?_)
        · have q23 : (1 : Int) ≠ (0 : Int) := aw_t_ne (a := (1 : Int)) (b := (0 : Int)) hb15 rfl q23
          have eT0 : aw_tT S6 = aw_tT S := aw_fr_tT fd6 (by decide) (by decide)
          have eF0 : aw_tF S6 = aw_tF S := (fd6.2 21 (by decide)).1
          have eJ0 : aw_tJ S6 = aw_tJ S + 1 := by
            have j1 := hG.1.1
            unfold aw_tJ at j1 ⊢
            omega
          rw [eT0, eJ0] at wj15
          rw [eT0, eF0, eJ0] at wn15
          refine aw_l2 aj_d222 rfl rfl hlv1_0 ?_
          refine aw_g hU.1 aj_d222 rfl rfl (by decide) (v := .ref 121) rfl ?_
          refine aw_l0 aj_d222 rfl rfl hlv1_1 ?_
          refine aw_n aj_d222 rfl rfl ?_
          refine aw_mul aj_d222 rfl (a := x.toInt) (b := (64 : Int)) rfl rfl (by omega) (by omega) (fun x24 ex24 => ?_)
          refine aw_ld (k := 4) hU.1 aj_d222 (Or.inl ⟨rfl, rfl⟩) rfl (by decide) (by decide) rfl (a := x24.toInt) rfl (by omega) (by omega) (fun x25 ex25 => ?_)
          have ftx25 : x25.toInt = (S.2.2.1 4 (x24.toInt).toNat).toInt := congrArg Int32.toInt (ex25.trans (congrFun ((fc15.2 4 (by decide)).1.trans ((fd6.2 4 (by decide)).1.trans rfl)) _))
          have y0 : x25.toInt = (S.2.2.1 4 ((x.toInt).toNat * 64)).toInt := (congrArg Int32.toInt ex25).trans (by rw [show (S15.2.2.1 4) = S.2.2.1 4 from ((fc15.2 4 (by decide)).1.trans ((fd6.2 4 (by decide)).1.trans rfl))]; exact congrArg (fun j => (S.2.2.1 4 j).toInt) (by omega))
          refine aw_t0 (j := 2) aj_d222 rfl (by decide) rfl ?_
          obtain ⟨lv26, elv26⟩ : ∃ l, l = aj_set1 lv1 2 (.int x25) := ⟨_, rfl⟩
          rw [← elv26]
          have hlv26_0 : aj_lv lv26 0 = some (.ref 117) := cw_e1 elv26 hlv1_0 (by decide) (Or.inl (by decide))
          have hlv26_1 : aj_lv lv26 1 = some (.int x) := cw_e1 elv26 hlv1_1 (by decide) (Or.inr rfl)
          have hlv26_2 : aj_lv lv26 2 = some (.int x25) := by rw [elv26]; exact ak_set1_eq _ _ _
          show aw_W _ _ _ _ 26 lv26 [] _ _
          refine aw_l2 aj_d222 rfl rfl hlv26_0 ?_
          have b27 : (-9999) ≤ (S15.1 35).toInt ∧ (S15.1 35).toInt ≤ 9999 := aw_bd_f hs (hI22).1 (by decide) rfl
          refine aw_g hU.1 aj_d222 rfl rfl (by decide) (v := .int (S15.1 35)) rfl ?_
          refine aw_l0 aj_d222 rfl rfl hlv26_2 ?_
          refine aw_c (tgt := 45) aj_d222 rfl rfl (fun q28 => ?_) (fun q28 => ?_)
          · have q28 : (S15.1 35).toInt < x25.toInt := aw_t_lt (a := (S15.1 35).toInt) (b := x25.toInt) rfl rfl q28
            refine aw_l2 aj_d222 rfl rfl hlv26_0 ?_
            refine aw_n aj_d222 rfl rfl ?_
            refine aw_l2 aj_d222 rfl rfl hlv26_0 ?_
            refine aw_g hU.1 aj_d222 rfl rfl (by decide) (v := .int (S15.1 36)) rfl ?_
            refine aw_k hU.1 aj_d222 rfl rfl [_, _] rfl rfl rfl (Nat.le_of_ble_eq_true rfl) (ar_tell hU (hI22).1 (by omega) (a := (5 : Int)) rfl (by omega)) ?_
            rintro _ S29 ⟨hT29, fc29, rfl, hz29, hw29⟩
            have hG29 := aw_G_tell hG15 fc29 hz29
            have b30 : 0 ≤ (S.1 32).toInt ∧ (S.1 32).toInt ≤ 1 := aw_bd_f hs (hI2).1 (by decide) rfl
            have c31 : (S6.1 32).toInt = (S.1 32).toInt := (congrArg Int32.toInt (fd6.1 32 (by decide)).1).trans rfl
            have b32 : 0 ≤ (S6.1 32).toInt ∧ (S6.1 32).toInt ≤ 1 := aw_bd_f hs (hI13).1 (by decide) rfl
            have c33 : (S15.1 32).toInt = (S.1 32).toInt := (congrArg Int32.toInt (fc15.1 32 (by decide)).1).trans c31
            have b34 : 0 ≤ (S15.1 32).toInt ∧ (S15.1 32).toInt ≤ 1 := aw_bd_f hs (hI22).1 (by decide) rfl
            have hz29 : ((S15.1 32)).toInt = 0 → (S29.1 24).toInt ≠ 0 := hz29
            have fr35 := aw_fr_tr fr21 (aw_fr_sub (F := [24, 25]) (A := []) (by decide) (by decide) fc29)
            have hI36 : aw_I s h (aw_sm S29) S29 := ⟨hT29, aw_sm_rf⟩
            show aw_W _ _ _ _ 54 lv26 [] _ _
            refine aw_n aj_d222 rfl rfl ?_
            refine aw_e aj_d222 rfl rfl ?_
            have b37 : 0 ≤ (S15.1 30).toInt ∧ (S15.1 30).toInt ≤ 1001 := aw_bd_f hs (hI22).1 (by decide) rfl
            have c38 : (S29.1 30).toInt = (S15.1 30).toInt := (congrArg Int32.toInt (fc29.1 30 (by decide)).1).trans rfl
            have b39 : 0 ≤ (S29.1 30).toInt ∧ (S29.1 30).toInt ≤ 1001 := aw_bd_f hs (hI36).1 (by decide) rfl
            exact ⟨(hI36).1, fr35, Or.inr ⟨_, rfl, rfl, hG29, (show _ + 1 ≤ ((S29.1 30)).toInt by omega), ⟨(show ((S29.1 30)).toInt = _ by omega), (by rw [show (S29.2.2.1 3) = S.2.2.1 3 from ((fc29.2 3 (by decide)).1.trans ((fc15.2 3 (by decide)).1.trans ((fd6.2 3 (by decide)).1.trans rfl))), if_neg (by omega)]), fun j _ => congrFun (show (S29.2.2.1 3) = S.2.2.1 3 from ((fc29.2 3 (by decide)).1.trans ((fc15.2 3 (by decide)).1.trans ((fd6.2 3 (by decide)).1.trans rfl)))) j⟩⟩⟩
          · have q28 : (S15.1 35).toInt ≥ x25.toInt := aw_t_lt (a := (S15.1 35).toInt) (b := x25.toInt) rfl rfl q28
            refine aw_l2 aj_d222 rfl rfl hlv26_0 ?_
            refine aw_g hU.1 aj_d222 rfl rfl (by decide) (v := .int (S15.1 35)) rfl ?_
            refine aw_l0 aj_d222 rfl rfl hlv26_2 ?_
            refine aw_sub aj_d222 rfl (a := (S15.1 35).toInt) (b := x25.toInt) rfl rfl (by omega) (by omega) (fun x40 ex40 => ?_)
            refine aw_n aj_d222 rfl rfl ?_
            refine aw_c (tgt := 56) aj_d222 rfl rfl (fun q41 => ?_) (fun q41 => ?_)
            · have q41 : x40.toInt ≤ (63 : Int) := aw_t_le (a := x40.toInt) (b := (63 : Int)) rfl rfl q41
              have b42 : 0 ≤ (S.1 37).toInt ∧ (S.1 37).toInt ≤ 1 := aw_bd_f hs (hI2).1 (by decide) rfl
              have c43 : (S6.1 37).toInt = (S.1 37).toInt := (congrArg Int32.toInt (fd6.1 37 (by decide)).1).trans rfl
              have b44 : 0 ≤ (S6.1 37).toInt ∧ (S6.1 37).toInt ≤ 1 := aw_bd_f hs (hI13).1 (by decide) rfl
              have c45 : (S15.1 37).toInt = (S.1 37).toInt := (congrArg Int32.toInt (fc15.1 37 (by decide)).1).trans c43
              have b46 : 0 ≤ (S15.1 37).toInt ∧ (S15.1 37).toInt ≤ 1 := aw_bd_f hs (hI22).1 (by decide) rfl
              have ehh : aw_h S15 = aw_h S := by
                unfold aw_h
                rw [show (S15.1 37).toInt = (S.1 37).toInt from c45]
              have e11 : S15.2.2.1 1 (aw_h S) = S.2.2.1 1 (aw_h S) := by rw [show S15.2.2.1 1 = S.2.2.1 1 from ((fc15.2 1 (by decide)).1.trans ((fd6.2 1 (by decide)).1.trans rfl))]
              refine aw_l2 aj_d222 rfl rfl hlv26_0 ?_
              refine aw_g hU.1 aj_d222 rfl rfl (by decide) (v := .ref 120) rfl ?_
              refine aw_l0 aj_d222 rfl rfl hlv26_1 ?_
              refine aw_l2 aj_d222 rfl rfl hlv26_0 ?_
              refine aw_g hU.1 aj_d222 rfl rfl (by decide) (v := .int (S15.1 35)) rfl ?_
              refine aw_l0 aj_d222 rfl rfl hlv26_2 ?_
              refine aw_sub aj_d222 rfl (a := (S15.1 35).toInt) (b := x25.toInt) rfl rfl (by omega) (by omega) (fun x47 ex47 => ?_)
              refine aw_n aj_d222 rfl rfl ?_
              refine aw_add aj_d222 rfl (a := x47.toInt) (b := (1 : Int)) rfl rfl (by omega) (by omega) (fun x48 ex48 => ?_)
              refine aw_st (k := 3) hU.1 aj_d222 (Or.inl ⟨rfl, rfl⟩) rfl (by decide) (by decide) rfl (a := x.toInt) rfl (by omega) (by omega) ?_
              have hI49 : aw_I s h (aw_sm (aw_wa S15 3 (x.toInt).toNat (aj_nar 0 x48))) (aw_wa S15 3 (x.toInt).toNat (aj_nar 0 x48)) := ⟨aw_T_a hU.2.1 hs hU.1.1 (hI22).1 (by decide) (by decide) rfl (by decide) (by decide) rfl (aw_bp (a := x48.toInt) rfl (by omega) (by omega)), aw_sm_rf⟩
              have fr50 := aw_fr_a (k := 3) (j := (x.toInt).toNat) (v := aj_nar 0 x48) (by decide) fr21
              have hG51 : aw_G (nm, false, la, ho, hu, ht) (aw_wa S15 3 (x.toInt).toNat (aj_nar 0 x48)) := aw_G_t3 hG15 (by rw [ehh, e11]; omega)
              have hI52 : aw_I s h (aw_sm (aw_wa S15 3 (x.toInt).toNat (aj_nar 0 x48))) (aw_wa S15 3 (x.toInt).toNat (aj_nar 0 x48)) := ⟨(hI49).1, aw_sm_rf⟩
              refine aw_n aj_d222 rfl rfl ?_
              refine aw_t0 (j := 3) aj_d222 rfl (by decide) rfl ?_
              obtain ⟨lv53, elv53⟩ : ∃ l, l = aj_set1 lv26 3 (.int (Int32.ofInt 0)) := ⟨_, rfl⟩
              rw [← elv53]
              have hlv53_0 : aj_lv lv53 0 = some (.ref 117) := cw_e1 elv53 hlv26_0 (by decide) (Or.inl (by decide))
              have hlv53_1 : aj_lv lv53 1 = some (.int x) := cw_e1 elv53 hlv26_1 (by decide) (Or.inl (by decide))
              have hlv53_2 : aj_lv lv53 2 = some (.int x25) := cw_e1 elv53 hlv26_2 (by decide) (Or.inr rfl)
              have hlv53_3 : aj_lv lv53 3 = some (.int (Int32.ofInt 0)) := by rw [elv53]; exact ak_set1_eq _ _ _
              show aw_W _ _ _ _ 72 lv53 [] _ _
              have L72_53 : ∀ (N : Nat) (S55 : aj_S) (lv56 : aj_V) (x57 : Int32), (aj_lv lv56 0 = some (.ref 117)) → (aj_lv lv56 1 = some (.int x)) → (aj_lv lv56 2 = some (.int x25)) → (aj_lv lv56 3 = some (.int x57)) → (aw_I s h (aw_G (nm, false, la, ho, hu, ht)) S55) → (aw_fr [24, 25, 26, 27, 28, 29, 30, 31, 35, 36] [3, 4] S S55) → (aw_fr [] [4] (aw_wa S15 3 (x.toInt).toNat (aj_nar 0 x48)) S55) → (0 ≤ x57.toInt ∧ x57.toInt ≤ 64) → ((S55.2.2.1 3 (x.toInt).toNat).toInt = (aw_num (aw_tF S) (aw_tT S) (aw_tJ S + 1)) - (S.2.2.1 4 ((x.toInt).toNat * 64)).toInt + 1) → (∀ j, j ≠ (x.toInt).toNat → S55.2.2.1 3 j = S.2.2.1 3 j) → (64 - x57.toInt).toNat < N → aw_W tb h d aj_m222 72 lv56 [] S55 ((ar_QT s h (nm, false, la, ho, hu, ht) [24, 25, 26, 27, 28, 29, 30, 31, 35, 36] [3, 4] S (fun S' => (S'.1 30).toInt = (S.1 30).toInt + 1 + (aw_wd (aw_tT S) (aw_tJ S + 1) : Nat) ∧ (S'.2.2.1 3 (x.toInt).toNat).toInt = (if 0 ≤ (aw_num (aw_tF S) (aw_tT S) (aw_tJ S + 1)) - (S.2.2.1 4 ((x.toInt).toNat * 64)).toInt ∧ (aw_num (aw_tF S) (aw_tT S) (aw_tJ S + 1)) - (S.2.2.1 4 ((x.toInt).toNat * 64)).toInt ≤ 63 then (aw_num (aw_tF S) (aw_tT S) (aw_tJ S + 1)) - (S.2.2.1 4 ((x.toInt).toNat * 64)).toInt + 1 else (S.2.2.1 3 (x.toInt).toNat).toInt) ∧ ∀ j, j ≠ (x.toInt).toNat → S'.2.2.1 3 j = S.2.2.1 3 j))) := by
                intro N
                induction N with
                | zero =>
                  intro S55 lv56 x57 hlv56_0 hlv56_1 hlv56_2 hlv56_3 hI58 fr59 fl60 bx57 e3a e3b hm
                  omega
                | succ N ihL72_53 =>
                  intro S55 lv56 x57 hlv56_0 hlv56_1 hlv56_2 hlv56_3 hI58 fr59 fl60 bx57 e3a e3b hm
                  have hI61 : aw_I s h (aw_sm S55) S55 := ⟨hI58.1, aw_sm_rf⟩
                  have b62 : 0 ≤ (S15.1 30).toInt ∧ (S15.1 30).toInt ≤ 1001 := aw_bd_f hs (hI22).1 (by decide) rfl
                  have c63 : (S55.1 30).toInt = (S15.1 30).toInt := (congrArg Int32.toInt (fl60.1 30 (by decide)).1).trans rfl
                  have b64 : 0 ≤ (S55.1 30).toInt ∧ (S55.1 30).toInt ≤ 1001 := aw_bd_f hs (hI61).1 (by decide) rfl
                  refine aw_l0 aj_d222 rfl rfl hlv56_3 ?_
                  refine aw_l2 aj_d222 rfl rfl hlv56_0 ?_
                  refine aw_g hU.1 aj_d222 rfl rfl (by decide) (v := .ref 120) rfl ?_
                  refine aw_l0 aj_d222 rfl rfl hlv56_1 ?_
                  refine aw_ld (k := 3) hU.1 aj_d222 (Or.inl ⟨rfl, rfl⟩) rfl (by decide) (by decide) rfl (a := x.toInt) rfl (by omega) (by omega) (fun x65 ex65 => ?_)
                  have bx65 : 0 ≤ x65.toInt ∧ x65.toInt ≤ 64 := by
                    rw [ex65]
                    exact aw_bd_a hs (hI61).1 (k := 3) (by decide) (by decide) rfl (by decide) rfl (by omega)
                  refine aw_c (tgt := 102) aj_d222 rfl rfl (fun q66 => ?_) (fun q66 => ?_)
                  · have q66 : x57.toInt ≥ x65.toInt := aw_t_ge (a := x57.toInt) (b := x65.toInt) rfl rfl q66
                    refine aw_n aj_d222 rfl rfl ?_
                    refine aw_e aj_d222 rfl rfl ?_
                    exact ⟨(hI61).1, fr59, Or.inr ⟨_, rfl, rfl, hI58.2, (show _ + 1 ≤ ((S55.1 30)).toInt by omega), ⟨(show ((S55.1 30)).toInt = _ by omega), (e3a.trans (if_pos (by omega)).symm), fun j hj => e3b j hj⟩⟩⟩
                  · have q66 : x57.toInt < x65.toInt := aw_t_ge (a := x57.toInt) (b := x65.toInt) rfl rfl q66
                    refine aw_l2 aj_d222 rfl rfl hlv56_0 ?_
                    refine aw_g hU.1 aj_d222 rfl rfl (by decide) (v := .ref 121) rfl ?_
                    refine aw_l0 aj_d222 rfl rfl hlv56_1 ?_
                    refine aw_n aj_d222 rfl rfl ?_
                    refine aw_mul aj_d222 rfl (a := x.toInt) (b := (64 : Int)) rfl rfl (by omega) (by omega) (fun x67 ex67 => ?_)
                    refine aw_l0 aj_d222 rfl rfl hlv56_3 ?_
                    refine aw_add aj_d222 rfl (a := x67.toInt) (b := x57.toInt) rfl rfl (by omega) (by omega) (fun x68 ex68 => ?_)
                    refine aw_l0 aj_d222 rfl rfl hlv56_2 ?_
                    refine aw_l0 aj_d222 rfl rfl hlv56_3 ?_
                    refine aw_add aj_d222 rfl (a := x25.toInt) (b := x57.toInt) rfl rfl (by omega) (by omega) (fun x69 ex69 => ?_)
                    refine aw_st (k := 4) hU.1 aj_d222 (Or.inl ⟨rfl, rfl⟩) rfl (by decide) (by decide) rfl (a := x68.toInt) rfl (by omega) (by omega) ?_
                    have hI70 := aw_I_a (aw_UV hU aw_Gs_sm) (k := 4) (j := (x68.toInt).toNat) (v := aj_nar 0 x69) hI61 (by decide) (by decide) (by decide) rfl (by decide) (by decide) rfl (aw_full _)
                    have fr71 := aw_fr_a (k := 4) (j := (x68.toInt).toNat) (v := aj_nar 0 x69) (by decide) fr59
                    have fl72 := aw_fr_a (k := 4) (j := (x68.toInt).toNat) (v := aj_nar 0 x69) (by decide) fl60
                    refine aw_inc aj_d222 rfl hlv56_3 (a := x57.toInt) rfl (by omega) (by omega) (by decide) (by decide) (fun x73 ex73 => ?_)
                    obtain ⟨lv74, elv74⟩ : ∃ l, l = aj_set1 lv56 3 (.int x73) := ⟨_, rfl⟩
                    rw [← elv74]
                    have hlv74_0 : aj_lv lv74 0 = some (.ref 117) := cw_e1 elv74 hlv56_0 (by decide) (Or.inl (by decide))
                    have hlv74_1 : aj_lv lv74 1 = some (.int x) := cw_e1 elv74 hlv56_1 (by decide) (Or.inl (by decide))
                    have hlv74_2 : aj_lv lv74 2 = some (.int x25) := cw_e1 elv74 hlv56_2 (by decide) (Or.inr rfl)
                    have hlv74_3 : aj_lv lv74 3 = some (.int x73) := by rw [elv74]; exact ak_set1_eq _ _ _
                    show aw_W _ _ _ _ 99 lv74 [] _ _
                    refine aw_n aj_d222 rfl rfl ?_
                    exact ihL72_53 (aw_wa S55 4 (x68.toInt).toNat (aj_nar 0 x69)) lv74 (x73) hlv74_0 hlv74_1 hlv74_2 hlv74_3 ⟨(hI70).1, (aw_G_sm hI70.2 hI58.2)⟩ fr71 fl72 (by omega) (show _ from e3a) (show _ from e3b) (by omega)
              exact L72_53 _ (aw_wa S15 3 (x.toInt).toNat (aj_nar 0 x48)) lv53 ((Int32.ofInt 0)) hlv53_0 hlv53_1 hlv53_2 hlv53_3 ⟨(hI52).1, hG51⟩ fr50 (aw_fr_rf : aw_fr [] [4] (aw_wa S15 3 (x.toInt).toNat (aj_nar 0 x48)) (aw_wa S15 3 (x.toInt).toNat (aj_nar 0 x48))) (by first | omega | decide) (by show (upd (_) (x.toInt).toNat (aj_nar 0 x48) (x.toInt).toNat).toInt = _; unfold upd; rw [if_pos (by omega)]; show (x48).toInt = _; omega) (fun j hj => by show (upd (S15.2.2.1 3) (x.toInt).toNat (aj_nar 0 x48) j) = _; unfold upd; rw [if_neg (by omega)]; exact congrFun (show (S15.2.2.1 3) = S.2.2.1 3 from ((fc15.2 3 (by decide)).1.trans ((fd6.2 3 (by decide)).1.trans rfl))) j) (Nat.lt_succ_self _)
            · have q41 : x40.toInt > (63 : Int) := aw_t_le (a := x40.toInt) (b := (63 : Int)) rfl rfl q41
              refine aw_l2 aj_d222 rfl rfl hlv26_0 ?_
              refine aw_n aj_d222 rfl rfl ?_
              refine aw_l2 aj_d222 rfl rfl hlv26_0 ?_
              refine aw_g hU.1 aj_d222 rfl rfl (by decide) (v := .int (S15.1 36)) rfl ?_
              refine aw_k hU.1 aj_d222 rfl rfl [_, _] rfl rfl rfl (Nat.le_of_ble_eq_true rfl) (ar_tell hU (hI22).1 (by omega) (a := (5 : Int)) rfl (by omega)) ?_
              rintro _ S75 ⟨hT75, fc75, rfl, hz75, hw75⟩
              have hG75 := aw_G_tell hG15 fc75 hz75
              have b76 : 0 ≤ (S.1 32).toInt ∧ (S.1 32).toInt ≤ 1 := aw_bd_f hs (hI2).1 (by decide) rfl
              have c77 : (S6.1 32).toInt = (S.1 32).toInt := (congrArg Int32.toInt (fd6.1 32 (by decide)).1).trans rfl
              have b78 : 0 ≤ (S6.1 32).toInt ∧ (S6.1 32).toInt ≤ 1 := aw_bd_f hs (hI13).1 (by decide) rfl
              have c79 : (S15.1 32).toInt = (S.1 32).toInt := (congrArg Int32.toInt (fc15.1 32 (by decide)).1).trans c77
              have b80 : 0 ≤ (S15.1 32).toInt ∧ (S15.1 32).toInt ≤ 1 := aw_bd_f hs (hI22).1 (by decide) rfl
              have hz75 : ((S15.1 32)).toInt = 0 → (S75.1 24).toInt ≠ 0 := hz75
              have fr81 := aw_fr_tr fr21 (aw_fr_sub (F := [24, 25]) (A := []) (by decide) (by decide) fc75)
              have hI82 : aw_I s h (aw_sm S75) S75 := ⟨hT75, aw_sm_rf⟩
              show aw_W _ _ _ _ 54 lv26 [] _ _
              refine aw_n aj_d222 rfl rfl ?_
              refine aw_e aj_d222 rfl rfl ?_
              have b83 : 0 ≤ (S15.1 30).toInt ∧ (S15.1 30).toInt ≤ 1001 := aw_bd_f hs (hI22).1 (by decide) rfl
              have c84 : (S75.1 30).toInt = (S15.1 30).toInt := (congrArg Int32.toInt (fc75.1 30 (by decide)).1).trans rfl
              have b85 : 0 ≤ (S75.1 30).toInt ∧ (S75.1 30).toInt ≤ 1001 := aw_bd_f hs (hI82).1 (by decide) rfl
              exact ⟨(hI82).1, fr81, Or.inr ⟨_, rfl, rfl, hG75, (show _ + 1 ≤ ((S75.1 30)).toInt by omega), ⟨(show ((S75.1 30)).toInt = _ by omega), (by rw [show (S75.2.2.1 3) = S.2.2.1 3 from ((fc75.2 3 (by decide)).1.trans ((fc15.2 3 (by decide)).1.trans ((fd6.2 3 (by decide)).1.trans rfl))), if_neg (by omega)]), fun j _ => congrFun (show (S75.2.2.1 3) = S.2.2.1 3 from ((fc75.2 3 (by decide)).1.trans ((fc15.2 3 (by decide)).1.trans ((fd6.2 3 (by decide)).1.trans rfl)))) j⟩⟩⟩
        · have q23 : (1 : Int) = (0 : Int) := aw_t_ne (a := (1 : Int)) (b := (0 : Int)) hb15 rfl q23
          exfalso
          omega
end ARA21
