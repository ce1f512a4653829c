/-! TABLES AND ANSWERS TOLD (printed by wip/p2/ref/r15.py) -/
section ARA15
variable {tb : aj_T} {s : List Nat} {h : aj_H} {S S' S1 S2 : aj_S} {d n : Nat} {g g' : aw_gh} {F A : List Nat} {G : aj_S → Prop} {nm : Int64 → Prop} {fl : Bool} {la ho hu ht q t p : Nat}
theorem ar_nf (fr : aw_fr F A S1 S2) (h1 : 37 ∉ F) (h2 : 7 ∉ A) (h3 : 8 ∉ A) {N : Int64} (hn : (S1.2.2.1 7 (aw_h S1)).toInt ≤ 9 ∧ S1.2.2.2 8 (aw_h S1 * 10 + (S1.2.2.1 7 (aw_h S1)).toInt.toNat) = N) : (S2.2.2.1 7 (aw_h S2)).toInt ≤ 9 ∧ S2.2.2.2 8 (aw_h S2 * 10 + (S2.2.2.1 7 (aw_h S2)).toInt.toNat) = N := by
  have e : aw_h S2 = aw_h S1 := by
    unfold aw_h
    rw [(fr.1 37 h1).1]
  rw [e, (fr.2 7 h2).1, (fr.2 8 h3).2]
  exact hn
theorem ar_tableTold (hU : aw_U tb s h) (hT : ak_Ty ak_TN s (aj_mh h S)) (hG : aw_G (nm, false, la, 0, 0, 0) S) (hd : 7 ≤ d) (hk : (S.1 26).toInt = 4 ∧ ((S.1 29).toInt = 1 ∨ (S.1 29).toInt = 5)) : aw_K tb h d 229 [.ref 117] S (ar_QB s h [24, 25, 26, 27, 28, 29, 30, 31, 33, 34] [7, 8, 9, 14, 15, 16] S aw_B (fun S' => aw_G (nm, false, la, 0, 0, 0) S' ∧ (S.1 30).toInt + 1 ≤ (S'.1 30).toInt)) := by
  obtain ⟨d, rfl⟩ : ∃ e, d = e + 1 := ⟨d - 1, by omega⟩
  have hs : aw_sT s := aw_hy_sT hU.2.2
  refine aw_m aj_m229_at rfl (Nat.le_of_ble_eq_true rfl) ?_
  show aw_W _ _ _ _ 0 [(0, .ref 117)] [] _ _
  obtain ⟨lv1, elv1⟩ : ∃ l : aj_V, l = [(0, .ref 117)] := ⟨_, rfl⟩
  rw [← elv1]
  have hlv1_0 : aj_lv lv1 0 = some (.ref 117) := by rw [elv1]; rfl
  have hI2 : aw_I s h (aw_sm S) S := ⟨hT, aw_sm_rf⟩
  have fr3 : aw_fr [24, 25, 26, 27, 28, 29, 30, 31, 33, 34] [7, 8, 9, 14, 15, 16] S S := aw_fr_rf
  refine aw_l2 aj_d229 rfl rfl hlv1_0 ?_
  refine aw_n aj_d229 rfl rfl ?_
  have b5 : 0 ≤ (S.1 30).toInt ∧ (S.1 30).toInt ≤ 1001 := aw_bd_f hs (hI2).1 (by decide) rfl
  refine aw_k hU.1 aj_d229 rfl rfl [_] rfl rfl rfl (Nat.le_of_ble_eq_true rfl) (ar_tableName hU (hI2).1 hG (by omega) (x := (Int32.ofInt 0)) (by decide) hk) ?_
  rintro _ S4 ⟨hT4, fc4, ⟨b4, rfl, hb4, hB4⟩ | ⟨b4, rfl, hb4, hG4, ck4, t94, nf4⟩⟩
  · skip
    have fr6 := aw_fr_tr fr3 (aw_fr_sub (F := [24, 25, 26, 27, 28, 29, 30, 31, 33, 34]) (A := [8, 9]) (by decide) (by decide) fc4)
    have hI7 : aw_I s h (aw_sm S4) S4 := ⟨hT4, aw_sm_rf⟩
    show aw_W _ _ _ _ 5 lv1 [.int b4] _ _
    refine aw_z (tgt := 10) aj_d229 rfl rfl (fun q8 => ?_) (fun q8 => ?_)
    · have q8 : (0 : Int) ≠ (0 : Int) := aw_t_ne (a := (0 : Int)) (b := (0 : Int)) hb4 rfl q8
      exfalso
      omega
    · have q8 : (0 : Int) = (0 : Int) := aw_t_ne (a := (0 : Int)) (b := (0 : Int)) hb4 rfl q8
      refine aw_n aj_d229 rfl rfl ?_
      refine aw_e aj_d229 rfl rfl ?_
      exact ⟨(hI7).1, fr6, Or.inl ⟨_, rfl, rfl, hB4⟩⟩
  · skip
    have ck4 : ((S.1 30)).toInt + 1 ≤ (S4.1 30).toInt := ck4
    have fr9 := aw_fr_tr fr3 (aw_fr_sub (F := [24, 25, 26, 27, 28, 29, 30, 31, 33, 34]) (A := [8, 9]) (by decide) (by decide) fc4)
    have hI10 : aw_I s h (aw_sm S4) S4 := ⟨hT4, aw_sm_rf⟩
    show aw_W _ _ _ _ 5 lv1 [.int b4] _ _
    refine aw_z (tgt := 10) aj_d229 rfl rfl (fun q11 => ?_) (fun q11 => ?_)
    · have q11 : (1 : Int) ≠ (0 : Int) := aw_t_ne (a := (1 : Int)) (b := (0 : Int)) hb4 rfl q11
      refine aw_l2 aj_d229 rfl rfl hlv1_0 ?_
      have b12 : 0 ≤ (S.1 37).toInt ∧ (S.1 37).toInt ≤ 1 := aw_bd_f hs (hI2).1 (by decide) rfl
      have c13 : (S4.1 37).toInt = (S.1 37).toInt := (congrArg Int32.toInt (fc4.1 37 (by decide)).1).trans rfl
      have b14 : 0 ≤ (S4.1 37).toInt ∧ (S4.1 37).toInt ≤ 1 := aw_bd_f hs (hI10).1 (by decide) rfl
      refine aw_g hU.1 aj_d229 rfl rfl (by decide) (v := .int (S4.1 37)) rfl ?_
      refine aw_n aj_d229 rfl rfl ?_
      refine aw_mul aj_d229 rfl (a := (S.1 37).toInt) (b := (10 : Int)) c13 rfl (by omega) (by omega) (fun x15 ex15 => ?_)
      refine aw_l2 aj_d229 rfl rfl hlv1_0 ?_
      refine aw_g hU.1 aj_d229 rfl rfl (by decide) (v := .ref 124) rfl ?_
      refine aw_l2 aj_d229 rfl rfl hlv1_0 ?_
      refine aw_g hU.1 aj_d229 rfl rfl (by decide) (v := .int (S4.1 37)) rfl ?_
      refine aw_ld (k := 7) hU.1 aj_d229 (Or.inl ⟨rfl, rfl⟩) rfl (by decide) (by decide) rfl (a := (S.1 37).toInt) c13 (by omega) (by omega) (fun x16 ex16 => ?_)
      have bx16 : 0 ≤ x16.toInt ∧ x16.toInt ≤ 10 := by
        rw [ex16]
        exact aw_bd_a hs (hI10).1 (k := 7) (by decide) (by decide) rfl (by decide) rfl (by omega)
      have nf17 := ar_nf (aw_fr_rf : aw_fr [24, 25, 26, 27, 28, 29, 30, 31, 33, 34] [14, 15, 16] S4 S4) (by decide) (by decide) (by decide) ⟨t94, nf4⟩
      have txx16 : x16.toInt = (S4.2.2.1 7 (aw_h S4)).toInt := (congrArg Int32.toInt ex16).trans (by unfold aw_h; rw [show (S4.1 37).toInt = (S.1 37).toInt from c13])
      have t9xx16 := nf17.1
      rw [← txx16] at t9xx16
      refine aw_add aj_d229 rfl (a := x15.toInt) (b := x16.toInt) rfl rfl (by omega) (by omega) (fun x18 ex18 => ?_)
      refine aw_t0 (j := 1) aj_d229 rfl (by decide) rfl ?_
      obtain ⟨lv19, elv19⟩ : ∃ l, l = aj_set1 lv1 1 (.int x18) := ⟨_, rfl⟩
      rw [← elv19]
      have hlv19_0 : aj_lv lv19 0 = some (.ref 117) := cw_e1 elv19 hlv1_0 (by decide) (Or.inr rfl)
      have hlv19_1 : aj_lv lv19 1 = some (.int x18) := by rw [elv19]; exact ak_set1_eq _ _ _
      show aw_W _ _ _ _ 28 lv19 [] _ _
      refine aw_l2 aj_d229 rfl rfl hlv19_0 ?_
      refine aw_g hU.1 aj_d229 rfl rfl (by decide) (v := .ref 131) rfl ?_
      refine aw_l0 aj_d229 rfl rfl hlv19_1 ?_
      refine aw_n aj_d229 rfl rfl ?_
      refine aw_st (k := 14) hU.1 aj_d229 (Or.inl ⟨rfl, rfl⟩) rfl (by decide) (by decide) rfl (a := x18.toInt) rfl (by omega) (by omega) ?_
      have hI20 := aw_I_a (aw_UV hU aw_Gs_sm) (k := 14) (j := (x18.toInt).toNat) (v := aj_nar 0 (Int32.ofInt 0)) hI10 (by decide) (by decide) (by decide) rfl (by decide) (by decide) rfl (aw_bp (a := (0 : Int)) rfl (by omega) (by omega))
      have fr21 := aw_fr_a (k := 14) (j := (x18.toInt).toNat) (v := aj_nar 0 (Int32.ofInt 0)) (by decide) fr9
      have fl22 := aw_fr_a (k := 14) (j := (x18.toInt).toNat) (v := aj_nar 0 (Int32.ofInt 0)) (by decide) (aw_fr_rf : aw_fr [24, 25, 26, 27, 28, 29, 30, 31, 33, 34] [14, 15, 16] S4 S4)
      refine aw_l2 aj_d229 rfl rfl hlv19_0 ?_
      refine aw_g hU.1 aj_d229 rfl rfl (by decide) (v := .ref 132) rfl ?_
      refine aw_l0 aj_d229 rfl rfl hlv19_1 ?_
      refine aw_n aj_d229 rfl rfl ?_
      refine aw_st (k := 15) hU.1 aj_d229 (Or.inl ⟨rfl, rfl⟩) rfl (by decide) (by decide) rfl (a := x18.toInt) rfl (by omega) (by omega) ?_
      have hI23 := aw_I_a (aw_UV hU aw_Gs_sm) (k := 15) (j := (x18.toInt).toNat) (v := aj_nar 0 (Int32.ofInt 0)) hI20 (by decide) (by decide) (by decide) rfl (by decide) (by decide) rfl (aw_bp (a := (0 : Int)) rfl (by omega) (by omega))
      have fr24 := aw_fr_a (k := 15) (j := (x18.toInt).toNat) (v := aj_nar 0 (Int32.ofInt 0)) (by decide) fr21
      have fl25 := aw_fr_a (k := 15) (j := (x18.toInt).toNat) (v := aj_nar 0 (Int32.ofInt 0)) (by decide) fl22
      refine aw_l2 aj_d229 rfl rfl hlv19_0 ?_
      refine aw_n aj_d229 rfl rfl ?_
      have b26 : 0 ≤ (S4.1 30).toInt ∧ (S4.1 30).toInt ≤ 1001 := aw_bd_f hs (hI10).1 (by decide) rfl
      refine aw_k hU.1 aj_d229 rfl rfl [_] rfl rfl rfl (Nat.le_of_ble_eq_true rfl) (aw_toK hU aw_Gs_G (con := ac_c219_40) (by omega) (ar_219_40 hU.2.1 (aw_SPc hU.2.2 aw_Gs_G) aw_kpc (arc_214b hU) (arc_215 hU)) ⟨(hI23).1, (aw_G_sm hI23.2 hG4)⟩ ⟨(aw_g117 hU.2.2), (cw_gw (a := (40 : Int)) rfl (by omega) (by omega)), trivial⟩ (fun e he => nomatch he)) ?_
      rintro r27 S27 ⟨hr27, hJ27, fc27, po27, -⟩
      have hT27 := hJ27.1
      replace fc27 := aw_fr_sub (F' := [24, 25, 26, 27, 28, 29, 30, 31]) (A' := []) (by decide) (by decide) fc27
      rcases ar_bool hU (hI23).1 hT27 hr27 po27 with ⟨b27, rfl, hb27, cf27⟩ | ⟨b27, rfl, hb27, ck27, gq27⟩
      · skip
        have cf27 : (S4.1 30).toInt + 0 ≤ (S27.1 30).toInt := cf27
        have fr28 := aw_fr_tr fr24 (aw_fr_sub (F := [24, 25, 26, 27, 28, 29, 30, 31]) (A := []) (by decide) (by decide) fc27)
        have fl29 := aw_fr_tr fl25 (aw_fr_sub (F := [24, 25, 26, 27, 28, 29, 30, 31]) (A := []) (by decide) (by decide) fc27)
        have hI30 : aw_I s h (aw_sm S27) S27 := ⟨hT27, aw_sm_rf⟩
        show aw_W _ _ _ _ 48 lv19 [.int b27] _ _
        refine aw_z (tgt := 59) aj_d229 rfl rfl (fun q31 => ?_) (fun q31 => ?_)
        · have q31 : (0 : Int) = (0 : Int) := aw_t_eq (a := (0 : Int)) (b := (0 : Int)) hb27 rfl q31
          refine aw_n aj_d229 rfl rfl ?_
          refine aw_e aj_d229 rfl rfl ?_
          exact ⟨(hI30).1, fr28, Or.inl ⟨_, rfl, rfl, aw_G_B hJ27.2⟩⟩
        · have q31 : (0 : Int) ≠ (0 : Int) := aw_t_eq (a := (0 : Int)) (b := (0 : Int)) hb27 rfl q31
          exfalso
          omega
      · skip
        have ck27 : (S4.1 30).toInt + 1 ≤ (S27.1 30).toInt := ck27
        have fr32 := aw_fr_tr fr24 (aw_fr_sub (F := [24, 25, 26, 27, 28, 29, 30, 31]) (A := []) (by decide) (by decide) fc27)
        have fl33 := aw_fr_tr fl25 (aw_fr_sub (F := [24, 25, 26, 27, 28, 29, 30, 31]) (A := []) (by decide) (by decide) fc27)
        have hI34 : aw_I s h (aw_sm S27) S27 := ⟨hT27, aw_sm_rf⟩
        show aw_W _ _ _ _ 48 lv19 [.int b27] _ _
        refine aw_z (tgt := 59) aj_d229 rfl rfl (fun q35 => ?_) (fun q35 => ?_)
        · have q35 : (1 : Int) = (0 : Int) := aw_t_eq (a := (1 : Int)) (b := (0 : Int)) hb27 rfl q35
          exfalso
          omega
        · have q35 : (1 : Int) ≠ (0 : Int) := aw_t_eq (a := (1 : Int)) (b := (0 : Int)) hb27 rfl q35
          refine aw_l2 aj_d229 rfl rfl hlv19_0 ?_
          refine aw_l0 aj_d229 rfl rfl hlv19_1 ?_
          have b37 : 0 ≤ (S27.1 30).toInt ∧ (S27.1 30).toInt ≤ 1001 := aw_bd_f hs (hI34).1 (by decide) rfl
          refine aw_k hU.1 aj_d229 rfl rfl [_] rfl rfl rfl (Nat.le_of_ble_eq_true rfl) (ar_columnTold hU (hI34).1 hJ27.2 (by omega) (x := x18) (by omega) (by rw [show (S27.2.2.1 15) = upd ((aw_wa S4 14 (x18.toInt).toNat (aj_nar 0 (Int32.ofInt 0))).2.2.1 15) (x18.toInt).toNat (aj_nar 0 (Int32.ofInt 0)) from (fc27.2 15 (by decide)).1]; unfold upd; rw [if_pos rfl]; decide)) ?_
          rintro _ S36 ⟨hT36, fc36, ⟨b36, rfl, hb36, hG36, ck36⟩ | ⟨b36, rfl, hb36, hG36, ck36, cc36⟩⟩
          · skip
            have ck36 : ((S27.1 30)).toInt ≤ (S36.1 30).toInt := ck36
            have fr38 := aw_fr_tr fr32 (aw_fr_sub (F := [24, 25, 26, 27, 28, 29, 30, 31, 33, 34]) (A := [15, 16]) (by decide) (by decide) fc36)
            have fl39 := aw_fr_tr fl33 (aw_fr_sub (F := [24, 25, 26, 27, 28, 29, 30, 31, 33, 34]) (A := [15, 16]) (by decide) (by decide) fc36)
            have hI40 : aw_I s h (aw_sm S36) S36 := ⟨hT36, aw_sm_rf⟩
            show aw_W _ _ _ _ 56 lv19 [.int b36] _ _
            refine aw_z (tgt := 61) aj_d229 rfl rfl (fun q41 => ?_) (fun q41 => ?_)
            · have q41 : (0 : Int) ≠ (0 : Int) := aw_t_ne (a := (0 : Int)) (b := (0 : Int)) hb36 rfl q41
              exfalso
              omega
            · have q41 : (0 : Int) = (0 : Int) := aw_t_ne (a := (0 : Int)) (b := (0 : Int)) hb36 rfl q41
              refine aw_n aj_d229 rfl rfl ?_
              refine aw_e aj_d229 rfl rfl ?_
              exact ⟨(hI40).1, fr38, Or.inl ⟨_, rfl, rfl, aw_G_B hG36⟩⟩
          · skip
            have ck36 : ((S27.1 30)).toInt + 1 ≤ (S36.1 30).toInt := ck36
            have fr42 := aw_fr_tr fr32 (aw_fr_sub (F := [24, 25, 26, 27, 28, 29, 30, 31, 33, 34]) (A := [15, 16]) (by decide) (by decide) fc36)
            have fl43 := aw_fr_tr fl33 (aw_fr_sub (F := [24, 25, 26, 27, 28, 29, 30, 31, 33, 34]) (A := [15, 16]) (by decide) (by decide) fc36)
            have hI44 : aw_I s h (aw_sm S36) S36 := ⟨hT36, aw_sm_rf⟩
            show aw_W _ _ _ _ 56 lv19 [.int b36] _ _
            refine aw_z (tgt := 61) aj_d229 rfl rfl (fun q45 => ?_) (fun q45 => ?_)
            · have q45 : (1 : Int) ≠ (0 : Int) := aw_t_ne (a := (1 : Int)) (b := (0 : Int)) hb36 rfl q45
              have L61_45 : ∀ (N : Nat) (S47 : aj_S) (lv48 : aj_V), (aj_lv lv48 0 = some (.ref 117)) → (aj_lv lv48 1 = some (.int x18)) → (aw_I s h (aw_G (nm, false, la, 0, 0, aw_tJ S)) S47) → (aw_fr [24, 25, 26, 27, 28, 29, 30, 31, 33, 34] [7, 8, 9, 14, 15, 16] S S47) → (aw_fr [24, 25, 26, 27, 28, 29, 30, 31, 33, 34] [15, 16] S36 S47) → (0 ≤ (S47.2.2.1 15 (x18.toInt).toNat).toInt ∧ (S47.2.2.1 15 (x18.toInt).toNat).toInt ≤ 4) → ((S.1 30).toInt + 1 ≤ (S47.1 30).toInt) → (1001 - (S47.1 30).toInt).toNat < N → aw_W tb h d aj_m229 61 lv48 [] S47 ((ar_QB s h [24, 25, 26, 27, 28, 29, 30, 31, 33, 34] [7, 8, 9, 14, 15, 16] S aw_B (fun S' => aw_G (nm, false, la, 0, 0, 0) S' ∧ (S.1 30).toInt + 1 ≤ (S'.1 30).toInt))) := by
                intro N
                induction N with
                | zero =>
                  intro S47 lv48  hlv48_0 hlv48_1 hI49 fr50 fl51 cc61 cl61 hm
                  omega
                | succ N ihL61_45 =>
                  intro S47 lv48  hlv48_0 hlv48_1 hI49 fr50 fl51 cc61 cl61 hm
                  have hI52 : aw_I s h (aw_sm S47) S47 := ⟨hI49.1, aw_sm_rf⟩
                  have fl53 := aw_fr_tr fl43 (aw_fr_sub (F := [24, 25, 26, 27, 28, 29, 30, 31, 33, 34]) (A := [15, 16]) (by decide) (by decide) fl51)
                  have b54 : 0 ≤ (S47.1 30).toInt ∧ (S47.1 30).toInt ≤ 1001 := aw_bd_f hs (hI52).1 (by decide) rfl
                  refine aw_l2 aj_d229 rfl rfl hlv48_0 ?_
                  refine aw_n aj_d229 rfl rfl ?_
                  refine aw_k hU.1 aj_d229 rfl rfl [_] rfl rfl rfl (Nat.le_of_ble_eq_true rfl) (ar_isSign hU (by omega) (b := (44 : Int)) rfl) ?_
                  have b57 : 0 ≤ (S47.1 26).toInt ∧ (S47.1 26).toInt ≤ 5 := aw_bd_f hs (hI52).1 (by decide) rfl
                  rintro _ S56 ⟨eS56, b55, rfl, kb55⟩
                  rw [eS56]
                  rcases kb55 with ⟨hb55, pb55, qb55⟩ | ⟨hb55, pb55⟩
                  · skip
                    have pb55 : ((S47.1 26)).toInt = 3 := pb55
                    have qb55 : ((S47.1 29)).toInt = (44 : Int) := qb55
                    show aw_W _ _ _ _ 67 lv48 [.int b55] _ _
                    refine aw_z (tgt := 87) aj_d229 rfl rfl (fun q58 => ?_) (fun q58 => ?_)
                    · have q58 : (1 : Int) = (0 : Int) := aw_t_eq (a := (1 : Int)) (b := (0 : Int)) hb55 rfl q58
                      exfalso
                      omega
                    · have q58 : (1 : Int) ≠ (0 : Int) := aw_t_eq (a := (1 : Int)) (b := (0 : Int)) hb55 rfl q58
                      refine aw_l2 aj_d229 rfl rfl hlv48_0 ?_
                      refine aw_k hU.1 aj_d229 rfl rfl [] rfl rfl rfl (Nat.le_of_ble_eq_true rfl) (ar_pass hU (hI52).1 hI49.2 (by omega) (show ((S47.1 26)).toInt ≠ 0 by omega) (show ¬ (((S47.1 26)).toInt = 3 ∧ ((S47.1 29)).toInt = 63) by omega) (show ((S47.1 26)).toInt = 4 → ((S47.1 29)).toInt = 3 ∨ 6 ≤ ((S47.1 29)).toInt by omega)) ?_
                      rintro _ S59 ⟨hT59, fc59, ⟨b59, rfl, hb59, hG59, fd59, hz59⟩ | ⟨b59, rfl, hb59, hG59, ck59, fd59, cj59⟩⟩
                      · skip
                        have fr60 := aw_fr_tr fr50 (aw_fr_sub (F := [24, 25, 31]) (A := []) (by decide) (by decide) fd59)
                        have fl61 := aw_fr_tr fl53 (aw_fr_sub (F := [24, 25, 31]) (A := []) (by decide) (by decide) fd59)
                        have fl62 := aw_fr_tr fl51 (aw_fr_sub (F := [24, 25, 31]) (A := []) (by decide) (by decide) fd59)
                        have hI63 : aw_I s h (aw_sm S59) S59 := ⟨hT59, aw_sm_rf⟩
                        show aw_W _ _ _ _ 74 lv48 [.int b59] _ _
                        refine aw_z (tgt := 85) aj_d229 rfl rfl (fun q64 => ?_) (fun q64 => ?_)
                        · have q64 : (0 : Int) = (0 : Int) := aw_t_eq (a := (0 : Int)) (b := (0 : Int)) hb59 rfl q64
                          refine aw_n aj_d229 rfl rfl ?_
                          refine aw_e aj_d229 rfl rfl ?_
                          exact ⟨(hI63).1, fr60, Or.inl ⟨_, rfl, rfl, aw_G_B hG59⟩⟩
                        · have q64 : (0 : Int) ≠ (0 : Int) := aw_t_eq (a := (0 : Int)) (b := (0 : Int)) hb59 rfl q64
                          exfalso
                          omega
                      · skip
                        have cj59 : (S59.1 30).toInt = ((S47.1 30)).toInt + 1 := cj59
                        have fr65 := aw_fr_tr fr50 (aw_fr_sub (F := [26, 27, 28, 29, 30]) (A := []) (by decide) (by decide) fd59)
                        have fl66 := aw_fr_tr fl53 (aw_fr_sub (F := [26, 27, 28, 29, 30]) (A := []) (by decide) (by decide) fd59)
                        have fl67 := aw_fr_tr fl51 (aw_fr_sub (F := [26, 27, 28, 29, 30]) (A := []) (by decide) (by decide) fd59)
                        have hI68 : aw_I s h (aw_sm S59) S59 := ⟨hT59, aw_sm_rf⟩
                        show aw_W _ _ _ _ 74 lv48 [.int b59] _ _
                        refine aw_z (tgt := 85) aj_d229 rfl rfl (fun q69 => ?_) (fun q69 => ?_)
                        · have q69 : (1 : Int) = (0 : Int) := aw_t_eq (a := (1 : Int)) (b := (0 : Int)) hb59 rfl q69
                          exfalso
                          omega
                        · have q69 : (1 : Int) ≠ (0 : Int) := aw_t_eq (a := (1 : Int)) (b := (0 : Int)) hb59 rfl q69
                          refine aw_l2 aj_d229 rfl rfl hlv48_0 ?_
                          refine aw_l0 aj_d229 rfl rfl hlv48_1 ?_
                          have b71 : 0 ≤ (S59.1 30).toInt ∧ (S59.1 30).toInt ≤ 1001 := aw_bd_f hs (hI68).1 (by decide) rfl
                          refine aw_k hU.1 aj_d229 rfl rfl [_] rfl rfl rfl (Nat.le_of_ble_eq_true rfl) (ar_columnTold hU (hI68).1 hG59 (by omega) (x := x18) (by omega) (by rw [show (S59.2.2.1 15) = S47.2.2.1 15 from ((fd59.2 15 (by decide)).1.trans rfl)]; exact cc61)) ?_
                          rintro _ S70 ⟨hT70, fc70, ⟨b70, rfl, hb70, hG70, ck70⟩ | ⟨b70, rfl, hb70, hG70, ck70, cc70⟩⟩
                          · skip
                            have ck70 : ((S59.1 30)).toInt ≤ (S70.1 30).toInt := ck70
                            have fr72 := aw_fr_tr fr65 (aw_fr_sub (F := [24, 25, 26, 27, 28, 29, 30, 31, 33, 34]) (A := [15, 16]) (by decide) (by decide) fc70)
                            have fl73 := aw_fr_tr fl66 (aw_fr_sub (F := [24, 25, 26, 27, 28, 29, 30, 31, 33, 34]) (A := [15, 16]) (by decide) (by decide) fc70)
                            have fl74 := aw_fr_tr fl67 (aw_fr_sub (F := [24, 25, 26, 27, 28, 29, 30, 31, 33, 34]) (A := [15, 16]) (by decide) (by decide) fc70)
                            have hI75 : aw_I s h (aw_sm S70) S70 := ⟨hT70, aw_sm_rf⟩
                            show aw_W _ _ _ _ 82 lv48 [.int b70] _ _
                            refine aw_z (tgt := 61) aj_d229 rfl rfl (fun q76 => ?_) (fun q76 => ?_)
                            · have q76 : (0 : Int) ≠ (0 : Int) := aw_t_ne (a := (0 : Int)) (b := (0 : Int)) hb70 rfl q76
                              exfalso
                              omega
                            · have q76 : (0 : Int) = (0 : Int) := aw_t_ne (a := (0 : Int)) (b := (0 : Int)) hb70 rfl q76
                              refine aw_n aj_d229 rfl rfl ?_
                              refine aw_e aj_d229 rfl rfl ?_
                              exact ⟨(hI75).1, fr72, Or.inl ⟨_, rfl, rfl, aw_G_B hG70⟩⟩
                          · skip
                            have ck70 : ((S59.1 30)).toInt + 1 ≤ (S70.1 30).toInt := ck70
                            have fr77 := aw_fr_tr fr65 (aw_fr_sub (F := [24, 25, 26, 27, 28, 29, 30, 31, 33, 34]) (A := [15, 16]) (by decide) (by decide) fc70)
                            have fl78 := aw_fr_tr fl66 (aw_fr_sub (F := [24, 25, 26, 27, 28, 29, 30, 31, 33, 34]) (A := [15, 16]) (by decide) (by decide) fc70)
                            have fl79 := aw_fr_tr fl67 (aw_fr_sub (F := [24, 25, 26, 27, 28, 29, 30, 31, 33, 34]) (A := [15, 16]) (by decide) (by decide) fc70)
                            have hI80 : aw_I s h (aw_sm S70) S70 := ⟨hT70, aw_sm_rf⟩
                            show aw_W _ _ _ _ 82 lv48 [.int b70] _ _
                            refine aw_z (tgt := 61) aj_d229 rfl rfl (fun q81 => ?_) (fun q81 => ?_)
                            · have q81 : (1 : Int) ≠ (0 : Int) := aw_t_ne (a := (1 : Int)) (b := (0 : Int)) hb70 rfl q81
                              have b82 : 0 ≤ (S70.1 30).toInt ∧ (S70.1 30).toInt ≤ 1001 := aw_bd_f hs (hI80).1 (by decide) rfl
                              exact ihL61_45 S70 lv48 hlv48_0 hlv48_1 ⟨(hI80).1, hG70⟩ fr77 fl79 cc70 (show _ ≤ ((S70.1 30)).toInt by omega) (show (1001 - ((S70.1 30)).toInt).toNat < _ by omega)
                            · have q81 : (1 : Int) = (0 : Int) := aw_t_ne (a := (1 : Int)) (b := (0 : Int)) hb70 rfl q81
                              exfalso
                              omega
                  · skip
                    clear pb55
                    show aw_W _ _ _ _ 67 lv48 [.int b55] _ _
                    refine aw_z (tgt := 87) aj_d229 rfl rfl (fun q83 => ?_) (fun q83 => ?_)
                    · have q83 : (0 : Int) = (0 : Int) := aw_t_eq (a := (0 : Int)) (b := (0 : Int)) hb55 rfl q83
                      refine aw_l2 aj_d229 rfl rfl hlv48_0 ?_
                      refine aw_n aj_d229 rfl rfl ?_
                      refine aw_k hU.1 aj_d229 rfl rfl [_] rfl rfl rfl (Nat.le_of_ble_eq_true rfl) (aw_toK hU aw_Gs_G (con := ac_c219_41) (by omega) (ar_219_41 hU.2.1 (aw_SPc hU.2.2 aw_Gs_G) aw_kpc (arc_214b hU) (arc_215 hU)) ⟨(hI52).1, hI49.2⟩ ⟨(aw_g117 hU.2.2), (cw_gw (a := (41 : Int)) rfl (by omega) (by omega)), trivial⟩ (fun e he => nomatch he)) ?_
                      rintro r84 S84 ⟨hr84, hJ84, fc84, po84, -⟩
                      have hT84 := hJ84.1
                      replace fc84 := aw_fr_sub (F' := [24, 25, 26, 27, 28, 29, 30, 31]) (A' := []) (by decide) (by decide) fc84
                      rcases ar_bool hU (hI52).1 hT84 hr84 po84 with ⟨b84, rfl, hb84, cf84⟩ | ⟨b84, rfl, hb84, ck84, gq84⟩
                      · skip
                        have cf84 : (S47.1 30).toInt + 0 ≤ (S84.1 30).toInt := cf84
                        have fr85 := aw_fr_tr fr50 (aw_fr_sub (F := [24, 25, 26, 27, 28, 29, 30, 31]) (A := []) (by decide) (by decide) fc84)
                        have fl86 := aw_fr_tr fl53 (aw_fr_sub (F := [24, 25, 26, 27, 28, 29, 30, 31]) (A := []) (by decide) (by decide) fc84)
                        have hI87 : aw_I s h (aw_sm S84) S84 := ⟨hT84, aw_sm_rf⟩
                        show aw_W _ _ _ _ 93 lv48 [.int b84] _ _
                        refine aw_z (tgt := 105) aj_d229 rfl rfl (fun q88 => ?_) (fun q88 => ?_)
                        · have q88 : (0 : Int) = (0 : Int) := aw_t_eq (a := (0 : Int)) (b := (0 : Int)) hb84 rfl q88
                          refine aw_n aj_d229 rfl rfl ?_
                          refine aw_e aj_d229 rfl rfl ?_
                          exact ⟨(hI87).1, fr85, Or.inl ⟨_, rfl, rfl, aw_G_B hJ84.2⟩⟩
                        · have q88 : (0 : Int) ≠ (0 : Int) := aw_t_eq (a := (0 : Int)) (b := (0 : Int)) hb84 rfl q88
                          exfalso
                          omega
                      · skip
                        have ck84 : (S47.1 30).toInt + 1 ≤ (S84.1 30).toInt := ck84
                        have fr89 := aw_fr_tr fr50 (aw_fr_sub (F := [24, 25, 26, 27, 28, 29, 30, 31]) (A := []) (by decide) (by decide) fc84)
                        have fl90 := aw_fr_tr fl53 (aw_fr_sub (F := [24, 25, 26, 27, 28, 29, 30, 31]) (A := []) (by decide) (by decide) fc84)
                        have hI91 : aw_I s h (aw_sm S84) S84 := ⟨hT84, aw_sm_rf⟩
                        show aw_W _ _ _ _ 93 lv48 [.int b84] _ _
                        refine aw_z (tgt := 105) aj_d229 rfl rfl (fun q92 => ?_) (fun q92 => ?_)
                        · have q92 : (1 : Int) = (0 : Int) := aw_t_eq (a := (1 : Int)) (b := (0 : Int)) hb84 rfl q92
                          exfalso
                          omega
                        · have q92 : (1 : Int) ≠ (0 : Int) := aw_t_eq (a := (1 : Int)) (b := (0 : Int)) hb84 rfl q92
                          refine aw_l2 aj_d229 rfl rfl hlv48_0 ?_
                          refine aw_n aj_d229 rfl rfl ?_
                          have b93 : 0 ≤ (S84.1 30).toInt ∧ (S84.1 30).toInt ≤ 1001 := aw_bd_f hs (hI91).1 (by decide) rfl
                          refine aw_k hU.1 aj_d229 rfl rfl [_] rfl rfl rfl (Nat.le_of_ble_eq_true rfl) (aw_toK hU aw_Gs_G (con := ac_c219_59) (by omega) (ar_219_59 hU.2.1 (aw_SPc hU.2.2 aw_Gs_G) aw_kpc (arc_214b hU) (arc_215 hU)) ⟨(hI91).1, hJ84.2⟩ ⟨(aw_g117 hU.2.2), (cw_gw (a := (59 : Int)) rfl (by omega) (by omega)), trivial⟩ (fun e he => nomatch he)) ?_
                          rintro r94 S94 ⟨hr94, hJ94, fc94, po94, -⟩
                          have hT94 := hJ94.1
                          replace fc94 := aw_fr_sub (F' := [24, 25, 26, 27, 28, 29, 30, 31]) (A' := []) (by decide) (by decide) fc94
                          rcases ar_bool hU (hI91).1 hT94 hr94 po94 with ⟨b94, rfl, hb94, cf94⟩ | ⟨b94, rfl, hb94, ck94, gq94⟩
                          · skip
                            have cf94 : (S84.1 30).toInt + 0 ≤ (S94.1 30).toInt := cf94
                            have fr95 := aw_fr_tr fr89 (aw_fr_sub (F := [24, 25, 26, 27, 28, 29, 30, 31]) (A := []) (by decide) (by decide) fc94)
                            have fl96 := aw_fr_tr fl90 (aw_fr_sub (F := [24, 25, 26, 27, 28, 29, 30, 31]) (A := []) (by decide) (by decide) fc94)
                            have hI97 : aw_I s h (aw_sm S94) S94 := ⟨hT94, aw_sm_rf⟩
                            show aw_W _ _ _ _ 102 lv48 [.int b94] _ _
                            refine aw_z (tgt := 107) aj_d229 rfl rfl (fun q98 => ?_) (fun q98 => ?_)
                            · have q98 : (0 : Int) ≠ (0 : Int) := aw_t_ne (a := (0 : Int)) (b := (0 : Int)) hb94 rfl q98
                              exfalso
                              omega
                            · have q98 : (0 : Int) = (0 : Int) := aw_t_ne (a := (0 : Int)) (b := (0 : Int)) hb94 rfl q98
                              refine aw_n aj_d229 rfl rfl ?_
                              refine aw_e aj_d229 rfl rfl ?_
                              exact ⟨(hI97).1, fr95, Or.inl ⟨_, rfl, rfl, aw_G_B hJ94.2⟩⟩
                          · skip
                            have ck94 : (S84.1 30).toInt + 1 ≤ (S94.1 30).toInt := ck94
                            have fr99 := aw_fr_tr fr89 (aw_fr_sub (F := [24, 25, 26, 27, 28, 29, 30, 31]) (A := []) (by decide) (by decide) fc94)
                            have fl100 := aw_fr_tr fl90 (aw_fr_sub (F := [24, 25, 26, 27, 28, 29, 30, 31]) (A := []) (by decide) (by decide) fc94)
                            have hI101 : aw_I s h (aw_sm S94) S94 := ⟨hT94, aw_sm_rf⟩
                            show aw_W _ _ _ _ 102 lv48 [.int b94] _ _
                            refine aw_z (tgt := 107) aj_d229 rfl rfl (fun q102 => ?_) (fun q102 => ?_)
                            · have q102 : (1 : Int) ≠ (0 : Int) := aw_t_ne (a := (1 : Int)) (b := (0 : Int)) hb94 rfl q102
                              refine aw_l2 aj_d229 rfl rfl hlv48_0 ?_
                              refine aw_g hU.1 aj_d229 rfl rfl (by decide) (v := .ref 124) rfl ?_
                              refine aw_l2 aj_d229 rfl rfl hlv48_0 ?_
                              have c103 : (S27.1 37).toInt = (S.1 37).toInt := (congrArg Int32.toInt (fc27.1 37 (by decide)).1).trans c13
                              have b104 : 0 ≤ (S27.1 37).toInt ∧ (S27.1 37).toInt ≤ 1 := aw_bd_f hs (hI34).1 (by decide) rfl
                              have c105 : (S36.1 37).toInt = (S.1 37).toInt := (congrArg Int32.toInt (fc36.1 37 (by decide)).1).trans c103
                              have b106 : 0 ≤ (S36.1 37).toInt ∧ (S36.1 37).toInt ≤ 1 := aw_bd_f hs (hI44).1 (by decide) rfl
                              have c107 : (S47.1 37).toInt = (S.1 37).toInt := (congrArg Int32.toInt (fl51.1 37 (by decide)).1).trans c105
                              have b108 : 0 ≤ (S47.1 37).toInt ∧ (S47.1 37).toInt ≤ 1 := aw_bd_f hs (hI52).1 (by decide) rfl
                              have c109 : (S84.1 37).toInt = (S.1 37).toInt := (congrArg Int32.toInt (fc84.1 37 (by decide)).1).trans c107
                              have b110 : 0 ≤ (S84.1 37).toInt ∧ (S84.1 37).toInt ≤ 1 := aw_bd_f hs (hI91).1 (by decide) rfl
                              have c111 : (S94.1 37).toInt = (S.1 37).toInt := (congrArg Int32.toInt (fc94.1 37 (by decide)).1).trans c109
                              have b112 : 0 ≤ (S94.1 37).toInt ∧ (S94.1 37).toInt ≤ 1 := aw_bd_f hs (hI101).1 (by decide) rfl
                              refine aw_g hU.1 aj_d229 rfl rfl (by decide) (v := .int (S94.1 37)) rfl ?_
                              refine aw_n aj_d229 rfl rfl ?_
                              refine aw_ld (k := 7) hU.1 aj_d229 (Or.inl ⟨rfl, rfl⟩) rfl (by decide) (by decide) rfl (a := (S.1 37).toInt) c111 (by omega) (by omega) (fun x113 ex113 => ?_)
                              have bx113 : 0 ≤ x113.toInt ∧ x113.toInt ≤ 10 := by
                                rw [ex113]
                                exact aw_bd_a hs (hI101).1 (k := 7) (by decide) (by decide) rfl (by decide) rfl (by omega)
                              have nf114 := ar_nf fl100 (by decide) (by decide) (by decide) ⟨t94, nf4⟩
                              have txx113 : x113.toInt = (S94.2.2.1 7 (aw_h S94)).toInt := (congrArg Int32.toInt ex113).trans (by unfold aw_h; rw [show (S94.1 37).toInt = (S.1 37).toInt from c111])
                              have t9xx113 := nf114.1
                              rw [← txx113] at t9xx113
                              refine aw_n aj_d229 rfl rfl ?_
                              refine aw_add aj_d229 rfl (a := x113.toInt) (b := (1 : Int)) rfl rfl (by omega) (by omega) (fun x115 ex115 => ?_)
                              refine aw_st (k := 7) hU.1 aj_d229 (Or.inl ⟨rfl, rfl⟩) rfl (by decide) (by decide) rfl (a := (S.1 37).toInt) c111 (by omega) (by omega) ?_
                              have hI116 : aw_I s h (aw_sm (aw_wa S94 7 ((S.1 37).toInt).toNat (aj_nar 0 x115))) (aw_wa S94 7 ((S.1 37).toInt).toNat (aj_nar 0 x115)) := ⟨aw_T_a hU.2.1 hs hU.1.1 (hI101).1 (by decide) (by decide) rfl (by decide) (by decide) rfl (aw_bp (a := x115.toInt) rfl (by omega) (by omega)), aw_sm_rf⟩
                              have fr117 := aw_fr_a (k := 7) (j := ((S.1 37).toInt).toNat) (v := aj_nar 0 x115) (by decide) fr99
                              have hG118 : aw_G (nm, false, la, 0, 0, 0) (aw_wa S94 7 ((S.1 37).toInt).toNat (aj_nar 0 x115)) := aw_G_tt hJ94.2 (by have := hG.1.1; omega) (by show ((S.1 37).toInt).toNat = _; unfold aw_h; rw [show (S94.1 37).toInt = (S.1 37).toInt from c111]) (by rw [nf114.2, aw_fr_tT fr99 (by decide) (by decide), show aw_tF S94 = aw_tF S from (fr99.2 21 (by decide)).1]) (by show (x115).toInt = _; omega)
                              have hI119 : aw_I s h (aw_sm (aw_wa S94 7 ((S.1 37).toInt).toNat (aj_nar 0 x115))) (aw_wa S94 7 ((S.1 37).toInt).toNat (aj_nar 0 x115)) := ⟨(hI116).1, aw_sm_rf⟩
                              refine aw_n aj_d229 rfl rfl ?_
                              refine aw_e aj_d229 rfl rfl ?_
                              have b120 : 0 ≤ (S94.1 30).toInt ∧ (S94.1 30).toInt ≤ 1001 := aw_bd_f hs (hI101).1 (by decide) rfl
                              exact ⟨(hI119).1, fr117, Or.inr ⟨_, rfl, rfl, hG118, (show _ + 1 ≤ ((S94.1 30)).toInt by omega)⟩⟩
                            · have q102 : (1 : Int) = (0 : Int) := aw_t_ne (a := (1 : Int)) (b := (0 : Int)) hb94 rfl q102
                              exfalso
                              omega
                    · have q83 : (0 : Int) ≠ (0 : Int) := aw_t_eq (a := (0 : Int)) (b := (0 : Int)) hb55 rfl q83
                      exfalso
                      omega
              have b121 : 0 ≤ (S36.1 30).toInt ∧ (S36.1 30).toInt ≤ 1001 := aw_bd_f hs (hI44).1 (by decide) rfl
              exact L61_45 _ S36 lv19 hlv19_0 hlv19_1 ⟨(hI44).1, hG36⟩ fr42 (aw_fr_rf : aw_fr [24, 25, 26, 27, 28, 29, 30, 31, 33, 34] [15, 16] S36 S36) cc36 (show _ ≤ ((S36.1 30)).toInt by omega) (Nat.lt_succ_self _)
            · have q45 : (1 : Int) = (0 : Int) := aw_t_ne (a := (1 : Int)) (b := (0 : Int)) hb36 rfl q45
              exfalso
              omega
    · have q11 : (1 : Int) = (0 : Int) := aw_t_ne (a := (1 : Int)) (b := (0 : Int)) hb4 rfl q11
      exfalso
      omega
theorem ar_answerTold (hU : aw_U tb s h) (hT : ak_Ty ak_TN s (aj_mh h S)) (hG : aw_G (nm, false, la, 0, 0, 0) S) (hd : 11 ≤ d) (hk : (S.1 26).toInt = 4 ∧ ((S.1 29).toInt = 1 ∨ (S.1 29).toInt = 5)) : aw_K tb h d 248 [.ref 117] S (ar_QB s h [24, 25, 26, 27, 28, 29, 30, 31, 33, 34, 35, 36, 38, 39, 40, 46, 47, 50, 51, 52, 53, 54, 56, 58] [7, 8, 9, 14, 15, 16, 17, 18, 19, 23, 24, 25, 26, 27] S aw_B (fun S' => aw_G (nm, false, la, 0, 0, 0) S' ∧ (S.1 30).toInt + 1 ≤ (S'.1 30).toInt)) := by
  obtain ⟨d, rfl⟩ : ∃ e, d = e + 1 := ⟨d - 1, by omega⟩
  have hs : aw_sT s := aw_hy_sT hU.2.2
  refine aw_m aj_m248_at rfl (Nat.le_of_ble_eq_true rfl) ?_
  show aw_W _ _ _ _ 0 [(0, .ref 117)] [] _ _
  obtain ⟨lv122, elv122⟩ : ∃ l : aj_V, l = [(0, .ref 117)] := ⟨_, rfl⟩
  rw [← elv122]
  have hlv122_0 : aj_lv lv122 0 = some (.ref 117) := by rw [elv122]; rfl
  have hI123 : aw_I s h (aw_sm S) S := ⟨hT, aw_sm_rf⟩
  have fr124 : aw_fr [24, 25, 26, 27, 28, 29, 30, 31, 33, 34, 35, 36, 38, 39, 40, 46, 47, 50, 51, 52, 53, 54, 56, 58] [7, 8, 9, 14, 15, 16, 17, 18, 19, 23, 24, 25, 26, 27] S S := aw_fr_rf
  refine aw_l2 aj_d248 rfl rfl hlv122_0 ?_
  refine aw_n aj_d248 rfl rfl ?_
  have b126 : 0 ≤ (S.1 30).toInt ∧ (S.1 30).toInt ≤ 1001 := aw_bd_f hs (hI123).1 (by decide) rfl
  refine aw_k hU.1 aj_d248 rfl rfl [_] rfl rfl rfl (Nat.le_of_ble_eq_true rfl) (ar_tableName hU (hI123).1 hG (by omega) (x := (Int32.ofInt 1)) (by decide) hk) ?_
  rintro _ S125 ⟨hT125, fc125, ⟨b125, rfl, hb125, hB125⟩ | ⟨b125, rfl, hb125, hG125, ck125, t9125, nf125⟩⟩
  · skip
    have fr127 := aw_fr_tr fr124 (aw_fr_sub (F := [24, 25, 26, 27, 28, 29, 30, 31, 33, 34]) (A := [8, 9]) (by decide) (by decide) fc125)
    have hI128 : aw_I s h (aw_sm S125) S125 := ⟨hT125, aw_sm_rf⟩
    show aw_W _ _ _ _ 5 lv122 [.int b125] _ _
    refine aw_z (tgt := 10) aj_d248 rfl rfl (fun q129 => ?_) (fun q129 => ?_)
    · have q129 : (0 : Int) ≠ (0 : Int) := aw_t_ne (a := (0 : Int)) (b := (0 : Int)) hb125 rfl q129
      exfalso
      omega
    · have q129 : (0 : Int) = (0 : Int) := aw_t_ne (a := (0 : Int)) (b := (0 : Int)) hb125 rfl q129
      refine aw_n aj_d248 rfl rfl ?_
      refine aw_e aj_d248 rfl rfl ?_
      exact ⟨(hI128).1, fr127, Or.inl ⟨_, rfl, rfl, hB125⟩⟩
  · skip
    have ck125 : ((S.1 30)).toInt + 1 ≤ (S125.1 30).toInt := ck125
    have fr130 := aw_fr_tr fr124 (aw_fr_sub (F := [24, 25, 26, 27, 28, 29, 30, 31, 33, 34]) (A := [8, 9]) (by decide) (by decide) fc125)
    have hI131 : aw_I s h (aw_sm S125) S125 := ⟨hT125, aw_sm_rf⟩
    show aw_W _ _ _ _ 5 lv122 [.int b125] _ _
    refine aw_z (tgt := 10) aj_d248 rfl rfl (fun q132 => ?_) (fun q132 => ?_)
    · have q132 : (1 : Int) ≠ (0 : Int) := aw_t_ne (a := (1 : Int)) (b := (0 : Int)) hb125 rfl q132
      refine aw_l2 aj_d248 rfl rfl hlv122_0 ?_
      refine aw_g hU.1 aj_d248 rfl rfl (by decide) (v := .long (S125.2.1 33)) rfl ?_
      refine aw_t1 (j := 1) aj_d248 rfl (by decide) rfl ?_
      obtain ⟨lv133, elv133⟩ : ∃ l, l = aj_set2 lv122 1 (.long (S125.2.1 33)) := ⟨_, rfl⟩
      rw [← elv133]
      have hlv133_0 : aj_lv lv133 0 = some (.ref 117) := cw_e2 elv133 hlv122_0 (by decide) (by decide) (Or.inr rfl)
      have hlv133_1 : aj_lv lv133 1 = some (.long (S125.2.1 33)) := by rw [elv133]; exact ak_set2_eq _ _ _
      show aw_W _ _ _ _ 15 lv133 [] _ _
      refine aw_l2 aj_d248 rfl rfl hlv133_0 ?_
      refine aw_n aj_d248 rfl rfl ?_
      have b134 : 0 ≤ (S125.1 30).toInt ∧ (S125.1 30).toInt ≤ 1001 := aw_bd_f hs (hI131).1 (by decide) rfl
      refine aw_k hU.1 aj_d248 rfl rfl [_] rfl rfl rfl (Nat.le_of_ble_eq_true rfl) (aw_toK hU aw_Gs_G (con := ac_c219_61) (by omega) (ar_219_61 hU.2.1 (aw_SPc hU.2.2 aw_Gs_G) aw_kpc (arc_214b hU) (arc_215 hU)) ⟨(hI131).1, hG125⟩ ⟨(aw_g117 hU.2.2), (cw_gw (a := (61 : Int)) rfl (by omega) (by omega)), trivial⟩ (fun e he => nomatch he)) ?_
      rintro r135 S135 ⟨hr135, hJ135, fc135, po135, -⟩
      have hT135 := hJ135.1
      replace fc135 := aw_fr_sub (F' := [24, 25, 26, 27, 28, 29, 30, 31]) (A' := []) (by decide) (by decide) fc135
      rcases ar_bool hU (hI131).1 hT135 hr135 po135 with ⟨b135, rfl, hb135, cf135⟩ | ⟨b135, rfl, hb135, ck135, gq135⟩
      · skip
        have cf135 : (S125.1 30).toInt + 0 ≤ (S135.1 30).toInt := cf135
        have fr136 := aw_fr_tr fr130 (aw_fr_sub (F := [24, 25, 26, 27, 28, 29, 30, 31]) (A := []) (by decide) (by decide) fc135)
        have fl137 := aw_fr_tr (aw_fr_rf : aw_fr [24, 25, 26, 27, 28, 29, 30, 31, 33, 34, 35, 36, 38, 39, 40, 46, 47, 50, 51, 52, 53, 54, 56, 58] [14, 15, 16, 17, 18, 19, 23, 24, 25, 26, 27] S125 S125) (aw_fr_sub (F := [24, 25, 26, 27, 28, 29, 30, 31]) (A := []) (by decide) (by decide) fc135)
        have hI138 : aw_I s h (aw_sm S135) S135 := ⟨hT135, aw_sm_rf⟩
        show aw_W _ _ _ _ 21 lv133 [.int b135] _ _
        refine aw_z (tgt := 40) aj_d248 rfl rfl (fun q139 => ?_) (fun q139 => ?_)
        · have q139 : (0 : Int) = (0 : Int) := aw_t_eq (a := (0 : Int)) (b := (0 : Int)) hb135 rfl q139
          refine aw_n aj_d248 rfl rfl ?_
          refine aw_e aj_d248 rfl rfl ?_
          exact ⟨(hI138).1, fr136, Or.inl ⟨_, rfl, rfl, aw_G_B hJ135.2⟩⟩
        · have q139 : (0 : Int) ≠ (0 : Int) := aw_t_eq (a := (0 : Int)) (b := (0 : Int)) hb135 rfl q139
          exfalso
          omega
      · skip
        have ck135 : (S125.1 30).toInt + 1 ≤ (S135.1 30).toInt := ck135
        have fr140 := aw_fr_tr fr130 (aw_fr_sub (F := [24, 25, 26, 27, 28, 29, 30, 31]) (A := []) (by decide) (by decide) fc135)
        have fl141 := aw_fr_tr (aw_fr_rf : aw_fr [24, 25, 26, 27, 28, 29, 30, 31, 33, 34, 35, 36, 38, 39, 40, 46, 47, 50, 51, 52, 53, 54, 56, 58] [14, 15, 16, 17, 18, 19, 23, 24, 25, 26, 27] S125 S125) (aw_fr_sub (F := [24, 25, 26, 27, 28, 29, 30, 31]) (A := []) (by decide) (by decide) fc135)
        have hI142 : aw_I s h (aw_sm S135) S135 := ⟨hT135, aw_sm_rf⟩
        show aw_W _ _ _ _ 21 lv133 [.int b135] _ _
        refine aw_z (tgt := 40) aj_d248 rfl rfl (fun q143 => ?_) (fun q143 => ?_)
        · have q143 : (1 : Int) = (0 : Int) := aw_t_eq (a := (1 : Int)) (b := (0 : Int)) hb135 rfl q143
          exfalso
          omega
        · have q143 : (1 : Int) ≠ (0 : Int) := aw_t_eq (a := (1 : Int)) (b := (0 : Int)) hb135 rfl q143
          refine aw_l2 aj_d248 rfl rfl hlv133_0 ?_
          have b145 : 0 ≤ (S135.1 30).toInt ∧ (S135.1 30).toInt ≤ 1001 := aw_bd_f hs (hI142).1 (by decide) rfl
          refine aw_k hU.1 aj_d248 rfl rfl [] rfl rfl rfl (Nat.le_of_ble_eq_true rfl) (ar_question hU (hI142).1 hJ135.2 (by omega)) ?_
          rintro _ S144 ⟨hT144, fc144, ⟨b144, rfl, hb144, hG144, ck144⟩ | ⟨b144, rfl, hb144, hG144, ck144, ex144⟩⟩
          · skip
            have ck144 : ((S135.1 30)).toInt ≤ (S144.1 30).toInt := ck144
            have fr146 := aw_fr_tr fr140 (aw_fr_sub (F := [24, 25, 26, 27, 28, 29, 30, 31, 33, 34, 35, 36, 38, 39, 40, 46, 47, 50, 51, 52, 53, 54, 56, 58]) (A := [14, 15, 16, 17, 18, 19, 23, 24, 25, 26, 27]) (by decide) (by decide) fc144)
            have fl147 := aw_fr_tr fl141 (aw_fr_sub (F := [24, 25, 26, 27, 28, 29, 30, 31, 33, 34, 35, 36, 38, 39, 40, 46, 47, 50, 51, 52, 53, 54, 56, 58]) (A := [14, 15, 16, 17, 18, 19, 23, 24, 25, 26, 27]) (by decide) (by decide) fc144)
            have hI148 : aw_I s h (aw_sm S144) S144 := ⟨hT144, aw_sm_rf⟩
            show aw_W _ _ _ _ 28 lv133 [.int b144] _ _
            refine aw_z (tgt := 40) aj_d248 rfl rfl (fun q149 => ?_) (fun q149 => ?_)
            · have q149 : (0 : Int) = (0 : Int) := aw_t_eq (a := (0 : Int)) (b := (0 : Int)) hb144 rfl q149
              refine aw_n aj_d248 rfl rfl ?_
              refine aw_e aj_d248 rfl rfl ?_
              exact ⟨(hI148).1, fr146, Or.inl ⟨_, rfl, rfl, aw_G_B hG144⟩⟩
            · have q149 : (0 : Int) ≠ (0 : Int) := aw_t_eq (a := (0 : Int)) (b := (0 : Int)) hb144 rfl q149
              exfalso
              omega
          · skip
            have ck144 : ((S135.1 30)).toInt + 1 ≤ (S144.1 30).toInt := ck144
            have fr150 := aw_fr_tr fr140 (aw_fr_sub (F := [24, 25, 26, 27, 28, 29, 30, 31, 33, 34, 35, 36, 38, 39, 40, 46, 47, 50, 51, 52, 53, 54, 56, 58]) (A := [14, 15, 16, 17, 18, 19, 23, 24, 25, 26, 27]) (by decide) (by decide) fc144)
            have fl151 := aw_fr_tr fl141 (aw_fr_sub (F := [24, 25, 26, 27, 28, 29, 30, 31, 33, 34, 35, 36, 38, 39, 40, 46, 47, 50, 51, 52, 53, 54, 56, 58]) (A := [14, 15, 16, 17, 18, 19, 23, 24, 25, 26, 27]) (by decide) (by decide) fc144)
            have hI152 : aw_I s h (aw_sm S144) S144 := ⟨hT144, aw_sm_rf⟩
            show aw_W _ _ _ _ 28 lv133 [.int b144] _ _
            refine aw_z (tgt := 40) aj_d248 rfl rfl (fun q153 => ?_) (fun q153 => ?_)
            · have q153 : (1 : Int) = (0 : Int) := aw_t_eq (a := (1 : Int)) (b := (0 : Int)) hb144 rfl q153
              exfalso
              omega
            · have q153 : (1 : Int) ≠ (0 : Int) := aw_t_eq (a := (1 : Int)) (b := (0 : Int)) hb144 rfl q153
              refine aw_l2 aj_d248 rfl rfl hlv133_0 ?_
              refine aw_n aj_d248 rfl rfl ?_
              have b154 : 0 ≤ (S144.1 30).toInt ∧ (S144.1 30).toInt ≤ 1001 := aw_bd_f hs (hI152).1 (by decide) rfl
              refine aw_k hU.1 aj_d248 rfl rfl [_] rfl rfl rfl (Nat.le_of_ble_eq_true rfl) (aw_toK hU aw_Gs_G (con := ac_c219_59) (by omega) (ar_219_59 hU.2.1 (aw_SPc hU.2.2 aw_Gs_G) aw_kpc (arc_214b hU) (arc_215 hU)) ⟨(hI152).1, hG144⟩ ⟨(aw_g117 hU.2.2), (cw_gw (a := (59 : Int)) rfl (by omega) (by omega)), trivial⟩ (fun e he => nomatch he)) ?_
              rintro r155 S155 ⟨hr155, hJ155, fc155, po155, -⟩
              have hT155 := hJ155.1
              replace fc155 := aw_fr_sub (F' := [24, 25, 26, 27, 28, 29, 30, 31]) (A' := []) (by decide) (by decide) fc155
              rcases ar_bool hU (hI152).1 hT155 hr155 po155 with ⟨b155, rfl, hb155, cf155⟩ | ⟨b155, rfl, hb155, ck155, gq155⟩
              · skip
                have cf155 : (S144.1 30).toInt + 0 ≤ (S155.1 30).toInt := cf155
                have fr156 := aw_fr_tr fr150 (aw_fr_sub (F := [24, 25, 26, 27, 28, 29, 30, 31]) (A := []) (by decide) (by decide) fc155)
                have fl157 := aw_fr_tr fl151 (aw_fr_sub (F := [24, 25, 26, 27, 28, 29, 30, 31]) (A := []) (by decide) (by decide) fc155)
                have hI158 : aw_I s h (aw_sm S155) S155 := ⟨hT155, aw_sm_rf⟩
                show aw_W _ _ _ _ 37 lv133 [.int b155] _ _
                refine aw_z (tgt := 42) aj_d248 rfl rfl (fun q159 => ?_) (fun q159 => ?_)
                · have q159 : (0 : Int) ≠ (0 : Int) := aw_t_ne (a := (0 : Int)) (b := (0 : Int)) hb155 rfl q159
                  exfalso
                  omega
                · have q159 : (0 : Int) = (0 : Int) := aw_t_ne (a := (0 : Int)) (b := (0 : Int)) hb155 rfl q159
                  refine aw_n aj_d248 rfl rfl ?_
                  refine aw_e aj_d248 rfl rfl ?_
                  exact ⟨(hI158).1, fr156, Or.inl ⟨_, rfl, rfl, aw_G_B hJ155.2⟩⟩
              · skip
                have ck155 : (S144.1 30).toInt + 1 ≤ (S155.1 30).toInt := ck155
                have fr160 := aw_fr_tr fr150 (aw_fr_sub (F := [24, 25, 26, 27, 28, 29, 30, 31]) (A := []) (by decide) (by decide) fc155)
                have fl161 := aw_fr_tr fl151 (aw_fr_sub (F := [24, 25, 26, 27, 28, 29, 30, 31]) (A := []) (by decide) (by decide) fc155)
                have hI162 : aw_I s h (aw_sm S155) S155 := ⟨hT155, aw_sm_rf⟩
                show aw_W _ _ _ _ 37 lv133 [.int b155] _ _
                refine aw_z (tgt := 42) aj_d248 rfl rfl (fun q163 => ?_) (fun q163 => ?_)
                · have q163 : (1 : Int) ≠ (0 : Int) := aw_t_ne (a := (1 : Int)) (b := (0 : Int)) hb155 rfl q163
                  refine aw_l2 aj_d248 rfl rfl hlv133_0 ?_
                  have b164 : 0 ≤ (S.1 37).toInt ∧ (S.1 37).toInt ≤ 1 := aw_bd_f hs (hI123).1 (by decide) rfl
                  have c165 : (S125.1 37).toInt = (S.1 37).toInt := (congrArg Int32.toInt (fc125.1 37 (by decide)).1).trans rfl
                  have b166 : 0 ≤ (S125.1 37).toInt ∧ (S125.1 37).toInt ≤ 1 := aw_bd_f hs (hI131).1 (by decide) rfl
                  have c167 : (S135.1 37).toInt = (S.1 37).toInt := (congrArg Int32.toInt (fc135.1 37 (by decide)).1).trans c165
                  have b168 : 0 ≤ (S135.1 37).toInt ∧ (S135.1 37).toInt ≤ 1 := aw_bd_f hs (hI142).1 (by decide) rfl
                  have c169 : (S144.1 37).toInt = (S.1 37).toInt := (congrArg Int32.toInt (fc144.1 37 (by decide)).1).trans c167
                  have b170 : 0 ≤ (S144.1 37).toInt ∧ (S144.1 37).toInt ≤ 1 := aw_bd_f hs (hI152).1 (by decide) rfl
                  have c171 : (S155.1 37).toInt = (S.1 37).toInt := (congrArg Int32.toInt (fc155.1 37 (by decide)).1).trans c169
                  have b172 : 0 ≤ (S155.1 37).toInt ∧ (S155.1 37).toInt ≤ 1 := aw_bd_f hs (hI162).1 (by decide) rfl
                  refine aw_g hU.1 aj_d248 rfl rfl (by decide) (v := .int (S155.1 37)) rfl ?_
                  refine aw_n aj_d248 rfl rfl ?_
                  refine aw_mul aj_d248 rfl (a := (S.1 37).toInt) (b := (10 : Int)) c171 rfl (by omega) (by omega) (fun x173 ex173 => ?_)
                  refine aw_l2 aj_d248 rfl rfl hlv133_0 ?_
                  refine aw_g hU.1 aj_d248 rfl rfl (by decide) (v := .ref 124) rfl ?_
                  refine aw_l2 aj_d248 rfl rfl hlv133_0 ?_
                  refine aw_g hU.1 aj_d248 rfl rfl (by decide) (v := .int (S155.1 37)) rfl ?_
                  refine aw_ld (k := 7) hU.1 aj_d248 (Or.inl ⟨rfl, rfl⟩) rfl (by decide) (by decide) rfl (a := (S.1 37).toInt) c171 (by omega) (by omega) (fun x174 ex174 => ?_)
                  have bx174 : 0 ≤ x174.toInt ∧ x174.toInt ≤ 10 := by
                    rw [ex174]
                    exact aw_bd_a hs (hI162).1 (k := 7) (by decide) (by decide) rfl (by decide) rfl (by omega)
                  have nf175 := ar_nf fl161 (by decide) (by decide) (by decide) ⟨t9125, nf125⟩
                  have txx174 : x174.toInt = (S155.2.2.1 7 (aw_h S155)).toInt := (congrArg Int32.toInt ex174).trans (by unfold aw_h; rw [show (S155.1 37).toInt = (S.1 37).toInt from c171])
                  have t9xx174 := nf175.1
                  rw [← txx174] at t9xx174
                  refine aw_add aj_d248 rfl (a := x173.toInt) (b := x174.toInt) rfl rfl (by omega) (by omega) (fun x176 ex176 => ?_)
                  refine aw_t0 (j := 3) aj_d248 rfl (by decide) rfl ?_
                  obtain ⟨lv177, elv177⟩ : ∃ l, l = aj_set1 lv133 3 (.int x176) := ⟨_, rfl⟩
                  rw [← elv177]
                  have hlv177_0 : aj_lv lv177 0 = some (.ref 117) := cw_e1 elv177 hlv133_0 (by decide) (Or.inl (by decide))
                  have hlv177_3 : aj_lv lv177 3 = some (.int x176) := by rw [elv177]; exact ak_set1_eq _ _ _
                  show aw_W _ _ _ _ 60 lv177 [] _ _
                  refine aw_l2 aj_d248 rfl rfl hlv177_0 ?_
                  refine aw_n aj_d248 rfl rfl ?_
                  refine aw_l0 aj_d248 rfl rfl hlv177_3 ?_
                  have b178 : 0 ≤ (S155.1 30).toInt ∧ (S155.1 30).toInt ≤ 1001 := aw_bd_f hs (hI162).1 (by decide) rfl
                  refine aw_k hU.1 aj_d248 rfl rfl [_, _] rfl rfl rfl (Nat.le_of_ble_eq_true rfl) (aw_toK hU aw_Gs_G (con := ac_c251) (by omega) (ar_251 hU.2.1 (aw_SPc hU.2.2 aw_Gs_G) aw_kpc (arc_252 hU)) ⟨(hI162).1, hJ155.2⟩ ⟨(aw_g117 hU.2.2), (cw_gw (a := (20 : Int)) rfl (by omega) (by omega)), (cw_gw (a := x176.toInt) rfl (by omega) (by omega)), trivial⟩ (fun e he => nomatch he)) ?_
                  rintro r179 S179 ⟨hr179, hJ179, fc179, po179, -⟩
                  have hT179 := hJ179.1
                  replace fc179 := aw_fr_sub (F' := []) (A' := [14, 15, 16, 17, 18, 19]) (by decide) (by decide) fc179
                  have fr180 := aw_fr_tr fr160 (aw_fr_sub (F := []) (A := [14, 15, 16, 17, 18, 19]) (by decide) (by decide) fc179)
                  have fl181 := aw_fr_tr fl161 (aw_fr_sub (F := []) (A := [14, 15, 16, 17, 18, 19]) (by decide) (by decide) fc179)
                  have hI182 : aw_I s h (aw_sm S179) S179 := ⟨hT179, aw_sm_rf⟩
                  obtain rfl := cw_rN hr179
                  show aw_W _ _ _ _ 67 lv177 [] _ _
                  refine aw_l2 aj_d248 rfl rfl hlv177_0 ?_
                  refine aw_g hU.1 aj_d248 rfl rfl (by decide) (v := .ref 124) rfl ?_
                  refine aw_l2 aj_d248 rfl rfl hlv177_0 ?_
                  have c183 : (S179.1 37).toInt = (S.1 37).toInt := (congrArg Int32.toInt (fc179.1 37 (by decide)).1).trans c171
                  have b184 : 0 ≤ (S179.1 37).toInt ∧ (S179.1 37).toInt ≤ 1 := aw_bd_f hs (hI182).1 (by decide) rfl
                  refine aw_g hU.1 aj_d248 rfl rfl (by decide) (v := .int (S179.1 37)) rfl ?_
                  refine aw_n aj_d248 rfl rfl ?_
                  refine aw_ld (k := 7) hU.1 aj_d248 (Or.inl ⟨rfl, rfl⟩) rfl (by decide) (by decide) rfl (a := (S.1 37).toInt) c183 (by omega) (by omega) (fun x185 ex185 => ?_)
                  have bx185 : 0 ≤ x185.toInt ∧ x185.toInt ≤ 10 := by
                    rw [ex185]
                    exact aw_bd_a hs (hI182).1 (k := 7) (by decide) (by decide) rfl (by decide) rfl (by omega)
                  have nf186 := ar_nf fl181 (by decide) (by decide) (by decide) ⟨t9125, nf125⟩
                  have txx185 : x185.toInt = (S179.2.2.1 7 (aw_h S179)).toInt := (congrArg Int32.toInt ex185).trans (by unfold aw_h; rw [show (S179.1 37).toInt = (S.1 37).toInt from c183])
                  have t9xx185 := nf186.1
                  rw [← txx185] at t9xx185
                  refine aw_n aj_d248 rfl rfl ?_
                  refine aw_add aj_d248 rfl (a := x185.toInt) (b := (1 : Int)) rfl rfl (by omega) (by omega) (fun x187 ex187 => ?_)
                  refine aw_st (k := 7) hU.1 aj_d248 (Or.inl ⟨rfl, rfl⟩) rfl (by decide) (by decide) rfl (a := (S.1 37).toInt) c183 (by omega) (by omega) ?_
                  have hI188 : aw_I s h (aw_sm (aw_wa S179 7 ((S.1 37).toInt).toNat (aj_nar 0 x187))) (aw_wa S179 7 ((S.1 37).toInt).toNat (aj_nar 0 x187)) := ⟨aw_T_a hU.2.1 hs hU.1.1 (hI182).1 (by decide) (by decide) rfl (by decide) (by decide) rfl (aw_bp (a := x187.toInt) rfl (by omega) (by omega)), aw_sm_rf⟩
                  have fr189 := aw_fr_a (k := 7) (j := ((S.1 37).toInt).toNat) (v := aj_nar 0 x187) (by decide) fr180
                  have hG190 : aw_G (nm, false, la, 0, 0, 0) (aw_wa S179 7 ((S.1 37).toInt).toNat (aj_nar 0 x187)) := aw_G_tt hJ179.2 (by have := hG.1.1; omega) (by show ((S.1 37).toInt).toNat = _; unfold aw_h; rw [show (S179.1 37).toInt = (S.1 37).toInt from c183]) (by rw [nf186.2, aw_fr_tT fr180 (by decide) (by decide), show aw_tF S179 = aw_tF S from (fr180.2 21 (by decide)).1]) (by show (x187).toInt = _; omega)
                  have hI191 : aw_I s h (aw_sm (aw_wa S179 7 ((S.1 37).toInt).toNat (aj_nar 0 x187))) (aw_wa S179 7 ((S.1 37).toInt).toNat (aj_nar 0 x187)) := ⟨(hI188).1, aw_sm_rf⟩
                  refine aw_n aj_d248 rfl rfl ?_
                  refine aw_e aj_d248 rfl rfl ?_
                  have c192 : (S179.1 30).toInt = (S155.1 30).toInt := (congrArg Int32.toInt (fc179.1 30 (by decide)).1).trans rfl
                  have b193 : 0 ≤ (S179.1 30).toInt ∧ (S179.1 30).toInt ≤ 1001 := aw_bd_f hs (hI182).1 (by decide) rfl
                  exact ⟨(hI191).1, fr189, Or.inr ⟨_, rfl, rfl, hG190, (show _ + 1 ≤ ((S179.1 30)).toInt by omega)⟩⟩
                · have q163 : (1 : Int) = (0 : Int) := aw_t_ne (a := (1 : Int)) (b := (0 : Int)) hb155 rfl q163
                  exfalso
                  omega
    · have q132 : (1 : Int) = (0 : Int) := aw_t_ne (a := (1 : Int)) (b := (0 : Int)) hb125 rfl q132
      exfalso
      omega
end ARA15
