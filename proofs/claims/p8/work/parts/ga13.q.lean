/-! Qs, the whole (printed by wip/p2/ref/r13.py) -/
section ARA13
variable {tb : aj_T} {s : List Nat} {h : aj_H} {S S' S1 S2 : aj_S} {d n : Nat} {g g' : aw_gh} {F A : List Nat} {G : aj_S → Prop} {nm : Int64 → Prop} {fl : Bool} {la ho hu ht q t : Nat} {f : Nat → Int32} {w w' c c' hd hd' o a : Int}
theorem ar_CI_pop (ci : ar_CI (ar_mf f) w.toNat c hd o 1) (hw : 1 ≤ w) (ht : (f (w - 1).toNat).toInt ≠ 40) (hw' : w' = w - 1) (hh : hd' = hd - 1) : ar_CI (ar_mf f) w'.toNat c hd' o 1 ∧ 2 ≤ hd := by
  have h4 : ((ar_mf f) (w - 1).toNat).toInt ≠ 40 := fun z => ht (ar_mp_40.mp z)
  have h3 : ((ar_mf f) (w - 1).toNat).toInt ≠ 33 := ar_mp_n33 _
  exact ⟨ar_CI_red ci hw h4 hw' (fun z => absurd z h3) (fun _ => ⟨rfl, hh⟩), (ar_CI_pre ci hw h4).2 h3⟩
theorem ar_isActing (hU : aw_U tb s h) (hT : ak_Ty ak_TN s (aj_mh h S)) (hd : 1 ≤ d) {c : Int32} : aw_K tb h d 273 [.ref 117, .int c] S (fun r S' => S' = S ∧ ∃ b : Int32, r = some (.int b) ∧ ((b.toInt = 1 ∧ 1 ≤ (S.1 50).toInt ∧ (S.2.2.1 23 ((S.1 50).toInt - 1).toNat).toInt = c.toInt) ∨ (b.toInt = 0 ∧ ¬ (1 ≤ (S.1 50).toInt ∧ (S.2.2.1 23 ((S.1 50).toInt - 1).toNat).toInt = c.toInt)))) := by
  obtain ⟨d, rfl⟩ : ∃ e, d = e + 1 := ⟨d - 1, by omega⟩
  have hs : aw_sT s := aw_hy_sT hU.2.2
  refine aw_m aj_m273_at rfl (Nat.le_of_ble_eq_true rfl) ?_
  show aw_W _ _ _ _ 0 [(0, .ref 117), (1, .int c)] [] _ _
  obtain ⟨lv1, elv1⟩ : ∃ l : aj_V, l = [(0, .ref 117), (1, .int c)] := ⟨_, rfl⟩
  rw [← elv1]
  have hlv1_0 : aj_lv lv1 0 = some (.ref 117) := by rw [elv1]; rfl
  have hlv1_1 : aj_lv lv1 1 = some (.int c) := by rw [elv1]; rfl
  have hI2 : aw_I s h (aw_sm S) S := ⟨hT, aw_sm_rf⟩
  have fr3 : aw_fr [] [] S S := aw_fr_rf
  refine aw_l2 aj_d273 rfl rfl hlv1_0 ?_
  have b4 : 0 ≤ (S.1 50).toInt ∧ (S.1 50).toInt ≤ 63 := aw_bd_f hs (hI2).1 (by decide) rfl
  refine aw_g hU.1 aj_d273 rfl rfl (by decide) (v := .int (S.1 50)) rfl ?_
  refine aw_z (tgt := 26) aj_d273 rfl rfl (fun q5 => ?_) (fun q5 => ?_)
  · have q5 : (S.1 50).toInt ≤ (0 : Int) := aw_t_le (a := (S.1 50).toInt) (b := (0 : Int)) rfl rfl q5
    refine aw_n aj_d273 rfl rfl ?_
    refine aw_e aj_d273 rfl rfl ?_
    refine ⟨rfl, _, rfl, Or.inr ⟨rfl, fun z => ?_⟩⟩
    omega
  · have q5 : (S.1 50).toInt > (0 : Int) := aw_t_le (a := (S.1 50).toInt) (b := (0 : Int)) rfl rfl q5
    refine aw_l2 aj_d273 rfl rfl hlv1_0 ?_
    refine aw_g hU.1 aj_d273 rfl rfl (by decide) (v := .ref 140) rfl ?_
    refine aw_l2 aj_d273 rfl rfl hlv1_0 ?_
    refine aw_g hU.1 aj_d273 rfl rfl (by decide) (v := .int (S.1 50)) rfl ?_
    refine aw_n aj_d273 rfl rfl ?_
    refine aw_sub aj_d273 rfl (a := (S.1 50).toInt) (b := (1 : Int)) rfl rfl (by omega) (by omega) (fun x6 ex6 => ?_)
    refine aw_ld (k := 23) hU.1 aj_d273 (Or.inl ⟨rfl, rfl⟩) rfl (by decide) (by decide) rfl (a := x6.toInt) rfl (by omega) (by omega) (fun x7 ex7 => ?_)
    refine aw_l0 aj_d273 rfl rfl hlv1_1 ?_
    refine aw_c (tgt := 26) aj_d273 rfl rfl (fun q8 => ?_) (fun q8 => ?_)
    · have q8 : x7.toInt ≠ c.toInt := aw_t_ne (a := x7.toInt) (b := c.toInt) rfl rfl q8
      refine aw_n aj_d273 rfl rfl ?_
      refine aw_e aj_d273 rfl rfl ?_
      refine ⟨rfl, _, rfl, Or.inr ⟨rfl, fun z => ?_⟩⟩
      have e7 := congrArg Int32.toInt ex7
      rw [show (x6.toInt).toNat = ((S.1 50).toInt - 1).toNat by omega] at e7
      have z2 := z.2
      rw [← e7] at z2
      omega
    · have q8 : x7.toInt = c.toInt := aw_t_ne (a := x7.toInt) (b := c.toInt) rfl rfl q8
      refine aw_n aj_d273 rfl rfl ?_
      refine aw_n aj_d273 rfl rfl ?_
      refine aw_e aj_d273 rfl rfl ?_
      refine ⟨rfl, _, rfl, Or.inl ⟨rfl, by omega, ?_⟩⟩
      have e7 := congrArg Int32.toInt ex7
      rw [show (x6.toInt).toNat = ((S.1 50).toInt - 1).toNat by omega] at e7
      exact e7.symm.trans (by omega)
theorem ar_q_L241_120 (hU : aw_U tb s h) (hd : 10 ≤ d + 1) (N22 : Nat) (S22 : aj_S) (ihL22_20 : ∀ (S22 : aj_S) (lv23 : aj_V), (aj_lv lv23 0 = some (.ref 117)) → (aw_I s h (aw_G (nm, fl, la, 0, 0, ht)) S22) → (aw_fr [24, 25, 26, 27, 28, 29, 30, 31, 33, 34, 35, 36, 38, 39, 40, 46, 47, 50, 51, 52, 53, 54, 56, 58] [14, 15, 16, 17, 18, 19, 23, 24, 25, 26, 27] S S22) → (ar_CI (ar_mf (S22.2.2.1 23)) ((S22.1 50).toInt).toNat (S22.1 46).toInt ((S22.1 51).toInt - 20) (S22.1 46).toInt 0) → ((S.1 30).toInt + 0 ≤ (S22.1 30).toInt) → (1001 - (S22.1 30).toInt).toNat < N22 → aw_W tb h d aj_m249 22 lv23 [] S22 ((ar_QT s h (nm, fl, la, 0, 0, ht) [24, 25, 26, 27, 28, 29, 30, 31, 33, 34, 35, 36, 38, 39, 40, 46, 47, 50, 51, 52, 53, 54, 56, 58] [14, 15, 16, 17, 18, 19, 23, 24, 25, 26, 27] S (fun _ => True)))) (hm22 : (1001 - (S22.1 30).toInt).toNat < N22 + 1) (S111 : aj_S) : ∀ (N : Nat) (S122 : aj_S) (lv123 : aj_V) (x124 : Int32), (aj_lv lv123 0 = some (.ref 117)) → (aj_lv lv123 1 = some (.int x124)) → (aw_I s h (aw_G (nm, fl, la, 0, 0, ht)) S122) → (aw_fr [24, 25, 26, 27, 28, 29, 30, 31, 33, 34, 35, 36, 38, 39, 40, 46, 47, 50, 51, 52, 53, 54, 56, 58] [14, 15, 16, 17, 18, 19, 23, 24, 25, 26, 27] S S122) → (1 ≤ x124.toInt ∧ x124.toInt ≤ 1) → (ar_CI (ar_mf (S122.2.2.1 23)) ((S122.1 50).toInt).toNat (S122.1 46).toInt ((S122.1 51).toInt - 20) (S122.1 46).toInt 1) → ((S.1 30).toInt + 1 ≤ (S122.1 30).toInt) → ((S22.1 30).toInt + 1 ≤ (S122.1 30).toInt) → ((S122.1 26).toInt = 3 ∧ ((S122.1 29).toInt = 42 ∨ (S122.1 29).toInt = 43 ∨ (S122.1 29).toInt = 45)) → ((S122.1 50).toInt).toNat < N → aw_W tb h d aj_m249 241 lv123 [] S122 ((ar_QT s h (nm, fl, la, 0, 0, ht) [24, 25, 26, 27, 28, 29, 30, 31, 33, 34, 35, 36, 38, 39, 40, 46, 47, 50, 51, 52, 53, 54, 56, 58] [14, 15, 16, 17, 18, 19, 23, 24, 25, 26, 27] S (fun _ => True))) := by
  have hs : aw_sT s := aw_hy_sT hU.2.2
  intro N241
  induction N241 with
  | zero =>
    intro S122 lv123 x124 hlv123_0 hlv123_1 hI125 fr126 bx124 ci241 ck241 cA241 k241 hm241
    omega
  | succ N241 ihL241_120 =>
    intro S122 lv123 x124 hlv123_0 hlv123_1 hI125 fr126 bx124 ci241 ck241 cA241 k241 hm241
    have hI127 : aw_I s h (aw_sm S122) S122 := ⟨hI125.1, aw_sm_rf⟩
    have b128 : 0 ≤ (S122.1 46).toInt ∧ (S122.1 46).toInt ≤ 8 := aw_bd_f hs (hI127).1 (by decide) rfl
    have b129 : 0 ≤ (S122.1 50).toInt ∧ (S122.1 50).toInt ≤ 63 := aw_bd_f hs (hI127).1 (by decide) rfl
    have b130 : 0 ≤ (S122.1 51).toInt ∧ (S122.1 51).toInt ≤ 48 := aw_bd_f hs (hI127).1 (by decide) rfl
    have b131 : 0 ≤ (S122.1 30).toInt ∧ (S122.1 30).toInt ≤ 1001 := aw_bd_f hs (hI127).1 (by decide) rfl
    have cb132 := ar_CI_b ci241 (by omega)
    refine aw_l2 aj_d249 rfl rfl hlv123_0 ?_
    refine aw_n aj_d249 rfl rfl ?_
    refine aw_k hU.1 aj_d249 rfl rfl [_] rfl rfl rfl (Nat.le_of_ble_eq_true rfl) (ar_isActing hU (hI127).1 (by omega)) ?_
    rintro _ zb133 ⟨fb133, b133, rfl, kb133⟩
    rw [fb133]
    rcases kb133 with ⟨hb133, pb133, qb133⟩ | ⟨hb133, pb133⟩
    · skip
      have qb133 : (S122.2.2.1 23 ((S122.1 50).toInt - 1).toNat).toInt = (42 : Int) := qb133
      have pb133 : 1 ≤ (S122.1 50).toInt := pb133
      show aw_W _ _ _ _ 247 lv123 [.int b133] _ _
      refine aw_z (tgt := 277) aj_d249 rfl rfl (fun q134 => ?_) (fun q134 => ?_)
      · have q134 : (1 : Int) ≠ (0 : Int) := aw_t_ne (a := (1 : Int)) (b := (0 : Int)) hb133 rfl q134
        refine aw_l2 aj_d249 rfl rfl hlv123_0 ?_
        have hw135 : 1 ≤ (S122.1 50).toInt := by omega
        have pp135 := ar_CI_pop ci241 hw135 (by rw [qb133]; decide) rfl rfl
        refine aw_k hU.1 aj_d249 rfl rfl [] rfl rfl rfl (Nat.le_of_ble_eq_true rfl) (ar_done hU (hI127).1 hI125.2 (by omega) (show 1 ≤ (S122.1 50).toInt by omega) (show 22 ≤ (S122.1 51).toInt by have := pp135.2; omega)) ?_
        rintro _ S135 ⟨hT135, fc135, ⟨b135, rfl, hb135, hG135, ck135⟩ | ⟨b135, rfl, hb135, hG135, ck135, r5135, r6135⟩⟩
        · skip
          have fr136 := aw_fr_tr fr126 (aw_fr_sub (F := [24, 25, 31, 50, 51]) (A := [14, 15, 16, 17, 18, 19]) (by decide) (by decide) fc135)
          have hI137 : aw_I s h (aw_sm S135) S135 := ⟨hT135, aw_sm_rf⟩
          show aw_W _ _ _ _ 281 lv123 [.int b135] _ _
          refine aw_z (tgt := 241) aj_d249 rfl rfl (fun q138 => ?_) (fun q138 => ?_)
          · have q138 : (0 : Int) ≠ (0 : Int) := aw_t_ne (a := (0 : Int)) (b := (0 : Int)) hb135 rfl q138
            exfalso
            omega
          · have q138 : (0 : Int) = (0 : Int) := aw_t_ne (a := (0 : Int)) (b := (0 : Int)) hb135 rfl q138
            refine aw_n aj_d249 rfl rfl ?_
            refine aw_e aj_d249 rfl rfl ?_
            have c139 : (S135.1 30).toInt = (S122.1 30).toInt := (congrArg Int32.toInt (fc135.1 30 (by decide)).1).trans rfl
            have b140 : 0 ≤ (S135.1 30).toInt ∧ (S135.1 30).toInt ≤ 1001 := aw_bd_f hs (hI137).1 (by decide) rfl
            exact ⟨(hI137).1, fr136, Or.inl ⟨_, rfl, rfl, hG135, (show _ ≤ ((S135.1 30)).toInt by omega)⟩⟩
        · skip
          have r5135 : (S135.1 50).toInt = (S122.1 50).toInt - 1 := r5135
          have fr142 := aw_fr_tr fr126 (aw_fr_sub (F := [24, 25, 31, 50, 51]) (A := [14, 15, 16, 17, 18, 19]) (by decide) (by decide) fc135)
          have hI143 : aw_I s h (aw_sm S135) S135 := ⟨hT135, aw_sm_rf⟩
          have ci141 : ar_CI (ar_mf (S135.2.2.1 23)) ((S135.1 50).toInt).toNat (S135.1 46).toInt ((S135.1 51).toInt - 20) (S135.1 46).toInt 1 := by
            rw [(fc135.2 23 (by decide)).1, (fc135.1 46 (by decide)).1]
            exact (ar_CI_pop ci241 hw135 (by rw [qb133]; decide) r5135 (by rw [r6135]; omega)).1
          have c144 : (S135.1 46).toInt = (S122.1 46).toInt := (congrArg Int32.toInt (fc135.1 46 (by decide)).1).trans rfl
          have b145 : 0 ≤ (S135.1 46).toInt ∧ (S135.1 46).toInt ≤ 8 := aw_bd_f hs (hI143).1 (by decide) rfl
          have b146 : 0 ≤ (S135.1 50).toInt ∧ (S135.1 50).toInt ≤ 63 := aw_bd_f hs (hI143).1 (by decide) rfl
          have b147 : 0 ≤ (S135.1 51).toInt ∧ (S135.1 51).toInt ≤ 48 := aw_bd_f hs (hI143).1 (by decide) rfl
          have c148 : (S135.1 30).toInt = (S122.1 30).toInt := (congrArg Int32.toInt (fc135.1 30 (by decide)).1).trans rfl
          have b149 : 0 ≤ (S135.1 30).toInt ∧ (S135.1 30).toInt ≤ 1001 := aw_bd_f hs (hI143).1 (by decide) rfl
          have cb150 := ar_CI_b ci141 (by omega)
          show aw_W _ _ _ _ 281 lv123 [.int b135] _ _
          refine aw_z (tgt := 241) aj_d249 rfl rfl (fun q151 => ?_) (fun q151 => ?_)
          · have q151 : (1 : Int) ≠ (0 : Int) := aw_t_ne (a := (1 : Int)) (b := (0 : Int)) hb135 rfl q151
            have b152 : 0 ≤ (S122.1 26).toInt ∧ (S122.1 26).toInt ≤ 5 := aw_bd_f hs (hI127).1 (by decide) rfl
            have c153 : (S135.1 26).toInt = (S122.1 26).toInt := (congrArg Int32.toInt (fc135.1 26 (by decide)).1).trans rfl
            have b154 : 0 ≤ (S135.1 26).toInt ∧ (S135.1 26).toInt ≤ 5 := aw_bd_f hs (hI143).1 (by decide) rfl
            have c155 : (S135.1 29).toInt = (S122.1 29).toInt := (congrArg Int32.toInt (fc135.1 29 (by decide)).1).trans rfl
            exact ihL241_120 S135 lv123 (x124) hlv123_0 hlv123_1 ⟨(hI143).1, hG135⟩ fr142 (by first | omega | decide) ci141 (show _ ≤ ((S135.1 30)).toInt by omega) (show _ ≤ ((S135.1 30)).toInt by omega) (show ((S135.1 26)).toInt = 3 ∧ (((S135.1 29)).toInt = 42 ∨ ((S135.1 29)).toInt = 43 ∨ ((S135.1 29)).toInt = 45) by omega) (show (((S135.1 50)).toInt).toNat < _ by omega)
          · have q151 : (1 : Int) = (0 : Int) := aw_t_ne (a := (1 : Int)) (b := (0 : Int)) hb135 rfl q151
            exfalso
            omega
      · have q134 : (1 : Int) = (0 : Int) := aw_t_ne (a := (1 : Int)) (b := (0 : Int)) hb133 rfl q134
        exfalso
        omega
    · skip
      have pb133 : ar_hd (¬ (1 ≤ (S122.1 50).toInt ∧ (S122.2.2.1 23 ((S122.1 50).toInt - 1).toNat).toInt = (42 : Int))) := ar_mk pb133
      show aw_W _ _ _ _ 247 lv123 [.int b133] _ _
      refine aw_z (tgt := 277) aj_d249 rfl rfl (fun q156 => ?_) (fun q156 => ?_)
      · have q156 : (0 : Int) ≠ (0 : Int) := aw_t_ne (a := (0 : Int)) (b := (0 : Int)) hb133 rfl q156
        exfalso
        omega
      · have q156 : (0 : Int) = (0 : Int) := aw_t_ne (a := (0 : Int)) (b := (0 : Int)) hb133 rfl q156
        refine aw_l2 aj_d249 rfl rfl hlv123_0 ?_
        refine aw_n aj_d249 rfl rfl ?_
        refine aw_k hU.1 aj_d249 rfl rfl [_] rfl rfl rfl (Nat.le_of_ble_eq_true rfl) (ar_isSign hU (by omega) (b := (42 : Int)) rfl) ?_
        have b159 : 0 ≤ (S122.1 26).toInt ∧ (S122.1 26).toInt ≤ 5 := aw_bd_f hs (hI127).1 (by decide) rfl
        rintro _ S158 ⟨eS158, b157, rfl, kb157⟩
        rw [eS158]
        rcases kb157 with ⟨hb157, pb157, qb157⟩ | ⟨hb157, pb157⟩
        · skip
          have pb157 : ((S122.1 26)).toInt = 3 := pb157
          have qb157 : ((S122.1 29)).toInt = (42 : Int) := qb157
          show aw_W _ _ _ _ 256 lv123 [.int b157] _ _
          refine aw_z (tgt := 286) aj_d249 rfl rfl (fun q160 => ?_) (fun q160 => ?_)
          · have q160 : (1 : Int) ≠ (0 : Int) := aw_t_ne (a := (1 : Int)) (b := (0 : Int)) hb157 rfl q160
            refine aw_l2 aj_d249 rfl rfl hlv123_0 ?_
            refine aw_g hU.1 aj_d249 rfl rfl (by decide) (v := .ref 140) rfl ?_
            refine aw_l2 aj_d249 rfl rfl hlv123_0 ?_
            refine aw_g hU.1 aj_d249 rfl rfl (by decide) (v := .int (S122.1 50)) rfl ?_
            refine aw_l2 aj_d249 rfl rfl hlv123_0 ?_
            refine aw_g hU.1 aj_d249 rfl rfl (by decide) (v := .int (S122.1 29)) rfl ?_
            refine aw_st (k := 23) hU.1 aj_d249 (Or.inl ⟨rfl, rfl⟩) rfl (by decide) (by decide) rfl (a := (S122.1 50).toInt) rfl (by omega) (by omega) ?_
            have hI161 := aw_I_a (aw_UV hU aw_Gs_sm) (k := 23) (j := ((S122.1 50).toInt).toNat) (v := aj_nar 0 (S122.1 29)) hI127 (by decide) (by decide) (by decide) rfl (by decide) (by decide) rfl (aw_full _)
            have fr162 := aw_fr_a (k := 23) (j := ((S122.1 50).toInt).toNat) (v := aj_nar 0 (S122.1 29)) (by decide) fr126
            refine aw_l2 aj_d249 rfl rfl hlv123_0 ?_
            refine aw_g hU.1 aj_d249 rfl rfl (by decide) (v := .ref 141) rfl ?_
            refine aw_l2 aj_d249 rfl rfl hlv123_0 ?_
            refine aw_g hU.1 aj_d249 rfl rfl (by decide) (v := .int (S122.1 50)) rfl ?_
            refine aw_l2 aj_d249 rfl rfl hlv123_0 ?_
            have b163 : 0 ≤ (S122.1 27).toInt ∧ (S122.1 27).toInt ≤ 4000 := aw_bd_f hs (hI127).1 (by decide) rfl
            refine aw_g hU.1 aj_d249 rfl rfl (by decide) (v := .int (S122.1 27)) rfl ?_
            refine aw_st (k := 24) hU.1 aj_d249 (Or.inl ⟨rfl, rfl⟩) rfl (by decide) (by decide) rfl (a := (S122.1 50).toInt) rfl (by omega) (by omega) ?_
            have hI164 := aw_I_a (aw_UV hU aw_Gs_sm) (k := 24) (j := ((S122.1 50).toInt).toNat) (v := aj_nar 0 (S122.1 27)) hI161 (by decide) (by decide) (by decide) rfl (by decide) (by decide) rfl (aw_full _)
            have fr165 := aw_fr_a (k := 24) (j := ((S122.1 50).toInt).toNat) (v := aj_nar 0 (S122.1 27)) (by decide) fr162
            refine aw_l2 aj_d249 rfl rfl hlv123_0 ?_
            refine aw_n aj_d249 rfl rfl ?_
            refine aw_g hU.1 aj_d249 rfl rfl (by decide) (v := .int (S122.1 50)) rfl ?_
            refine aw_n aj_d249 rfl rfl ?_
            refine aw_add aj_d249 rfl (a := (S122.1 50).toInt) (b := (1 : Int)) rfl rfl (by omega) (by omega) (fun x166 ex166 => ?_)
            refine aw_p hU.1 aj_d249 rfl rfl (by decide) rfl ?_
            have hI167 := aw_I_f (aw_UV hU aw_Gs_sm) (k := 50) (v := x166) hI164 (by decide) (by decide) rfl (aw_bp (a := x166.toInt) rfl (by omega) (by omega))
            have fr168 := aw_fr_f (k := 50) (v := x166) (by decide) fr165
            have ci169 : ar_CI (ar_mf (((aw_wf (aw_wa (aw_wa S122 23 ((S122.1 50).toInt).toNat (aj_nar 0 (S122.1 29))) 24 ((S122.1 50).toInt).toNat (aj_nar 0 (S122.1 27))) 50 x166)).2.2.1 23)) ((((aw_wf (aw_wa (aw_wa S122 23 ((S122.1 50).toInt).toNat (aj_nar 0 (S122.1 29))) 24 ((S122.1 50).toInt).toNat (aj_nar 0 (S122.1 27))) 50 x166)).1 50).toInt).toNat (((aw_wf (aw_wa (aw_wa S122 23 ((S122.1 50).toInt).toNat (aj_nar 0 (S122.1 29))) 24 ((S122.1 50).toInt).toNat (aj_nar 0 (S122.1 27))) 50 x166)).1 46).toInt ((((aw_wf (aw_wa (aw_wa S122 23 ((S122.1 50).toInt).toNat (aj_nar 0 (S122.1 29))) 24 ((S122.1 50).toInt).toNat (aj_nar 0 (S122.1 27))) 50 x166)).1 51).toInt - 20) (((aw_wf (aw_wa (aw_wa S122 23 ((S122.1 50).toInt).toNat (aj_nar 0 (S122.1 29))) 24 ((S122.1 50).toInt).toNat (aj_nar 0 (S122.1 27))) 50 x166)).1 46).toInt 0 := by
              show ar_CI (ar_mf (upd (S122.2.2.1 23) ((S122.1 50).toInt).toNat ((S122.1 29)))) ((x166).toInt).toNat ((S122.1 46).toInt) ((S122.1 51).toInt - 20) ((S122.1 46).toInt) 0
              rw [show ((x166).toInt).toNat = ((S122.1 50).toInt).toNat + 1 by omega, ar_mf_upd]
              have e7 : ((S122.1 50).toInt).toNat - 1 = ((S122.1 50).toInt - 1).toNat := by omega
              refine ar_CI_op ci241 ?_
              rw [e7]
              have n38 : ¬ (1 ≤ ((S122.1 50).toInt).toNat ∧ ((ar_mf (S122.2.2.1 23)) ((S122.1 50).toInt - 1).toNat).toInt = 38) := fun z => (ar_un pb133) ⟨by omega, ar_mp_i38 z.2⟩
              exact Or.inl ⟨by rw [ar_mp_42 (by omega)]; rfl, n38⟩
            refine aw_l2 aj_d249 rfl rfl hlv123_0 ?_
            refine aw_k hU.1 aj_d249 rfl rfl [] rfl rfl rfl (Nat.le_of_ble_eq_true rfl) (aw_toK hU aw_Gs_G (con := ac_c264a) (by omega) (ar_264a hU.2.1 (aw_SPc hU.2.2 aw_Gs_G) aw_kpc (arc_214b hU) (arc_215 hU)) ⟨(hI167).1, (aw_G_sm hI167.2 hI125.2)⟩ ⟨(aw_g117 hU.2.2), trivial⟩ (aw_gQ_of hU (fun e he => by
                simp only [List.mem_cons, List.not_mem_nil, or_false] at he
                rcases he with rfl | rfl
                · exact ⟨by decide, (show (3 : Int) ≤ ((S122.1 26)).toInt by omega), (show ((S122.1 26)).toInt ≤ (3 : Int) by omega)⟩
                · exact ⟨by decide, (show (0 : Int) ≤ ((S122.1 29)).toInt by omega), (show ((S122.1 29)).toInt ≤ (62 : Int) by omega)⟩))) ?_
            rintro r170 S170 ⟨hr170, hJ170, fc170, po170, -⟩
            have hT170 := hJ170.1
            replace fc170 := aw_fr_sub (F' := [24, 25, 26, 27, 28, 29, 30, 31, 47]) (A' := []) (by decide) (by decide) fc170
            rcases ar_bool hU (hI167).1 hT170 hr170 po170 with ⟨b170, rfl, hb170, cf170⟩ | ⟨b170, rfl, hb170, ck170, gq170⟩
            · skip
              have cf170 : (S122.1 30).toInt + 0 ≤ (S170.1 30).toInt := cf170
              have fr171 := aw_fr_tr fr168 (aw_fr_sub (F := [24, 25, 26, 27, 28, 29, 30, 31, 47]) (A := []) (by decide) (by decide) fc170)
              have hI172 : aw_I s h (aw_sm S170) S170 := ⟨hT170, aw_sm_rf⟩
              show aw_W _ _ _ _ 326 lv123 [.int b170] _ _
              refine aw_z (tgt := 18) aj_d249 rfl rfl (fun q173 => ?_) (fun q173 => ?_)
              · have q173 : (0 : Int) ≠ (0 : Int) := aw_t_ne (a := (0 : Int)) (b := (0 : Int)) hb170 rfl q173
                exfalso
                omega
              · have q173 : (0 : Int) = (0 : Int) := aw_t_ne (a := (0 : Int)) (b := (0 : Int)) hb170 rfl q173
                refine aw_n aj_d249 rfl rfl ?_
                refine aw_e aj_d249 rfl rfl ?_
                have b174 : 0 ≤ (S170.1 30).toInt ∧ (S170.1 30).toInt ≤ 1001 := aw_bd_f hs (hI172).1 (by decide) rfl
                exact ⟨(hI172).1, fr171, Or.inl ⟨_, rfl, rfl, hJ170.2, (show _ ≤ ((S170.1 30)).toInt by omega)⟩⟩
            · skip
              have ck170 : (S122.1 30).toInt + 1 ≤ (S170.1 30).toInt := ck170
              have fr175 := aw_fr_tr fr168 (aw_fr_sub (F := [24, 25, 26, 27, 28, 29, 30, 31, 47]) (A := []) (by decide) (by decide) fc170)
              have hI176 : aw_I s h (aw_sm S170) S170 := ⟨hT170, aw_sm_rf⟩
              have ci177 : ar_CI (ar_mf (S170.2.2.1 23)) ((S170.1 50).toInt).toNat (S170.1 46).toInt ((S170.1 51).toInt - 20) (S170.1 46).toInt 0 := by
                rw [(fc170.2 23 (by decide)).1, (fc170.1 50 (by decide)).1, (fc170.1 46 (by decide)).1, (fc170.1 51 (by decide)).1]
                exact ci169
              have c178 : (S170.1 46).toInt = (S122.1 46).toInt := (congrArg Int32.toInt (fc170.1 46 (by decide)).1).trans rfl
              have b179 : 0 ≤ (S170.1 46).toInt ∧ (S170.1 46).toInt ≤ 8 := aw_bd_f hs (hI176).1 (by decide) rfl
              have c180 : (S170.1 50).toInt = x166.toInt := (congrArg Int32.toInt (fc170.1 50 (by decide)).1).trans rfl
              have b181 : 0 ≤ (S170.1 50).toInt ∧ (S170.1 50).toInt ≤ 63 := aw_bd_f hs (hI176).1 (by decide) rfl
              have c182 : (S170.1 51).toInt = (S122.1 51).toInt := (congrArg Int32.toInt (fc170.1 51 (by decide)).1).trans rfl
              have b183 : 0 ≤ (S170.1 51).toInt ∧ (S170.1 51).toInt ≤ 48 := aw_bd_f hs (hI176).1 (by decide) rfl
              have b184 : 0 ≤ (S170.1 30).toInt ∧ (S170.1 30).toInt ≤ 1001 := aw_bd_f hs (hI176).1 (by decide) rfl
              have cb185 := ar_CI_b ci177 (by omega)
              show aw_W _ _ _ _ 326 lv123 [.int b170] _ _
              refine aw_z (tgt := 18) aj_d249 rfl rfl (fun q186 => ?_) (fun q186 => ?_)
              · have q186 : (1 : Int) ≠ (0 : Int) := aw_t_ne (a := (1 : Int)) (b := (0 : Int)) hb170 rfl q186
                refine aw_l0 aj_d249 rfl rfl hlv123_1 ?_
                refine aw_z (tgt := 331) aj_d249 rfl rfl (fun q187 => ?_) (fun q187 => ?_)
                · have q187 : (1 : Int) = (0 : Int) := aw_t_eq (a := (1 : Int)) (b := (0 : Int)) (by omega) rfl q187
                  exfalso
                  omega
                · have q187 : (1 : Int) ≠ (0 : Int) := aw_t_eq (a := (1 : Int)) (b := (0 : Int)) (by omega) rfl q187
                  exact ihL22_20 S170 lv123 hlv123_0 ⟨(hI176).1, hJ170.2⟩ fr175 ci177 (show _ ≤ ((S170.1 30)).toInt by omega) (show (1001 - ((S170.1 30)).toInt).toNat < _ by omega)
              · have q186 : (1 : Int) = (0 : Int) := aw_t_ne (a := (1 : Int)) (b := (0 : Int)) hb170 rfl q186
                exfalso
                omega
          · have q160 : (1 : Int) = (0 : Int) := aw_t_ne (a := (1 : Int)) (b := (0 : Int)) hb157 rfl q160
            exfalso
            omega
        · skip
          clear pb157
          show aw_W _ _ _ _ 256 lv123 [.int b157] _ _
          refine aw_z (tgt := 286) aj_d249 rfl rfl (fun q188 => ?_) (fun q188 => ?_)
          · have q188 : (0 : Int) ≠ (0 : Int) := aw_t_ne (a := (0 : Int)) (b := (0 : Int)) hb157 rfl q188
            exfalso
            omega
          · have q188 : (0 : Int) = (0 : Int) := aw_t_ne (a := (0 : Int)) (b := (0 : Int)) hb157 rfl q188
            refine aw_l2 aj_d249 rfl rfl hlv123_0 ?_
            refine aw_n aj_d249 rfl rfl ?_
            refine aw_k hU.1 aj_d249 rfl rfl [_] rfl rfl rfl (Nat.le_of_ble_eq_true rfl) (ar_isActing hU (hI127).1 (by omega)) ?_
            rintro _ zb189 ⟨fb189, b189, rfl, kb189⟩
            rw [fb189]
            rcases kb189 with ⟨hb189, pb189, qb189⟩ | ⟨hb189, pb189⟩
            · skip
              have qb189 : (S122.2.2.1 23 ((S122.1 50).toInt - 1).toNat).toInt = (43 : Int) := qb189
              have pb189 : 1 ≤ (S122.1 50).toInt := pb189
              show aw_W _ _ _ _ 265 lv123 [.int b189] _ _
              refine aw_z (tgt := 277) aj_d249 rfl rfl (fun q190 => ?_) (fun q190 => ?_)
              · have q190 : (1 : Int) ≠ (0 : Int) := aw_t_ne (a := (1 : Int)) (b := (0 : Int)) hb189 rfl q190
                refine aw_l2 aj_d249 rfl rfl hlv123_0 ?_
                have hw191 : 1 ≤ (S122.1 50).toInt := by omega
                have pp191 := ar_CI_pop ci241 hw191 (by rw [qb189]; decide) rfl rfl
                refine aw_k hU.1 aj_d249 rfl rfl [] rfl rfl rfl (Nat.le_of_ble_eq_true rfl) (ar_done hU (hI127).1 hI125.2 (by omega) (show 1 ≤ (S122.1 50).toInt by omega) (show 22 ≤ (S122.1 51).toInt by have := pp191.2; omega)) ?_
                rintro _ S191 ⟨hT191, fc191, ⟨b191, rfl, hb191, hG191, ck191⟩ | ⟨b191, rfl, hb191, hG191, ck191, r5191, r6191⟩⟩
                · skip
                  have fr192 := aw_fr_tr fr126 (aw_fr_sub (F := [24, 25, 31, 50, 51]) (A := [14, 15, 16, 17, 18, 19]) (by decide) (by decide) fc191)
                  have hI193 : aw_I s h (aw_sm S191) S191 := ⟨hT191, aw_sm_rf⟩
                  show aw_W _ _ _ _ 281 lv123 [.int b191] _ _
                  refine aw_z (tgt := 241) aj_d249 rfl rfl (fun q194 => ?_) (fun q194 => ?_)
                  · have q194 : (0 : Int) ≠ (0 : Int) := aw_t_ne (a := (0 : Int)) (b := (0 : Int)) hb191 rfl q194
                    exfalso
                    omega
                  · have q194 : (0 : Int) = (0 : Int) := aw_t_ne (a := (0 : Int)) (b := (0 : Int)) hb191 rfl q194
                    refine aw_n aj_d249 rfl rfl ?_
                    refine aw_e aj_d249 rfl rfl ?_
                    have c195 : (S191.1 30).toInt = (S122.1 30).toInt := (congrArg Int32.toInt (fc191.1 30 (by decide)).1).trans rfl
                    have b196 : 0 ≤ (S191.1 30).toInt ∧ (S191.1 30).toInt ≤ 1001 := aw_bd_f hs (hI193).1 (by decide) rfl
                    exact ⟨(hI193).1, fr192, Or.inl ⟨_, rfl, rfl, hG191, (show _ ≤ ((S191.1 30)).toInt by omega)⟩⟩
                · skip
                  have r5191 : (S191.1 50).toInt = (S122.1 50).toInt - 1 := r5191
                  have fr198 := aw_fr_tr fr126 (aw_fr_sub (F := [24, 25, 31, 50, 51]) (A := [14, 15, 16, 17, 18, 19]) (by decide) (by decide) fc191)
                  have hI199 : aw_I s h (aw_sm S191) S191 := ⟨hT191, aw_sm_rf⟩
                  have ci197 : ar_CI (ar_mf (S191.2.2.1 23)) ((S191.1 50).toInt).toNat (S191.1 46).toInt ((S191.1 51).toInt - 20) (S191.1 46).toInt 1 := by
                    rw [(fc191.2 23 (by decide)).1, (fc191.1 46 (by decide)).1]
                    exact (ar_CI_pop ci241 hw191 (by rw [qb189]; decide) r5191 (by rw [r6191]; omega)).1
                  have c200 : (S191.1 46).toInt = (S122.1 46).toInt := (congrArg Int32.toInt (fc191.1 46 (by decide)).1).trans rfl
                  have b201 : 0 ≤ (S191.1 46).toInt ∧ (S191.1 46).toInt ≤ 8 := aw_bd_f hs (hI199).1 (by decide) rfl
                  have b202 : 0 ≤ (S191.1 50).toInt ∧ (S191.1 50).toInt ≤ 63 := aw_bd_f hs (hI199).1 (by decide) rfl
                  have b203 : 0 ≤ (S191.1 51).toInt ∧ (S191.1 51).toInt ≤ 48 := aw_bd_f hs (hI199).1 (by decide) rfl
                  have c204 : (S191.1 30).toInt = (S122.1 30).toInt := (congrArg Int32.toInt (fc191.1 30 (by decide)).1).trans rfl
                  have b205 : 0 ≤ (S191.1 30).toInt ∧ (S191.1 30).toInt ≤ 1001 := aw_bd_f hs (hI199).1 (by decide) rfl
                  have cb206 := ar_CI_b ci197 (by omega)
                  show aw_W _ _ _ _ 281 lv123 [.int b191] _ _
                  refine aw_z (tgt := 241) aj_d249 rfl rfl (fun q207 => ?_) (fun q207 => ?_)
                  · have q207 : (1 : Int) ≠ (0 : Int) := aw_t_ne (a := (1 : Int)) (b := (0 : Int)) hb191 rfl q207
                    have c208 : (S191.1 26).toInt = (S122.1 26).toInt := (congrArg Int32.toInt (fc191.1 26 (by decide)).1).trans rfl
                    have b209 : 0 ≤ (S191.1 26).toInt ∧ (S191.1 26).toInt ≤ 5 := aw_bd_f hs (hI199).1 (by decide) rfl
                    have c210 : (S191.1 29).toInt = (S122.1 29).toInt := (congrArg Int32.toInt (fc191.1 29 (by decide)).1).trans rfl
                    exact ihL241_120 S191 lv123 (x124) hlv123_0 hlv123_1 ⟨(hI199).1, hG191⟩ fr198 (by first | omega | decide) ci197 (show _ ≤ ((S191.1 30)).toInt by omega) (show _ ≤ ((S191.1 30)).toInt by omega) (show ((S191.1 26)).toInt = 3 ∧ (((S191.1 29)).toInt = 42 ∨ ((S191.1 29)).toInt = 43 ∨ ((S191.1 29)).toInt = 45) by omega) (show (((S191.1 50)).toInt).toNat < _ by omega)
                  · have q207 : (1 : Int) = (0 : Int) := aw_t_ne (a := (1 : Int)) (b := (0 : Int)) hb191 rfl q207
                    exfalso
                    omega
              · have q190 : (1 : Int) = (0 : Int) := aw_t_ne (a := (1 : Int)) (b := (0 : Int)) hb189 rfl q190
                exfalso
                omega
            · skip
              have pb189 : ar_hd (¬ (1 ≤ (S122.1 50).toInt ∧ (S122.2.2.1 23 ((S122.1 50).toInt - 1).toNat).toInt = (43 : Int))) := ar_mk pb189
              show aw_W _ _ _ _ 265 lv123 [.int b189] _ _
              refine aw_z (tgt := 277) aj_d249 rfl rfl (fun q211 => ?_) (fun q211 => ?_)
              · have q211 : (0 : Int) ≠ (0 : Int) := aw_t_ne (a := (0 : Int)) (b := (0 : Int)) hb189 rfl q211
                exfalso
                omega
              · have q211 : (0 : Int) = (0 : Int) := aw_t_ne (a := (0 : Int)) (b := (0 : Int)) hb189 rfl q211
                refine aw_l2 aj_d249 rfl rfl hlv123_0 ?_
                refine aw_n aj_d249 rfl rfl ?_
                refine aw_k hU.1 aj_d249 rfl rfl [_] rfl rfl rfl (Nat.le_of_ble_eq_true rfl) (ar_isActing hU (hI127).1 (by omega)) ?_
                rintro _ zb212 ⟨fb212, b212, rfl, kb212⟩
                rw [fb212]
                rcases kb212 with ⟨hb212, pb212, qb212⟩ | ⟨hb212, pb212⟩
                · skip
                  have qb212 : (S122.2.2.1 23 ((S122.1 50).toInt - 1).toNat).toInt = (45 : Int) := qb212
                  have pb212 : 1 ≤ (S122.1 50).toInt := pb212
                  show aw_W _ _ _ _ 274 lv123 [.int b212] _ _
                  refine aw_z (tgt := 286) aj_d249 rfl rfl (fun q213 => ?_) (fun q213 => ?_)
                  · have q213 : (1 : Int) = (0 : Int) := aw_t_eq (a := (1 : Int)) (b := (0 : Int)) hb212 rfl q213
                    exfalso
                    omega
                  · have q213 : (1 : Int) ≠ (0 : Int) := aw_t_eq (a := (1 : Int)) (b := (0 : Int)) hb212 rfl q213
                    refine aw_l2 aj_d249 rfl rfl hlv123_0 ?_
                    have hw214 : 1 ≤ (S122.1 50).toInt := by omega
                    have pp214 := ar_CI_pop ci241 hw214 (by rw [qb212]; decide) rfl rfl
                    refine aw_k hU.1 aj_d249 rfl rfl [] rfl rfl rfl (Nat.le_of_ble_eq_true rfl) (ar_done hU (hI127).1 hI125.2 (by omega) (show 1 ≤ (S122.1 50).toInt by omega) (show 22 ≤ (S122.1 51).toInt by have := pp214.2; omega)) ?_
                    rintro _ S214 ⟨hT214, fc214, ⟨b214, rfl, hb214, hG214, ck214⟩ | ⟨b214, rfl, hb214, hG214, ck214, r5214, r6214⟩⟩
                    · skip
                      have fr215 := aw_fr_tr fr126 (aw_fr_sub (F := [24, 25, 31, 50, 51]) (A := [14, 15, 16, 17, 18, 19]) (by decide) (by decide) fc214)
                      have hI216 : aw_I s h (aw_sm S214) S214 := ⟨hT214, aw_sm_rf⟩
                      show aw_W _ _ _ _ 281 lv123 [.int b214] _ _
                      refine aw_z (tgt := 241) aj_d249 rfl rfl (fun q217 => ?_) (fun q217 => ?_)
                      · have q217 : (0 : Int) ≠ (0 : Int) := aw_t_ne (a := (0 : Int)) (b := (0 : Int)) hb214 rfl q217
                        exfalso
                        omega
                      · have q217 : (0 : Int) = (0 : Int) := aw_t_ne (a := (0 : Int)) (b := (0 : Int)) hb214 rfl q217
                        refine aw_n aj_d249 rfl rfl ?_
                        refine aw_e aj_d249 rfl rfl ?_
                        have c218 : (S214.1 30).toInt = (S122.1 30).toInt := (congrArg Int32.toInt (fc214.1 30 (by decide)).1).trans rfl
                        have b219 : 0 ≤ (S214.1 30).toInt ∧ (S214.1 30).toInt ≤ 1001 := aw_bd_f hs (hI216).1 (by decide) rfl
                        exact ⟨(hI216).1, fr215, Or.inl ⟨_, rfl, rfl, hG214, (show _ ≤ ((S214.1 30)).toInt by omega)⟩⟩
                    · skip
                      have r5214 : (S214.1 50).toInt = (S122.1 50).toInt - 1 := r5214
                      have fr221 := aw_fr_tr fr126 (aw_fr_sub (F := [24, 25, 31, 50, 51]) (A := [14, 15, 16, 17, 18, 19]) (by decide) (by decide) fc214)
                      have hI222 : aw_I s h (aw_sm S214) S214 := ⟨hT214, aw_sm_rf⟩
                      have ci220 : ar_CI (ar_mf (S214.2.2.1 23)) ((S214.1 50).toInt).toNat (S214.1 46).toInt ((S214.1 51).toInt - 20) (S214.1 46).toInt 1 := by
                        rw [(fc214.2 23 (by decide)).1, (fc214.1 46 (by decide)).1]
                        exact (ar_CI_pop ci241 hw214 (by rw [qb212]; decide) r5214 (by rw [r6214]; omega)).1
                      have c223 : (S214.1 46).toInt = (S122.1 46).toInt := (congrArg Int32.toInt (fc214.1 46 (by decide)).1).trans rfl
                      have b224 : 0 ≤ (S214.1 46).toInt ∧ (S214.1 46).toInt ≤ 8 := aw_bd_f hs (hI222).1 (by decide) rfl
                      have b225 : 0 ≤ (S214.1 50).toInt ∧ (S214.1 50).toInt ≤ 63 := aw_bd_f hs (hI222).1 (by decide) rfl
                      have b226 : 0 ≤ (S214.1 51).toInt ∧ (S214.1 51).toInt ≤ 48 := aw_bd_f hs (hI222).1 (by decide) rfl
                      have c227 : (S214.1 30).toInt = (S122.1 30).toInt := (congrArg Int32.toInt (fc214.1 30 (by decide)).1).trans rfl
                      have b228 : 0 ≤ (S214.1 30).toInt ∧ (S214.1 30).toInt ≤ 1001 := aw_bd_f hs (hI222).1 (by decide) rfl
                      have cb229 := ar_CI_b ci220 (by omega)
                      show aw_W _ _ _ _ 281 lv123 [.int b214] _ _
                      refine aw_z (tgt := 241) aj_d249 rfl rfl (fun q230 => ?_) (fun q230 => ?_)
                      · have q230 : (1 : Int) ≠ (0 : Int) := aw_t_ne (a := (1 : Int)) (b := (0 : Int)) hb214 rfl q230
                        have c231 : (S214.1 26).toInt = (S122.1 26).toInt := (congrArg Int32.toInt (fc214.1 26 (by decide)).1).trans rfl
                        have b232 : 0 ≤ (S214.1 26).toInt ∧ (S214.1 26).toInt ≤ 5 := aw_bd_f hs (hI222).1 (by decide) rfl
                        have c233 : (S214.1 29).toInt = (S122.1 29).toInt := (congrArg Int32.toInt (fc214.1 29 (by decide)).1).trans rfl
                        exact ihL241_120 S214 lv123 (x124) hlv123_0 hlv123_1 ⟨(hI222).1, hG214⟩ fr221 (by first | omega | decide) ci220 (show _ ≤ ((S214.1 30)).toInt by omega) (show _ ≤ ((S214.1 30)).toInt by omega) (show ((S214.1 26)).toInt = 3 ∧ (((S214.1 29)).toInt = 42 ∨ ((S214.1 29)).toInt = 43 ∨ ((S214.1 29)).toInt = 45) by omega) (show (((S214.1 50)).toInt).toNat < _ by omega)
                      · have q230 : (1 : Int) = (0 : Int) := aw_t_ne (a := (1 : Int)) (b := (0 : Int)) hb214 rfl q230
                        exfalso
                        omega
                · skip
                  have pb212 : ar_hd (¬ (1 ≤ (S122.1 50).toInt ∧ (S122.2.2.1 23 ((S122.1 50).toInt - 1).toNat).toInt = (45 : Int))) := ar_mk pb212
                  show aw_W _ _ _ _ 274 lv123 [.int b212] _ _
                  refine aw_z (tgt := 286) aj_d249 rfl rfl (fun q234 => ?_) (fun q234 => ?_)
                  · have q234 : (0 : Int) = (0 : Int) := aw_t_eq (a := (0 : Int)) (b := (0 : Int)) hb212 rfl q234
                    refine aw_l2 aj_d249 rfl rfl hlv123_0 ?_
                    refine aw_g hU.1 aj_d249 rfl rfl (by decide) (v := .ref 140) rfl ?_
                    refine aw_l2 aj_d249 rfl rfl hlv123_0 ?_
                    refine aw_g hU.1 aj_d249 rfl rfl (by decide) (v := .int (S122.1 50)) rfl ?_
                    refine aw_l2 aj_d249 rfl rfl hlv123_0 ?_
                    refine aw_g hU.1 aj_d249 rfl rfl (by decide) (v := .int (S122.1 29)) rfl ?_
                    refine aw_st (k := 23) hU.1 aj_d249 (Or.inl ⟨rfl, rfl⟩) rfl (by decide) (by decide) rfl (a := (S122.1 50).toInt) rfl (by omega) (by omega) ?_
                    have hI235 := aw_I_a (aw_UV hU aw_Gs_sm) (k := 23) (j := ((S122.1 50).toInt).toNat) (v := aj_nar 0 (S122.1 29)) hI127 (by decide) (by decide) (by decide) rfl (by decide) (by decide) rfl (aw_full _)
                    have fr236 := aw_fr_a (k := 23) (j := ((S122.1 50).toInt).toNat) (v := aj_nar 0 (S122.1 29)) (by decide) fr126
                    refine aw_l2 aj_d249 rfl rfl hlv123_0 ?_
                    refine aw_g hU.1 aj_d249 rfl rfl (by decide) (v := .ref 141) rfl ?_
                    refine aw_l2 aj_d249 rfl rfl hlv123_0 ?_
                    refine aw_g hU.1 aj_d249 rfl rfl (by decide) (v := .int (S122.1 50)) rfl ?_
                    refine aw_l2 aj_d249 rfl rfl hlv123_0 ?_
                    have b237 : 0 ≤ (S122.1 27).toInt ∧ (S122.1 27).toInt ≤ 4000 := aw_bd_f hs (hI127).1 (by decide) rfl
                    refine aw_g hU.1 aj_d249 rfl rfl (by decide) (v := .int (S122.1 27)) rfl ?_
                    refine aw_st (k := 24) hU.1 aj_d249 (Or.inl ⟨rfl, rfl⟩) rfl (by decide) (by decide) rfl (a := (S122.1 50).toInt) rfl (by omega) (by omega) ?_
                    have hI238 := aw_I_a (aw_UV hU aw_Gs_sm) (k := 24) (j := ((S122.1 50).toInt).toNat) (v := aj_nar 0 (S122.1 27)) hI235 (by decide) (by decide) (by decide) rfl (by decide) (by decide) rfl (aw_full _)
                    have fr239 := aw_fr_a (k := 24) (j := ((S122.1 50).toInt).toNat) (v := aj_nar 0 (S122.1 27)) (by decide) fr236
                    refine aw_l2 aj_d249 rfl rfl hlv123_0 ?_
                    refine aw_n aj_d249 rfl rfl ?_
                    refine aw_g hU.1 aj_d249 rfl rfl (by decide) (v := .int (S122.1 50)) rfl ?_
                    refine aw_n aj_d249 rfl rfl ?_
                    refine aw_add aj_d249 rfl (a := (S122.1 50).toInt) (b := (1 : Int)) rfl rfl (by omega) (by omega) (fun x240 ex240 => ?_)
                    refine aw_p hU.1 aj_d249 rfl rfl (by decide) rfl ?_
                    have hI241 := aw_I_f (aw_UV hU aw_Gs_sm) (k := 50) (v := x240) hI238 (by decide) (by decide) rfl (aw_bp (a := x240.toInt) rfl (by omega) (by omega))
                    have fr242 := aw_fr_f (k := 50) (v := x240) (by decide) fr239
                    have ci243 : ar_CI (ar_mf (((aw_wf (aw_wa (aw_wa S122 23 ((S122.1 50).toInt).toNat (aj_nar 0 (S122.1 29))) 24 ((S122.1 50).toInt).toNat (aj_nar 0 (S122.1 27))) 50 x240)).2.2.1 23)) ((((aw_wf (aw_wa (aw_wa S122 23 ((S122.1 50).toInt).toNat (aj_nar 0 (S122.1 29))) 24 ((S122.1 50).toInt).toNat (aj_nar 0 (S122.1 27))) 50 x240)).1 50).toInt).toNat (((aw_wf (aw_wa (aw_wa S122 23 ((S122.1 50).toInt).toNat (aj_nar 0 (S122.1 29))) 24 ((S122.1 50).toInt).toNat (aj_nar 0 (S122.1 27))) 50 x240)).1 46).toInt ((((aw_wf (aw_wa (aw_wa S122 23 ((S122.1 50).toInt).toNat (aj_nar 0 (S122.1 29))) 24 ((S122.1 50).toInt).toNat (aj_nar 0 (S122.1 27))) 50 x240)).1 51).toInt - 20) (((aw_wf (aw_wa (aw_wa S122 23 ((S122.1 50).toInt).toNat (aj_nar 0 (S122.1 29))) 24 ((S122.1 50).toInt).toNat (aj_nar 0 (S122.1 27))) 50 x240)).1 46).toInt 0 := by
                      show ar_CI (ar_mf (upd (S122.2.2.1 23) ((S122.1 50).toInt).toNat ((S122.1 29)))) ((x240).toInt).toNat ((S122.1 46).toInt) ((S122.1 51).toInt - 20) ((S122.1 46).toInt) 0
                      rw [show ((x240).toInt).toNat = ((S122.1 50).toInt).toNat + 1 by omega, ar_mf_upd]
                      have e7 : ((S122.1 50).toInt).toNat - 1 = ((S122.1 50).toInt - 1).toNat := by omega
                      refine ar_CI_op ci241 ?_
                      rw [e7]
                      have n38 : ¬ (1 ≤ ((S122.1 50).toInt).toNat ∧ ((ar_mf (S122.2.2.1 23)) ((S122.1 50).toInt - 1).toNat).toInt = 38) := fun z => (ar_un pb133) ⟨by omega, ar_mp_i38 z.2⟩
                      have n124 : ¬ (1 ≤ ((S122.1 50).toInt).toNat ∧ ((ar_mf (S122.2.2.1 23)) ((S122.1 50).toInt - 1).toNat).toInt = 124) := fun z => (ar_mp_i124 z.2).elim (fun y => (ar_un pb189) ⟨by omega, y⟩) (fun y => (ar_un pb212) ⟨by omega, y⟩)
                      by_cases k9 : ((S122.1 29)).toInt = 42
                      · exact Or.inl ⟨by rw [ar_mp_42 k9]; rfl, n38⟩
                      · exact Or.inr ⟨by rw [ar_mp_124 (by omega)]; rfl, n38, n124⟩
                    refine aw_l2 aj_d249 rfl rfl hlv123_0 ?_
                    refine aw_k hU.1 aj_d249 rfl rfl [] rfl rfl rfl (Nat.le_of_ble_eq_true rfl) (aw_toK hU aw_Gs_G (con := ac_c264a) (by omega) (ar_264a hU.2.1 (aw_SPc hU.2.2 aw_Gs_G) aw_kpc (arc_214b hU) (arc_215 hU)) ⟨(hI241).1, (aw_G_sm hI241.2 hI125.2)⟩ ⟨(aw_g117 hU.2.2), trivial⟩ (aw_gQ_of hU (fun e he => by
                        simp only [List.mem_cons, List.not_mem_nil, or_false] at he
                        rcases he with rfl | rfl
                        · exact ⟨by decide, (show (3 : Int) ≤ ((S122.1 26)).toInt by omega), (show ((S122.1 26)).toInt ≤ (3 : Int) by omega)⟩
                        · exact ⟨by decide, (show (0 : Int) ≤ ((S122.1 29)).toInt by omega), (show ((S122.1 29)).toInt ≤ (62 : Int) by omega)⟩))) ?_
                    rintro r244 S244 ⟨hr244, hJ244, fc244, po244, -⟩
                    have hT244 := hJ244.1
                    replace fc244 := aw_fr_sub (F' := [24, 25, 26, 27, 28, 29, 30, 31, 47]) (A' := []) (by decide) (by decide) fc244
                    rcases ar_bool hU (hI241).1 hT244 hr244 po244 with ⟨b244, rfl, hb244, cf244⟩ | ⟨b244, rfl, hb244, ck244, gq244⟩
                    · skip
                      have cf244 : (S122.1 30).toInt + 0 ≤ (S244.1 30).toInt := cf244
                      have fr245 := aw_fr_tr fr242 (aw_fr_sub (F := [24, 25, 26, 27, 28, 29, 30, 31, 47]) (A := []) (by decide) (by decide) fc244)
                      have hI246 : aw_I s h (aw_sm S244) S244 := ⟨hT244, aw_sm_rf⟩
                      show aw_W _ _ _ _ 326 lv123 [.int b244] _ _
                      refine aw_z (tgt := 18) aj_d249 rfl rfl (fun q247 => ?_) (fun q247 => ?_)
                      · have q247 : (0 : Int) ≠ (0 : Int) := aw_t_ne (a := (0 : Int)) (b := (0 : Int)) hb244 rfl q247
                        exfalso
                        omega
                      · have q247 : (0 : Int) = (0 : Int) := aw_t_ne (a := (0 : Int)) (b := (0 : Int)) hb244 rfl q247
                        refine aw_n aj_d249 rfl rfl ?_
                        refine aw_e aj_d249 rfl rfl ?_
                        have b248 : 0 ≤ (S244.1 30).toInt ∧ (S244.1 30).toInt ≤ 1001 := aw_bd_f hs (hI246).1 (by decide) rfl
                        exact ⟨(hI246).1, fr245, Or.inl ⟨_, rfl, rfl, hJ244.2, (show _ ≤ ((S244.1 30)).toInt by omega)⟩⟩
                    · skip
                      have ck244 : (S122.1 30).toInt + 1 ≤ (S244.1 30).toInt := ck244
                      have fr249 := aw_fr_tr fr242 (aw_fr_sub (F := [24, 25, 26, 27, 28, 29, 30, 31, 47]) (A := []) (by decide) (by decide) fc244)
                      have hI250 : aw_I s h (aw_sm S244) S244 := ⟨hT244, aw_sm_rf⟩
                      have ci251 : ar_CI (ar_mf (S244.2.2.1 23)) ((S244.1 50).toInt).toNat (S244.1 46).toInt ((S244.1 51).toInt - 20) (S244.1 46).toInt 0 := by
                        rw [(fc244.2 23 (by decide)).1, (fc244.1 50 (by decide)).1, (fc244.1 46 (by decide)).1, (fc244.1 51 (by decide)).1]
                        exact ci243
                      have c252 : (S244.1 46).toInt = (S122.1 46).toInt := (congrArg Int32.toInt (fc244.1 46 (by decide)).1).trans rfl
                      have b253 : 0 ≤ (S244.1 46).toInt ∧ (S244.1 46).toInt ≤ 8 := aw_bd_f hs (hI250).1 (by decide) rfl
                      have c254 : (S244.1 50).toInt = x240.toInt := (congrArg Int32.toInt (fc244.1 50 (by decide)).1).trans rfl
                      have b255 : 0 ≤ (S244.1 50).toInt ∧ (S244.1 50).toInt ≤ 63 := aw_bd_f hs (hI250).1 (by decide) rfl
                      have c256 : (S244.1 51).toInt = (S122.1 51).toInt := (congrArg Int32.toInt (fc244.1 51 (by decide)).1).trans rfl
                      have b257 : 0 ≤ (S244.1 51).toInt ∧ (S244.1 51).toInt ≤ 48 := aw_bd_f hs (hI250).1 (by decide) rfl
                      have b258 : 0 ≤ (S244.1 30).toInt ∧ (S244.1 30).toInt ≤ 1001 := aw_bd_f hs (hI250).1 (by decide) rfl
                      have cb259 := ar_CI_b ci251 (by omega)
                      show aw_W _ _ _ _ 326 lv123 [.int b244] _ _
                      refine aw_z (tgt := 18) aj_d249 rfl rfl (fun q260 => ?_) (fun q260 => ?_)
                      · have q260 : (1 : Int) ≠ (0 : Int) := aw_t_ne (a := (1 : Int)) (b := (0 : Int)) hb244 rfl q260
                        refine aw_l0 aj_d249 rfl rfl hlv123_1 ?_
                        refine aw_z (tgt := 331) aj_d249 rfl rfl (fun q261 => ?_) (fun q261 => ?_)
                        · have q261 : (1 : Int) = (0 : Int) := aw_t_eq (a := (1 : Int)) (b := (0 : Int)) (by omega) rfl q261
                          exfalso
                          omega
                        · have q261 : (1 : Int) ≠ (0 : Int) := aw_t_eq (a := (1 : Int)) (b := (0 : Int)) (by omega) rfl q261
                          exact ihL22_20 S244 lv123 hlv123_0 ⟨(hI250).1, hJ244.2⟩ fr249 ci251 (show _ ≤ ((S244.1 30)).toInt by omega) (show (1001 - ((S244.1 30)).toInt).toNat < _ by omega)
                      · have q260 : (1 : Int) = (0 : Int) := aw_t_ne (a := (1 : Int)) (b := (0 : Int)) hb244 rfl q260
                        exfalso
                        omega
                  · have q234 : (0 : Int) ≠ (0 : Int) := aw_t_eq (a := (0 : Int)) (b := (0 : Int)) hb212 rfl q234
                    exfalso
                    omega
theorem ar_q_L348_284 (hU : aw_U tb s h) (hd : 10 ≤ d + 1) (N22 : Nat) (S22 : aj_S) (ihL22_20 : ∀ (S22 : aj_S) (lv23 : aj_V), (aj_lv lv23 0 = some (.ref 117)) → (aw_I s h (aw_G (nm, fl, la, 0, 0, ht)) S22) → (aw_fr [24, 25, 26, 27, 28, 29, 30, 31, 33, 34, 35, 36, 38, 39, 40, 46, 47, 50, 51, 52, 53, 54, 56, 58] [14, 15, 16, 17, 18, 19, 23, 24, 25, 26, 27] S S22) → (ar_CI (ar_mf (S22.2.2.1 23)) ((S22.1 50).toInt).toNat (S22.1 46).toInt ((S22.1 51).toInt - 20) (S22.1 46).toInt 0) → ((S.1 30).toInt + 0 ≤ (S22.1 30).toInt) → (1001 - (S22.1 30).toInt).toNat < N22 → aw_W tb h d aj_m249 22 lv23 [] S22 ((ar_QT s h (nm, fl, la, 0, 0, ht) [24, 25, 26, 27, 28, 29, 30, 31, 33, 34, 35, 36, 38, 39, 40, 46, 47, 50, 51, 52, 53, 54, 56, 58] [14, 15, 16, 17, 18, 19, 23, 24, 25, 26, 27] S (fun _ => True)))) (hm22 : (1001 - (S22.1 30).toInt).toNat < N22 + 1) (S111 : aj_S) : ∀ (N : Nat) (S286 : aj_S) (lv287 : aj_V), (aj_lv lv287 0 = some (.ref 117)) → (aw_I s h (aw_G (nm, fl, la, 0, 0, ht)) S286) → (aw_fr [24, 25, 26, 27, 28, 29, 30, 31, 33, 34, 35, 36, 38, 39, 40, 46, 47, 50, 51, 52, 53, 54, 56, 58] [14, 15, 16, 17, 18, 19, 23, 24, 25, 26, 27] S S286) → (ar_CI (ar_mf (S286.2.2.1 23)) ((S286.1 50).toInt).toNat (S286.1 46).toInt ((S286.1 51).toInt - 20) (S286.1 46).toInt 1) → ((S.1 30).toInt + 1 ≤ (S286.1 30).toInt) → ((S286.1 46).toInt ≤ 0) → ((S286.1 50).toInt).toNat < N → aw_W tb h d aj_m249 348 lv287 [] S286 ((ar_QT s h (nm, fl, la, 0, 0, ht) [24, 25, 26, 27, 28, 29, 30, 31, 33, 34, 35, 36, 38, 39, 40, 46, 47, 50, 51, 52, 53, 54, 56, 58] [14, 15, 16, 17, 18, 19, 23, 24, 25, 26, 27] S (fun _ => True))) := by
  have hs : aw_sT s := aw_hy_sT hU.2.2
  intro N348
  induction N348 with
  | zero =>
    intro S286 lv287  hlv287_0 hI288 fr289 ci348 ck348 o348 hm348
    omega
  | succ N348 ihL348_284 =>
    intro S286 lv287  hlv287_0 hI288 fr289 ci348 ck348 o348 hm348
    have hI290 : aw_I s h (aw_sm S286) S286 := ⟨hI288.1, aw_sm_rf⟩
    have b291 : 0 ≤ (S286.1 46).toInt ∧ (S286.1 46).toInt ≤ 8 := aw_bd_f hs (hI290).1 (by decide) rfl
    have b292 : 0 ≤ (S286.1 50).toInt ∧ (S286.1 50).toInt ≤ 63 := aw_bd_f hs (hI290).1 (by decide) rfl
    have b293 : 0 ≤ (S286.1 51).toInt ∧ (S286.1 51).toInt ≤ 48 := aw_bd_f hs (hI290).1 (by decide) rfl
    have b294 : 0 ≤ (S286.1 30).toInt ∧ (S286.1 30).toInt ≤ 1001 := aw_bd_f hs (hI290).1 (by decide) rfl
    have cb295 := ar_CI_b ci348 (by omega)
    refine aw_l2 aj_d249 rfl rfl hlv287_0 ?_
    refine aw_g hU.1 aj_d249 rfl rfl (by decide) (v := .int (S286.1 50)) rfl ?_
    refine aw_z (tgt := 364) aj_d249 rfl rfl (fun q296 => ?_) (fun q296 => ?_)
    · have q296 : (S286.1 50).toInt ≤ (0 : Int) := aw_t_le (a := (S286.1 50).toInt) (b := (0 : Int)) rfl rfl q296
      refine aw_n aj_d249 rfl rfl ?_
      refine aw_e aj_d249 rfl rfl ?_
      exact ⟨(hI290).1, fr289, Or.inr ⟨_, rfl, rfl, hI288.2, (show _ + 1 ≤ ((S286.1 30)).toInt by omega), trivial⟩⟩
    · have q296 : (S286.1 50).toInt > (0 : Int) := aw_t_le (a := (S286.1 50).toInt) (b := (0 : Int)) rfl rfl q296
      refine aw_l2 aj_d249 rfl rfl hlv287_0 ?_
      have hw297 : 1 ≤ (S286.1 50).toInt := by omega
      have pp297 := ar_CI_pop ci348 hw297 (fun z => ar_CI_o0 ci348 (by omega) hw297 (ar_mp_40.mpr z)) rfl rfl
      refine aw_k hU.1 aj_d249 rfl rfl [] rfl rfl rfl (Nat.le_of_ble_eq_true rfl) (ar_done hU (hI290).1 hI288.2 (by omega) (show 1 ≤ (S286.1 50).toInt by omega) (show 22 ≤ (S286.1 51).toInt by have := pp297.2; omega)) ?_
      rintro _ S297 ⟨hT297, fc297, ⟨b297, rfl, hb297, hG297, ck297⟩ | ⟨b297, rfl, hb297, hG297, ck297, r5297, r6297⟩⟩
      · skip
        have fr298 := aw_fr_tr fr289 (aw_fr_sub (F := [24, 25, 31, 50, 51]) (A := [14, 15, 16, 17, 18, 19]) (by decide) (by decide) fc297)
        have hI299 : aw_I s h (aw_sm S297) S297 := ⟨hT297, aw_sm_rf⟩
        show aw_W _ _ _ _ 359 lv287 [.int b297] _ _
        refine aw_z (tgt := 348) aj_d249 rfl rfl (fun q300 => ?_) (fun q300 => ?_)
        · have q300 : (0 : Int) ≠ (0 : Int) := aw_t_ne (a := (0 : Int)) (b := (0 : Int)) hb297 rfl q300
          exfalso
          omega
        · have q300 : (0 : Int) = (0 : Int) := aw_t_ne (a := (0 : Int)) (b := (0 : Int)) hb297 rfl q300
          refine aw_n aj_d249 rfl rfl ?_
          refine aw_e aj_d249 rfl rfl ?_
          have c301 : (S297.1 30).toInt = (S286.1 30).toInt := (congrArg Int32.toInt (fc297.1 30 (by decide)).1).trans rfl
          have b302 : 0 ≤ (S297.1 30).toInt ∧ (S297.1 30).toInt ≤ 1001 := aw_bd_f hs (hI299).1 (by decide) rfl
          exact ⟨(hI299).1, fr298, Or.inl ⟨_, rfl, rfl, hG297, (show _ ≤ ((S297.1 30)).toInt by omega)⟩⟩
      · skip
        have r5297 : (S297.1 50).toInt = (S286.1 50).toInt - 1 := r5297
        have fr304 := aw_fr_tr fr289 (aw_fr_sub (F := [24, 25, 31, 50, 51]) (A := [14, 15, 16, 17, 18, 19]) (by decide) (by decide) fc297)
        have hI305 : aw_I s h (aw_sm S297) S297 := ⟨hT297, aw_sm_rf⟩
        have ci303 : ar_CI (ar_mf (S297.2.2.1 23)) ((S297.1 50).toInt).toNat (S297.1 46).toInt ((S297.1 51).toInt - 20) (S297.1 46).toInt 1 := by
          rw [(fc297.2 23 (by decide)).1, (fc297.1 46 (by decide)).1]
          exact (ar_CI_pop ci348 hw297 (fun z => ar_CI_o0 ci348 (by omega) hw297 (ar_mp_40.mpr z)) r5297 (by rw [r6297]; omega)).1
        have c306 : (S297.1 46).toInt = (S286.1 46).toInt := (congrArg Int32.toInt (fc297.1 46 (by decide)).1).trans rfl
        have b307 : 0 ≤ (S297.1 46).toInt ∧ (S297.1 46).toInt ≤ 8 := aw_bd_f hs (hI305).1 (by decide) rfl
        have b308 : 0 ≤ (S297.1 50).toInt ∧ (S297.1 50).toInt ≤ 63 := aw_bd_f hs (hI305).1 (by decide) rfl
        have b309 : 0 ≤ (S297.1 51).toInt ∧ (S297.1 51).toInt ≤ 48 := aw_bd_f hs (hI305).1 (by decide) rfl
        have c310 : (S297.1 30).toInt = (S286.1 30).toInt := (congrArg Int32.toInt (fc297.1 30 (by decide)).1).trans rfl
        have b311 : 0 ≤ (S297.1 30).toInt ∧ (S297.1 30).toInt ≤ 1001 := aw_bd_f hs (hI305).1 (by decide) rfl
        have cb312 := ar_CI_b ci303 (by omega)
        show aw_W _ _ _ _ 359 lv287 [.int b297] _ _
        refine aw_z (tgt := 348) aj_d249 rfl rfl (fun q313 => ?_) (fun q313 => ?_)
        · have q313 : (1 : Int) ≠ (0 : Int) := aw_t_ne (a := (1 : Int)) (b := (0 : Int)) hb297 rfl q313
          exact ihL348_284 S297 lv287 hlv287_0 ⟨(hI305).1, hG297⟩ fr304 ci303 (show _ ≤ ((S297.1 30)).toInt by omega) (show ((S297.1 46)).toInt ≤ 0 by omega) (show (((S297.1 50)).toInt).toNat < _ by omega)
        · have q313 : (1 : Int) = (0 : Int) := aw_t_ne (a := (1 : Int)) (b := (0 : Int)) hb297 rfl q313
          exfalso
          omega
theorem ar_q_L204_109 (hU : aw_U tb s h) (hd : 10 ≤ d + 1) (N22 : Nat) (S22 : aj_S) (ihL22_20 : ∀ (S22 : aj_S) (lv23 : aj_V), (aj_lv lv23 0 = some (.ref 117)) → (aw_I s h (aw_G (nm, fl, la, 0, 0, ht)) S22) → (aw_fr [24, 25, 26, 27, 28, 29, 30, 31, 33, 34, 35, 36, 38, 39, 40, 46, 47, 50, 51, 52, 53, 54, 56, 58] [14, 15, 16, 17, 18, 19, 23, 24, 25, 26, 27] S S22) → (ar_CI (ar_mf (S22.2.2.1 23)) ((S22.1 50).toInt).toNat (S22.1 46).toInt ((S22.1 51).toInt - 20) (S22.1 46).toInt 0) → ((S.1 30).toInt + 0 ≤ (S22.1 30).toInt) → (1001 - (S22.1 30).toInt).toNat < N22 → aw_W tb h d aj_m249 22 lv23 [] S22 ((ar_QT s h (nm, fl, la, 0, 0, ht) [24, 25, 26, 27, 28, 29, 30, 31, 33, 34, 35, 36, 38, 39, 40, 46, 47, 50, 51, 52, 53, 54, 56, 58] [14, 15, 16, 17, 18, 19, 23, 24, 25, 26, 27] S (fun _ => True)))) (hm22 : (1001 - (S22.1 30).toInt).toNat < N22 + 1) : ∀ (S111 : aj_S) (lv112 : aj_V), (aj_lv lv112 0 = some (.ref 117)) → (aw_I s h (aw_G (nm, fl, la, 0, 0, ht)) S111) → (aw_fr [24, 25, 26, 27, 28, 29, 30, 31, 33, 34, 35, 36, 38, 39, 40, 46, 47, 50, 51, 52, 53, 54, 56, 58] [14, 15, 16, 17, 18, 19, 23, 24, 25, 26, 27] S S111) → (ar_CI (ar_mf (S111.2.2.1 23)) ((S111.1 50).toInt).toNat (S111.1 46).toInt ((S111.1 51).toInt - 20) (S111.1 46).toInt 1) → ((S.1 30).toInt + 1 ≤ (S111.1 30).toInt) → ((S22.1 30).toInt + 1 ≤ (S111.1 30).toInt) → aw_W tb h d aj_m249 204 lv112 [] S111 ((ar_QT s h (nm, fl, la, 0, 0, ht) [24, 25, 26, 27, 28, 29, 30, 31, 33, 34, 35, 36, 38, 39, 40, 46, 47, 50, 51, 52, 53, 54, 56, 58] [14, 15, 16, 17, 18, 19, 23, 24, 25, 26, 27] S (fun _ => True))) := by
  have hs : aw_sT s := aw_hy_sT hU.2.2
  intro S111 lv112  hlv112_0 hI113 fr114 ci204 ck204 cA204
  have hI115 : aw_I s h (aw_sm S111) S111 := ⟨hI113.1, aw_sm_rf⟩
  have b116 : 0 ≤ (S111.1 46).toInt ∧ (S111.1 46).toInt ≤ 8 := aw_bd_f hs (hI115).1 (by decide) rfl
  have b117 : 0 ≤ (S111.1 50).toInt ∧ (S111.1 50).toInt ≤ 63 := aw_bd_f hs (hI115).1 (by decide) rfl
  have b118 : 0 ≤ (S111.1 51).toInt ∧ (S111.1 51).toInt ≤ 48 := aw_bd_f hs (hI115).1 (by decide) rfl
  have b119 : 0 ≤ (S111.1 30).toInt ∧ (S111.1 30).toInt ≤ 1001 := aw_bd_f hs (hI115).1 (by decide) rfl
  have cb120 := ar_CI_b ci204 (by omega)
  refine aw_l2 aj_d249 rfl rfl hlv112_0 ?_
  refine aw_n aj_d249 rfl rfl ?_
  refine aw_k hU.1 aj_d249 rfl rfl [_] rfl rfl rfl (Nat.le_of_ble_eq_true rfl) (ar_isSign hU (by omega) (b := (43 : Int)) rfl) ?_
  have b264 : 0 ≤ (S111.1 26).toInt ∧ (S111.1 26).toInt ≤ 5 := aw_bd_f hs (hI115).1 (by decide) rfl
  rintro _ S263 ⟨eS263, b262, rfl, kb262⟩
  rw [eS263]
  rcases kb262 with ⟨hb262, pb262, qb262⟩ | ⟨hb262, pb262⟩
  · skip
    have pb262 : ((S111.1 26)).toInt = 3 := pb262
    have qb262 : ((S111.1 29)).toInt = (43 : Int) := qb262
    show aw_W _ _ _ _ 210 lv112 [.int b262] _ _
    refine aw_z (tgt := 231) aj_d249 rfl rfl (fun q265 => ?_) (fun q265 => ?_)
    · have q265 : (1 : Int) ≠ (0 : Int) := aw_t_ne (a := (1 : Int)) (b := (0 : Int)) hb262 rfl q265
      refine aw_n aj_d249 rfl rfl ?_
      refine aw_n aj_d249 rfl rfl ?_
      refine aw_t0 (j := 1) aj_d249 rfl (by decide) rfl ?_
      obtain ⟨lv266, elv266⟩ : ∃ l, l = aj_set1 lv112 1 (.int (Int32.ofInt 1)) := ⟨_, rfl⟩
      rw [← elv266]
      have hlv266_0 : aj_lv lv266 0 = some (.ref 117) := cw_e1 elv266 hlv112_0 (by decide) (Or.inr rfl)
      have hlv266_1 : aj_lv lv266 1 = some (.int (Int32.ofInt 1)) := by rw [elv266]; exact ak_set1_eq _ _ _
      show aw_W _ _ _ _ 237 lv266 [] _ _
      refine aw_l0 aj_d249 rfl rfl hlv266_1 ?_
      refine aw_z (tgt := 18) aj_d249 rfl rfl (fun q267 => ?_) (fun q267 => ?_)
      · have q267 : (1 : Int) = (0 : Int) := aw_t_eq (a := (1 : Int)) (b := (0 : Int)) rfl rfl q267
        exfalso
        omega
      · have q267 : (1 : Int) ≠ (0 : Int) := aw_t_eq (a := (1 : Int)) (b := (0 : Int)) rfl rfl q267
        exact (ar_q_L241_120 hU hd N22 S22 ihL22_20 hm22 S111) _ S111 lv266 ((Int32.ofInt 1)) hlv266_0 hlv266_1 ⟨(hI115).1, hI113.2⟩ fr114 (by first | omega | decide) ci204 (show _ ≤ ((S111.1 30)).toInt by omega) (show _ ≤ ((S111.1 30)).toInt by omega) (show ((S111.1 26)).toInt = 3 ∧ (((S111.1 29)).toInt = 42 ∨ ((S111.1 29)).toInt = 43 ∨ ((S111.1 29)).toInt = 45) by omega) (Nat.lt_succ_self _)
    · have q265 : (1 : Int) = (0 : Int) := aw_t_ne (a := (1 : Int)) (b := (0 : Int)) hb262 rfl q265
      exfalso
      omega
  · skip
    clear pb262
    show aw_W _ _ _ _ 210 lv112 [.int b262] _ _
    refine aw_z (tgt := 231) aj_d249 rfl rfl (fun q268 => ?_) (fun q268 => ?_)
    · have q268 : (0 : Int) ≠ (0 : Int) := aw_t_ne (a := (0 : Int)) (b := (0 : Int)) hb262 rfl q268
      exfalso
      omega
    · have q268 : (0 : Int) = (0 : Int) := aw_t_ne (a := (0 : Int)) (b := (0 : Int)) hb262 rfl q268
      refine aw_l2 aj_d249 rfl rfl hlv112_0 ?_
      refine aw_n aj_d249 rfl rfl ?_
      refine aw_k hU.1 aj_d249 rfl rfl [_] rfl rfl rfl (Nat.le_of_ble_eq_true rfl) (ar_isSign hU (by omega) (b := (45 : Int)) rfl) ?_
      rintro _ S270 ⟨eS270, b269, rfl, kb269⟩
      rw [eS270]
      rcases kb269 with ⟨hb269, pb269, qb269⟩ | ⟨hb269, pb269⟩
      · skip
        have pb269 : ((S111.1 26)).toInt = 3 := pb269
        have qb269 : ((S111.1 29)).toInt = (45 : Int) := qb269
        show aw_W _ _ _ _ 219 lv112 [.int b269] _ _
        refine aw_z (tgt := 231) aj_d249 rfl rfl (fun q271 => ?_) (fun q271 => ?_)
        · have q271 : (1 : Int) ≠ (0 : Int) := aw_t_ne (a := (1 : Int)) (b := (0 : Int)) hb269 rfl q271
          refine aw_n aj_d249 rfl rfl ?_
          refine aw_n aj_d249 rfl rfl ?_
          refine aw_t0 (j := 1) aj_d249 rfl (by decide) rfl ?_
          obtain ⟨lv272, elv272⟩ : ∃ l, l = aj_set1 lv112 1 (.int (Int32.ofInt 1)) := ⟨_, rfl⟩
          rw [← elv272]
          have hlv272_0 : aj_lv lv272 0 = some (.ref 117) := cw_e1 elv272 hlv112_0 (by decide) (Or.inr rfl)
          have hlv272_1 : aj_lv lv272 1 = some (.int (Int32.ofInt 1)) := by rw [elv272]; exact ak_set1_eq _ _ _
          show aw_W _ _ _ _ 237 lv272 [] _ _
          refine aw_l0 aj_d249 rfl rfl hlv272_1 ?_
          refine aw_z (tgt := 18) aj_d249 rfl rfl (fun q273 => ?_) (fun q273 => ?_)
          · have q273 : (1 : Int) = (0 : Int) := aw_t_eq (a := (1 : Int)) (b := (0 : Int)) rfl rfl q273
            exfalso
            omega
          · have q273 : (1 : Int) ≠ (0 : Int) := aw_t_eq (a := (1 : Int)) (b := (0 : Int)) rfl rfl q273
            exact (ar_q_L241_120 hU hd N22 S22 ihL22_20 hm22 S111) _ S111 lv272 ((Int32.ofInt 1)) hlv272_0 hlv272_1 ⟨(hI115).1, hI113.2⟩ fr114 (by first | omega | decide) ci204 (show _ ≤ ((S111.1 30)).toInt by omega) (show _ ≤ ((S111.1 30)).toInt by omega) (show ((S111.1 26)).toInt = 3 ∧ (((S111.1 29)).toInt = 42 ∨ ((S111.1 29)).toInt = 43 ∨ ((S111.1 29)).toInt = 45) by omega) (Nat.lt_succ_self _)
        · have q271 : (1 : Int) = (0 : Int) := aw_t_ne (a := (1 : Int)) (b := (0 : Int)) hb269 rfl q271
          exfalso
          omega
      · skip
        clear pb269
        show aw_W _ _ _ _ 219 lv112 [.int b269] _ _
        refine aw_z (tgt := 231) aj_d249 rfl rfl (fun q274 => ?_) (fun q274 => ?_)
        · have q274 : (0 : Int) ≠ (0 : Int) := aw_t_ne (a := (0 : Int)) (b := (0 : Int)) hb269 rfl q274
          exfalso
          omega
        · have q274 : (0 : Int) = (0 : Int) := aw_t_ne (a := (0 : Int)) (b := (0 : Int)) hb269 rfl q274
          refine aw_l2 aj_d249 rfl rfl hlv112_0 ?_
          refine aw_n aj_d249 rfl rfl ?_
          refine aw_k hU.1 aj_d249 rfl rfl [_] rfl rfl rfl (Nat.le_of_ble_eq_true rfl) (ar_isSign hU (by omega) (b := (42 : Int)) rfl) ?_
          rintro _ S276 ⟨eS276, b275, rfl, kb275⟩
          rw [eS276]
          rcases kb275 with ⟨hb275, pb275, qb275⟩ | ⟨hb275, pb275⟩
          · skip
            have pb275 : ((S111.1 26)).toInt = 3 := pb275
            have qb275 : ((S111.1 29)).toInt = (42 : Int) := qb275
            show aw_W _ _ _ _ 228 lv112 [.int b275] _ _
            refine aw_z (tgt := 235) aj_d249 rfl rfl (fun q277 => ?_) (fun q277 => ?_)
            · have q277 : (1 : Int) = (0 : Int) := aw_t_eq (a := (1 : Int)) (b := (0 : Int)) hb275 rfl q277
              exfalso
              omega
            · have q277 : (1 : Int) ≠ (0 : Int) := aw_t_eq (a := (1 : Int)) (b := (0 : Int)) hb275 rfl q277
              refine aw_n aj_d249 rfl rfl ?_
              refine aw_n aj_d249 rfl rfl ?_
              refine aw_t0 (j := 1) aj_d249 rfl (by decide) rfl ?_
              obtain ⟨lv278, elv278⟩ : ∃ l, l = aj_set1 lv112 1 (.int (Int32.ofInt 1)) := ⟨_, rfl⟩
              rw [← elv278]
              have hlv278_0 : aj_lv lv278 0 = some (.ref 117) := cw_e1 elv278 hlv112_0 (by decide) (Or.inr rfl)
              have hlv278_1 : aj_lv lv278 1 = some (.int (Int32.ofInt 1)) := by rw [elv278]; exact ak_set1_eq _ _ _
              show aw_W _ _ _ _ 237 lv278 [] _ _
              refine aw_l0 aj_d249 rfl rfl hlv278_1 ?_
              refine aw_z (tgt := 18) aj_d249 rfl rfl (fun q279 => ?_) (fun q279 => ?_)
              · have q279 : (1 : Int) = (0 : Int) := aw_t_eq (a := (1 : Int)) (b := (0 : Int)) rfl rfl q279
                exfalso
                omega
              · have q279 : (1 : Int) ≠ (0 : Int) := aw_t_eq (a := (1 : Int)) (b := (0 : Int)) rfl rfl q279
                exact (ar_q_L241_120 hU hd N22 S22 ihL22_20 hm22 S111) _ S111 lv278 ((Int32.ofInt 1)) hlv278_0 hlv278_1 ⟨(hI115).1, hI113.2⟩ fr114 (by first | omega | decide) ci204 (show _ ≤ ((S111.1 30)).toInt by omega) (show _ ≤ ((S111.1 30)).toInt by omega) (show ((S111.1 26)).toInt = 3 ∧ (((S111.1 29)).toInt = 42 ∨ ((S111.1 29)).toInt = 43 ∨ ((S111.1 29)).toInt = 45) by omega) (Nat.lt_succ_self _)
          · skip
            clear pb275
            show aw_W _ _ _ _ 228 lv112 [.int b275] _ _
            refine aw_z (tgt := 235) aj_d249 rfl rfl (fun q280 => ?_) (fun q280 => ?_)
            · have q280 : (0 : Int) = (0 : Int) := aw_t_eq (a := (0 : Int)) (b := (0 : Int)) hb275 rfl q280
              refine aw_n aj_d249 rfl rfl ?_
              refine aw_t0 (j := 1) aj_d249 rfl (by decide) rfl ?_
              obtain ⟨lv281, elv281⟩ : ∃ l, l = aj_set1 lv112 1 (.int (Int32.ofInt 0)) := ⟨_, rfl⟩
              rw [← elv281]
              have hlv281_0 : aj_lv lv281 0 = some (.ref 117) := cw_e1 elv281 hlv112_0 (by decide) (Or.inr rfl)
              have hlv281_1 : aj_lv lv281 1 = some (.int (Int32.ofInt 0)) := by rw [elv281]; exact ak_set1_eq _ _ _
              show aw_W _ _ _ _ 237 lv281 [] _ _
              refine aw_l0 aj_d249 rfl rfl hlv281_1 ?_
              refine aw_z (tgt := 18) aj_d249 rfl rfl (fun q282 => ?_) (fun q282 => ?_)
              · have q282 : (0 : Int) = (0 : Int) := aw_t_eq (a := (0 : Int)) (b := (0 : Int)) rfl rfl q282
                refine aw_l0 aj_d249 rfl rfl hlv281_1 ?_
                refine aw_z (tgt := 331) aj_d249 rfl rfl (fun q283 => ?_) (fun q283 => ?_)
                · have q283 : (0 : Int) = (0 : Int) := aw_t_eq (a := (0 : Int)) (b := (0 : Int)) rfl rfl q283
                  refine aw_l2 aj_d249 rfl rfl hlv281_0 ?_
                  refine aw_g hU.1 aj_d249 rfl rfl (by decide) (v := .int (S111.1 46)) rfl ?_
                  refine aw_z (tgt := 348) aj_d249 rfl rfl (fun q284 => ?_) (fun q284 => ?_)
                  · have q284 : (S111.1 46).toInt ≤ (0 : Int) := aw_t_le (a := (S111.1 46).toInt) (b := (0 : Int)) rfl rfl q284
                    exact (ar_q_L348_284 hU hd N22 S22 ihL22_20 hm22 S111) _ S111 lv281 hlv281_0 ⟨(hI115).1, hI113.2⟩ fr114 ci204 (show _ ≤ ((S111.1 30)).toInt by omega) (show ((S111.1 46)).toInt ≤ 0 by omega) (Nat.lt_succ_self _)
                  · have q284 : (S111.1 46).toInt > (0 : Int) := aw_t_le (a := (S111.1 46).toInt) (b := (0 : Int)) rfl rfl q284
                    refine aw_l2 aj_d249 rfl rfl hlv281_0 ?_
                    refine aw_n aj_d249 rfl rfl ?_
                    refine aw_l2 aj_d249 rfl rfl hlv281_0 ?_
                    have b314 : 0 ≤ (S111.1 27).toInt ∧ (S111.1 27).toInt ≤ 4000 := aw_bd_f hs (hI115).1 (by decide) rfl
                    refine aw_g hU.1 aj_d249 rfl rfl (by decide) (v := .int (S111.1 27)) rfl ?_
                    refine aw_k hU.1 aj_d249 rfl rfl [_, _] rfl rfl rfl (Nat.le_of_ble_eq_true rfl) (ar_stop hU (hI115).1 (by omega) (a := (1 : Int)) rfl) ?_
                    rintro _ S315 ⟨hT315, fc315, rfl, hz315⟩
                    have hG315 := aw_G_stop hI113.2 fc315 (by omega)
                    have fr316 := aw_fr_tr fr114 (aw_fr_sub (F := [24, 25, 31]) (A := []) (by decide) (by decide) fc315)
                    have hI317 : aw_I s h (aw_sm S315) S315 := ⟨hT315, aw_sm_rf⟩
                    show aw_W _ _ _ _ 347 lv281 [.int (Int32.ofInt 0)] _ _
                    refine aw_e aj_d249 rfl rfl ?_
                    have c318 : (S315.1 30).toInt = (S111.1 30).toInt := (congrArg Int32.toInt (fc315.1 30 (by decide)).1).trans rfl
                    have b319 : 0 ≤ (S315.1 30).toInt ∧ (S315.1 30).toInt ≤ 1001 := aw_bd_f hs (hI317).1 (by decide) rfl
                    exact ⟨(hI317).1, fr316, Or.inl ⟨_, rfl, rfl, hG315, (show _ ≤ ((S315.1 30)).toInt by omega)⟩⟩
                · have q283 : (0 : Int) ≠ (0 : Int) := aw_t_eq (a := (0 : Int)) (b := (0 : Int)) rfl rfl q283
                  exfalso
                  omega
              · have q282 : (0 : Int) ≠ (0 : Int) := aw_t_eq (a := (0 : Int)) (b := (0 : Int)) rfl rfl q282
                exfalso
                omega
            · have q280 : (0 : Int) ≠ (0 : Int) := aw_t_eq (a := (0 : Int)) (b := (0 : Int)) hb275 rfl q280
              exfalso
              omega
theorem ar_q_L241_331 (hU : aw_U tb s h) (hd : 10 ≤ d + 1) (N22 : Nat) (S22 : aj_S) (ihL22_20 : ∀ (S22 : aj_S) (lv23 : aj_V), (aj_lv lv23 0 = some (.ref 117)) → (aw_I s h (aw_G (nm, fl, la, 0, 0, ht)) S22) → (aw_fr [24, 25, 26, 27, 28, 29, 30, 31, 33, 34, 35, 36, 38, 39, 40, 46, 47, 50, 51, 52, 53, 54, 56, 58] [14, 15, 16, 17, 18, 19, 23, 24, 25, 26, 27] S S22) → (ar_CI (ar_mf (S22.2.2.1 23)) ((S22.1 50).toInt).toNat (S22.1 46).toInt ((S22.1 51).toInt - 20) (S22.1 46).toInt 0) → ((S.1 30).toInt + 0 ≤ (S22.1 30).toInt) → (1001 - (S22.1 30).toInt).toNat < N22 → aw_W tb h d aj_m249 22 lv23 [] S22 ((ar_QT s h (nm, fl, la, 0, 0, ht) [24, 25, 26, 27, 28, 29, 30, 31, 33, 34, 35, 36, 38, 39, 40, 46, 47, 50, 51, 52, 53, 54, 56, 58] [14, 15, 16, 17, 18, 19, 23, 24, 25, 26, 27] S (fun _ => True)))) (hm22 : (1001 - (S22.1 30).toInt).toNat < N22 + 1) (N128 : Nat) (S321 : aj_S) (ihL128_319 : ∀ (S321 : aj_S) (lv322 : aj_V), (aj_lv lv322 0 = some (.ref 117)) → (aw_I s h (aw_G (nm, fl, la, 0, 0, ht)) S321) → (aw_fr [24, 25, 26, 27, 28, 29, 30, 31, 33, 34, 35, 36, 38, 39, 40, 46, 47, 50, 51, 52, 53, 54, 56, 58] [14, 15, 16, 17, 18, 19, 23, 24, 25, 26, 27] S S321) → (ar_CI (ar_mf (S321.2.2.1 23)) ((S321.1 50).toInt).toNat (S321.1 46).toInt ((S321.1 51).toInt - 20) (S321.1 46).toInt 1) → ((S.1 30).toInt + 1 ≤ (S321.1 30).toInt) → ((S22.1 30).toInt + 1 ≤ (S321.1 30).toInt) → (1001 - (S321.1 30).toInt).toNat < N128 → aw_W tb h d aj_m249 128 lv322 [] S321 ((ar_QT s h (nm, fl, la, 0, 0, ht) [24, 25, 26, 27, 28, 29, 30, 31, 33, 34, 35, 36, 38, 39, 40, 46, 47, 50, 51, 52, 53, 54, 56, 58] [14, 15, 16, 17, 18, 19, 23, 24, 25, 26, 27] S (fun _ => True)))) (hm128 : (1001 - (S321.1 30).toInt).toNat < N128 + 1) : ∀ (N : Nat) (S333 : aj_S) (lv334 : aj_V) (x335 : Int32), (aj_lv lv334 0 = some (.ref 117)) → (aj_lv lv334 1 = some (.int x335)) → (aw_I s h (aw_G (nm, fl, la, 0, 0, ht)) S333) → (aw_fr [24, 25, 26, 27, 28, 29, 30, 31, 33, 34, 35, 36, 38, 39, 40, 46, 47, 50, 51, 52, 53, 54, 56, 58] [14, 15, 16, 17, 18, 19, 23, 24, 25, 26, 27] S S333) → (1 ≤ x335.toInt ∧ x335.toInt ≤ 1) → (ar_CI (ar_mf (S333.2.2.1 23)) ((S333.1 50).toInt).toNat (S333.1 46).toInt ((S333.1 51).toInt - 20) (S333.1 46).toInt 1) → ((S.1 30).toInt + 1 ≤ (S333.1 30).toInt) → ((S22.1 30).toInt + 1 ≤ (S333.1 30).toInt) → ((S333.1 26).toInt = 3 ∧ ((S333.1 29).toInt = 42 ∨ (S333.1 29).toInt = 43 ∨ (S333.1 29).toInt = 45)) → ((S333.1 50).toInt).toNat < N → aw_W tb h d aj_m249 241 lv334 [] S333 ((ar_QT s h (nm, fl, la, 0, 0, ht) [24, 25, 26, 27, 28, 29, 30, 31, 33, 34, 35, 36, 38, 39, 40, 46, 47, 50, 51, 52, 53, 54, 56, 58] [14, 15, 16, 17, 18, 19, 23, 24, 25, 26, 27] S (fun _ => True))) := by
  have hs : aw_sT s := aw_hy_sT hU.2.2
  intro N241
  induction N241 with
  | zero =>
    intro S333 lv334 x335 hlv334_0 hlv334_1 hI336 fr337 bx335 ci241 ck241 cA241 k241 hm241
    omega
  | succ N241 ihL241_331 =>
    intro S333 lv334 x335 hlv334_0 hlv334_1 hI336 fr337 bx335 ci241 ck241 cA241 k241 hm241
    have hI338 : aw_I s h (aw_sm S333) S333 := ⟨hI336.1, aw_sm_rf⟩
    have b339 : 0 ≤ (S333.1 46).toInt ∧ (S333.1 46).toInt ≤ 8 := aw_bd_f hs (hI338).1 (by decide) rfl
    have b340 : 0 ≤ (S333.1 50).toInt ∧ (S333.1 50).toInt ≤ 63 := aw_bd_f hs (hI338).1 (by decide) rfl
    have b341 : 0 ≤ (S333.1 51).toInt ∧ (S333.1 51).toInt ≤ 48 := aw_bd_f hs (hI338).1 (by decide) rfl
    have b342 : 0 ≤ (S333.1 30).toInt ∧ (S333.1 30).toInt ≤ 1001 := aw_bd_f hs (hI338).1 (by decide) rfl
    have cb343 := ar_CI_b ci241 (by omega)
    refine aw_l2 aj_d249 rfl rfl hlv334_0 ?_
    refine aw_n aj_d249 rfl rfl ?_
    refine aw_k hU.1 aj_d249 rfl rfl [_] rfl rfl rfl (Nat.le_of_ble_eq_true rfl) (ar_isActing hU (hI338).1 (by omega)) ?_
    rintro _ zb344 ⟨fb344, b344, rfl, kb344⟩
    rw [fb344]
    rcases kb344 with ⟨hb344, pb344, qb344⟩ | ⟨hb344, pb344⟩
    · skip
      have qb344 : (S333.2.2.1 23 ((S333.1 50).toInt - 1).toNat).toInt = (42 : Int) := qb344
      have pb344 : 1 ≤ (S333.1 50).toInt := pb344
      show aw_W _ _ _ _ 247 lv334 [.int b344] _ _
      refine aw_z (tgt := 277) aj_d249 rfl rfl (fun q345 => ?_) (fun q345 => ?_)
      · have q345 : (1 : Int) ≠ (0 : Int) := aw_t_ne (a := (1 : Int)) (b := (0 : Int)) hb344 rfl q345
        refine aw_l2 aj_d249 rfl rfl hlv334_0 ?_
        have hw346 : 1 ≤ (S333.1 50).toInt := by omega
        have pp346 := ar_CI_pop ci241 hw346 (by rw [qb344]; decide) rfl rfl
        refine aw_k hU.1 aj_d249 rfl rfl [] rfl rfl rfl (Nat.le_of_ble_eq_true rfl) (ar_done hU (hI338).1 hI336.2 (by omega) (show 1 ≤ (S333.1 50).toInt by omega) (show 22 ≤ (S333.1 51).toInt by have := pp346.2; omega)) ?_
        rintro _ S346 ⟨hT346, fc346, ⟨b346, rfl, hb346, hG346, ck346⟩ | ⟨b346, rfl, hb346, hG346, ck346, r5346, r6346⟩⟩
        · skip
          have fr347 := aw_fr_tr fr337 (aw_fr_sub (F := [24, 25, 31, 50, 51]) (A := [14, 15, 16, 17, 18, 19]) (by decide) (by decide) fc346)
          have hI348 : aw_I s h (aw_sm S346) S346 := ⟨hT346, aw_sm_rf⟩
          show aw_W _ _ _ _ 281 lv334 [.int b346] _ _
          refine aw_z (tgt := 241) aj_d249 rfl rfl (fun q349 => ?_) (fun q349 => ?_)
          · have q349 : (0 : Int) ≠ (0 : Int) := aw_t_ne (a := (0 : Int)) (b := (0 : Int)) hb346 rfl q349
            exfalso
            omega
          · have q349 : (0 : Int) = (0 : Int) := aw_t_ne (a := (0 : Int)) (b := (0 : Int)) hb346 rfl q349
            refine aw_n aj_d249 rfl rfl ?_
            refine aw_e aj_d249 rfl rfl ?_
            have c350 : (S346.1 30).toInt = (S333.1 30).toInt := (congrArg Int32.toInt (fc346.1 30 (by decide)).1).trans rfl
            have b351 : 0 ≤ (S346.1 30).toInt ∧ (S346.1 30).toInt ≤ 1001 := aw_bd_f hs (hI348).1 (by decide) rfl
            exact ⟨(hI348).1, fr347, Or.inl ⟨_, rfl, rfl, hG346, (show _ ≤ ((S346.1 30)).toInt by omega)⟩⟩
        · skip
          have r5346 : (S346.1 50).toInt = (S333.1 50).toInt - 1 := r5346
          have fr353 := aw_fr_tr fr337 (aw_fr_sub (F := [24, 25, 31, 50, 51]) (A := [14, 15, 16, 17, 18, 19]) (by decide) (by decide) fc346)
          have hI354 : aw_I s h (aw_sm S346) S346 := ⟨hT346, aw_sm_rf⟩
          have ci352 : ar_CI (ar_mf (S346.2.2.1 23)) ((S346.1 50).toInt).toNat (S346.1 46).toInt ((S346.1 51).toInt - 20) (S346.1 46).toInt 1 := by
            rw [(fc346.2 23 (by decide)).1, (fc346.1 46 (by decide)).1]
            exact (ar_CI_pop ci241 hw346 (by rw [qb344]; decide) r5346 (by rw [r6346]; omega)).1
          have c355 : (S346.1 46).toInt = (S333.1 46).toInt := (congrArg Int32.toInt (fc346.1 46 (by decide)).1).trans rfl
          have b356 : 0 ≤ (S346.1 46).toInt ∧ (S346.1 46).toInt ≤ 8 := aw_bd_f hs (hI354).1 (by decide) rfl
          have b357 : 0 ≤ (S346.1 50).toInt ∧ (S346.1 50).toInt ≤ 63 := aw_bd_f hs (hI354).1 (by decide) rfl
          have b358 : 0 ≤ (S346.1 51).toInt ∧ (S346.1 51).toInt ≤ 48 := aw_bd_f hs (hI354).1 (by decide) rfl
          have c359 : (S346.1 30).toInt = (S333.1 30).toInt := (congrArg Int32.toInt (fc346.1 30 (by decide)).1).trans rfl
          have b360 : 0 ≤ (S346.1 30).toInt ∧ (S346.1 30).toInt ≤ 1001 := aw_bd_f hs (hI354).1 (by decide) rfl
          have cb361 := ar_CI_b ci352 (by omega)
          show aw_W _ _ _ _ 281 lv334 [.int b346] _ _
          refine aw_z (tgt := 241) aj_d249 rfl rfl (fun q362 => ?_) (fun q362 => ?_)
          · have q362 : (1 : Int) ≠ (0 : Int) := aw_t_ne (a := (1 : Int)) (b := (0 : Int)) hb346 rfl q362
            have b363 : 0 ≤ (S333.1 26).toInt ∧ (S333.1 26).toInt ≤ 5 := aw_bd_f hs (hI338).1 (by decide) rfl
            have c364 : (S346.1 26).toInt = (S333.1 26).toInt := (congrArg Int32.toInt (fc346.1 26 (by decide)).1).trans rfl
            have b365 : 0 ≤ (S346.1 26).toInt ∧ (S346.1 26).toInt ≤ 5 := aw_bd_f hs (hI354).1 (by decide) rfl
            have c366 : (S346.1 29).toInt = (S333.1 29).toInt := (congrArg Int32.toInt (fc346.1 29 (by decide)).1).trans rfl
            exact ihL241_331 S346 lv334 (x335) hlv334_0 hlv334_1 ⟨(hI354).1, hG346⟩ fr353 (by first | omega | decide) ci352 (show _ ≤ ((S346.1 30)).toInt by omega) (show _ ≤ ((S346.1 30)).toInt by omega) (show ((S346.1 26)).toInt = 3 ∧ (((S346.1 29)).toInt = 42 ∨ ((S346.1 29)).toInt = 43 ∨ ((S346.1 29)).toInt = 45) by omega) (show (((S346.1 50)).toInt).toNat < _ by omega)
          · have q362 : (1 : Int) = (0 : Int) := aw_t_ne (a := (1 : Int)) (b := (0 : Int)) hb346 rfl q362
            exfalso
            omega
      · have q345 : (1 : Int) = (0 : Int) := aw_t_ne (a := (1 : Int)) (b := (0 : Int)) hb344 rfl q345
        exfalso
        omega
    · skip
      have pb344 : ar_hd (¬ (1 ≤ (S333.1 50).toInt ∧ (S333.2.2.1 23 ((S333.1 50).toInt - 1).toNat).toInt = (42 : Int))) := ar_mk pb344
      show aw_W _ _ _ _ 247 lv334 [.int b344] _ _
      refine aw_z (tgt := 277) aj_d249 rfl rfl (fun q367 => ?_) (fun q367 => ?_)
      · have q367 : (0 : Int) ≠ (0 : Int) := aw_t_ne (a := (0 : Int)) (b := (0 : Int)) hb344 rfl q367
        exfalso
        omega
      · have q367 : (0 : Int) = (0 : Int) := aw_t_ne (a := (0 : Int)) (b := (0 : Int)) hb344 rfl q367
        refine aw_l2 aj_d249 rfl rfl hlv334_0 ?_
        refine aw_n aj_d249 rfl rfl ?_
        refine aw_k hU.1 aj_d249 rfl rfl [_] rfl rfl rfl (Nat.le_of_ble_eq_true rfl) (ar_isSign hU (by omega) (b := (42 : Int)) rfl) ?_
        have b370 : 0 ≤ (S333.1 26).toInt ∧ (S333.1 26).toInt ≤ 5 := aw_bd_f hs (hI338).1 (by decide) rfl
        rintro _ S369 ⟨eS369, b368, rfl, kb368⟩
        rw [eS369]
        rcases kb368 with ⟨hb368, pb368, qb368⟩ | ⟨hb368, pb368⟩
        · skip
          have pb368 : ((S333.1 26)).toInt = 3 := pb368
          have qb368 : ((S333.1 29)).toInt = (42 : Int) := qb368
          show aw_W _ _ _ _ 256 lv334 [.int b368] _ _
          refine aw_z (tgt := 286) aj_d249 rfl rfl (fun q371 => ?_) (fun q371 => ?_)
          · have q371 : (1 : Int) ≠ (0 : Int) := aw_t_ne (a := (1 : Int)) (b := (0 : Int)) hb368 rfl q371
            refine aw_l2 aj_d249 rfl rfl hlv334_0 ?_
            refine aw_g hU.1 aj_d249 rfl rfl (by decide) (v := .ref 140) rfl ?_
            refine aw_l2 aj_d249 rfl rfl hlv334_0 ?_
            refine aw_g hU.1 aj_d249 rfl rfl (by decide) (v := .int (S333.1 50)) rfl ?_
            refine aw_l2 aj_d249 rfl rfl hlv334_0 ?_
            refine aw_g hU.1 aj_d249 rfl rfl (by decide) (v := .int (S333.1 29)) rfl ?_
            refine aw_st (k := 23) hU.1 aj_d249 (Or.inl ⟨rfl, rfl⟩) rfl (by decide) (by decide) rfl (a := (S333.1 50).toInt) rfl (by omega) (by omega) ?_
            have hI372 := aw_I_a (aw_UV hU aw_Gs_sm) (k := 23) (j := ((S333.1 50).toInt).toNat) (v := aj_nar 0 (S333.1 29)) hI338 (by decide) (by decide) (by decide) rfl (by decide) (by decide) rfl (aw_full _)
            have fr373 := aw_fr_a (k := 23) (j := ((S333.1 50).toInt).toNat) (v := aj_nar 0 (S333.1 29)) (by decide) fr337
            refine aw_l2 aj_d249 rfl rfl hlv334_0 ?_
            refine aw_g hU.1 aj_d249 rfl rfl (by decide) (v := .ref 141) rfl ?_
            refine aw_l2 aj_d249 rfl rfl hlv334_0 ?_
            refine aw_g hU.1 aj_d249 rfl rfl (by decide) (v := .int (S333.1 50)) rfl ?_
            refine aw_l2 aj_d249 rfl rfl hlv334_0 ?_
            have b374 : 0 ≤ (S333.1 27).toInt ∧ (S333.1 27).toInt ≤ 4000 := aw_bd_f hs (hI338).1 (by decide) rfl
            refine aw_g hU.1 aj_d249 rfl rfl (by decide) (v := .int (S333.1 27)) rfl ?_
            refine aw_st (k := 24) hU.1 aj_d249 (Or.inl ⟨rfl, rfl⟩) rfl (by decide) (by decide) rfl (a := (S333.1 50).toInt) rfl (by omega) (by omega) ?_
            have hI375 := aw_I_a (aw_UV hU aw_Gs_sm) (k := 24) (j := ((S333.1 50).toInt).toNat) (v := aj_nar 0 (S333.1 27)) hI372 (by decide) (by decide) (by decide) rfl (by decide) (by decide) rfl (aw_full _)
            have fr376 := aw_fr_a (k := 24) (j := ((S333.1 50).toInt).toNat) (v := aj_nar 0 (S333.1 27)) (by decide) fr373
            refine aw_l2 aj_d249 rfl rfl hlv334_0 ?_
            refine aw_n aj_d249 rfl rfl ?_
            refine aw_g hU.1 aj_d249 rfl rfl (by decide) (v := .int (S333.1 50)) rfl ?_
            refine aw_n aj_d249 rfl rfl ?_
            refine aw_add aj_d249 rfl (a := (S333.1 50).toInt) (b := (1 : Int)) rfl rfl (by omega) (by omega) (fun x377 ex377 => ?_)
            refine aw_p hU.1 aj_d249 rfl rfl (by decide) rfl ?_
            have hI378 := aw_I_f (aw_UV hU aw_Gs_sm) (k := 50) (v := x377) hI375 (by decide) (by decide) rfl (aw_bp (a := x377.toInt) rfl (by omega) (by omega))
            have fr379 := aw_fr_f (k := 50) (v := x377) (by decide) fr376
            have ci380 : ar_CI (ar_mf (((aw_wf (aw_wa (aw_wa S333 23 ((S333.1 50).toInt).toNat (aj_nar 0 (S333.1 29))) 24 ((S333.1 50).toInt).toNat (aj_nar 0 (S333.1 27))) 50 x377)).2.2.1 23)) ((((aw_wf (aw_wa (aw_wa S333 23 ((S333.1 50).toInt).toNat (aj_nar 0 (S333.1 29))) 24 ((S333.1 50).toInt).toNat (aj_nar 0 (S333.1 27))) 50 x377)).1 50).toInt).toNat (((aw_wf (aw_wa (aw_wa S333 23 ((S333.1 50).toInt).toNat (aj_nar 0 (S333.1 29))) 24 ((S333.1 50).toInt).toNat (aj_nar 0 (S333.1 27))) 50 x377)).1 46).toInt ((((aw_wf (aw_wa (aw_wa S333 23 ((S333.1 50).toInt).toNat (aj_nar 0 (S333.1 29))) 24 ((S333.1 50).toInt).toNat (aj_nar 0 (S333.1 27))) 50 x377)).1 51).toInt - 20) (((aw_wf (aw_wa (aw_wa S333 23 ((S333.1 50).toInt).toNat (aj_nar 0 (S333.1 29))) 24 ((S333.1 50).toInt).toNat (aj_nar 0 (S333.1 27))) 50 x377)).1 46).toInt 0 := by
              show ar_CI (ar_mf (upd (S333.2.2.1 23) ((S333.1 50).toInt).toNat ((S333.1 29)))) ((x377).toInt).toNat ((S333.1 46).toInt) ((S333.1 51).toInt - 20) ((S333.1 46).toInt) 0
              rw [show ((x377).toInt).toNat = ((S333.1 50).toInt).toNat + 1 by omega, ar_mf_upd]
              have e7 : ((S333.1 50).toInt).toNat - 1 = ((S333.1 50).toInt - 1).toNat := by omega
              refine ar_CI_op ci241 ?_
              rw [e7]
              have n38 : ¬ (1 ≤ ((S333.1 50).toInt).toNat ∧ ((ar_mf (S333.2.2.1 23)) ((S333.1 50).toInt - 1).toNat).toInt = 38) := fun z => (ar_un pb344) ⟨by omega, ar_mp_i38 z.2⟩
              exact Or.inl ⟨by rw [ar_mp_42 (by omega)]; rfl, n38⟩
            refine aw_l2 aj_d249 rfl rfl hlv334_0 ?_
            refine aw_k hU.1 aj_d249 rfl rfl [] rfl rfl rfl (Nat.le_of_ble_eq_true rfl) (aw_toK hU aw_Gs_G (con := ac_c264a) (by omega) (ar_264a hU.2.1 (aw_SPc hU.2.2 aw_Gs_G) aw_kpc (arc_214b hU) (arc_215 hU)) ⟨(hI378).1, (aw_G_sm hI378.2 hI336.2)⟩ ⟨(aw_g117 hU.2.2), trivial⟩ (aw_gQ_of hU (fun e he => by
                simp only [List.mem_cons, List.not_mem_nil, or_false] at he
                rcases he with rfl | rfl
                · exact ⟨by decide, (show (3 : Int) ≤ ((S333.1 26)).toInt by omega), (show ((S333.1 26)).toInt ≤ (3 : Int) by omega)⟩
                · exact ⟨by decide, (show (0 : Int) ≤ ((S333.1 29)).toInt by omega), (show ((S333.1 29)).toInt ≤ (62 : Int) by omega)⟩))) ?_
            rintro r381 S381 ⟨hr381, hJ381, fc381, po381, -⟩
            have hT381 := hJ381.1
            replace fc381 := aw_fr_sub (F' := [24, 25, 26, 27, 28, 29, 30, 31, 47]) (A' := []) (by decide) (by decide) fc381
            rcases ar_bool hU (hI378).1 hT381 hr381 po381 with ⟨b381, rfl, hb381, cf381⟩ | ⟨b381, rfl, hb381, ck381, gq381⟩
            · skip
              have cf381 : (S333.1 30).toInt + 0 ≤ (S381.1 30).toInt := cf381
              have fr382 := aw_fr_tr fr379 (aw_fr_sub (F := [24, 25, 26, 27, 28, 29, 30, 31, 47]) (A := []) (by decide) (by decide) fc381)
              have hI383 : aw_I s h (aw_sm S381) S381 := ⟨hT381, aw_sm_rf⟩
              show aw_W _ _ _ _ 326 lv334 [.int b381] _ _
              refine aw_z (tgt := 18) aj_d249 rfl rfl (fun q384 => ?_) (fun q384 => ?_)
              · have q384 : (0 : Int) ≠ (0 : Int) := aw_t_ne (a := (0 : Int)) (b := (0 : Int)) hb381 rfl q384
                exfalso
                omega
              · have q384 : (0 : Int) = (0 : Int) := aw_t_ne (a := (0 : Int)) (b := (0 : Int)) hb381 rfl q384
                refine aw_n aj_d249 rfl rfl ?_
                refine aw_e aj_d249 rfl rfl ?_
                have b385 : 0 ≤ (S381.1 30).toInt ∧ (S381.1 30).toInt ≤ 1001 := aw_bd_f hs (hI383).1 (by decide) rfl
                exact ⟨(hI383).1, fr382, Or.inl ⟨_, rfl, rfl, hJ381.2, (show _ ≤ ((S381.1 30)).toInt by omega)⟩⟩
            · skip
              have ck381 : (S333.1 30).toInt + 1 ≤ (S381.1 30).toInt := ck381
              have fr386 := aw_fr_tr fr379 (aw_fr_sub (F := [24, 25, 26, 27, 28, 29, 30, 31, 47]) (A := []) (by decide) (by decide) fc381)
              have hI387 : aw_I s h (aw_sm S381) S381 := ⟨hT381, aw_sm_rf⟩
              have ci388 : ar_CI (ar_mf (S381.2.2.1 23)) ((S381.1 50).toInt).toNat (S381.1 46).toInt ((S381.1 51).toInt - 20) (S381.1 46).toInt 0 := by
                rw [(fc381.2 23 (by decide)).1, (fc381.1 50 (by decide)).1, (fc381.1 46 (by decide)).1, (fc381.1 51 (by decide)).1]
                exact ci380
              have c389 : (S381.1 46).toInt = (S333.1 46).toInt := (congrArg Int32.toInt (fc381.1 46 (by decide)).1).trans rfl
              have b390 : 0 ≤ (S381.1 46).toInt ∧ (S381.1 46).toInt ≤ 8 := aw_bd_f hs (hI387).1 (by decide) rfl
              have c391 : (S381.1 50).toInt = x377.toInt := (congrArg Int32.toInt (fc381.1 50 (by decide)).1).trans rfl
              have b392 : 0 ≤ (S381.1 50).toInt ∧ (S381.1 50).toInt ≤ 63 := aw_bd_f hs (hI387).1 (by decide) rfl
              have c393 : (S381.1 51).toInt = (S333.1 51).toInt := (congrArg Int32.toInt (fc381.1 51 (by decide)).1).trans rfl
              have b394 : 0 ≤ (S381.1 51).toInt ∧ (S381.1 51).toInt ≤ 48 := aw_bd_f hs (hI387).1 (by decide) rfl
              have b395 : 0 ≤ (S381.1 30).toInt ∧ (S381.1 30).toInt ≤ 1001 := aw_bd_f hs (hI387).1 (by decide) rfl
              have cb396 := ar_CI_b ci388 (by omega)
              show aw_W _ _ _ _ 326 lv334 [.int b381] _ _
              refine aw_z (tgt := 18) aj_d249 rfl rfl (fun q397 => ?_) (fun q397 => ?_)
              · have q397 : (1 : Int) ≠ (0 : Int) := aw_t_ne (a := (1 : Int)) (b := (0 : Int)) hb381 rfl q397
                refine aw_l0 aj_d249 rfl rfl hlv334_1 ?_
                refine aw_z (tgt := 331) aj_d249 rfl rfl (fun q398 => ?_) (fun q398 => ?_)
                · have q398 : (1 : Int) = (0 : Int) := aw_t_eq (a := (1 : Int)) (b := (0 : Int)) (by omega) rfl q398
                  exfalso
                  omega
                · have q398 : (1 : Int) ≠ (0 : Int) := aw_t_eq (a := (1 : Int)) (b := (0 : Int)) (by omega) rfl q398
                  exact ihL22_20 S381 lv334 hlv334_0 ⟨(hI387).1, hJ381.2⟩ fr386 ci388 (show _ ≤ ((S381.1 30)).toInt by omega) (show (1001 - ((S381.1 30)).toInt).toNat < _ by omega)
              · have q397 : (1 : Int) = (0 : Int) := aw_t_ne (a := (1 : Int)) (b := (0 : Int)) hb381 rfl q397
                exfalso
                omega
          · have q371 : (1 : Int) = (0 : Int) := aw_t_ne (a := (1 : Int)) (b := (0 : Int)) hb368 rfl q371
            exfalso
            omega
        · skip
          clear pb368
          show aw_W _ _ _ _ 256 lv334 [.int b368] _ _
          refine aw_z (tgt := 286) aj_d249 rfl rfl (fun q399 => ?_) (fun q399 => ?_)
          · have q399 : (0 : Int) ≠ (0 : Int) := aw_t_ne (a := (0 : Int)) (b := (0 : Int)) hb368 rfl q399
            exfalso
            omega
          · have q399 : (0 : Int) = (0 : Int) := aw_t_ne (a := (0 : Int)) (b := (0 : Int)) hb368 rfl q399
            refine aw_l2 aj_d249 rfl rfl hlv334_0 ?_
            refine aw_n aj_d249 rfl rfl ?_
            refine aw_k hU.1 aj_d249 rfl rfl [_] rfl rfl rfl (Nat.le_of_ble_eq_true rfl) (ar_isActing hU (hI338).1 (by omega)) ?_
            rintro _ zb400 ⟨fb400, b400, rfl, kb400⟩
            rw [fb400]
            rcases kb400 with ⟨hb400, pb400, qb400⟩ | ⟨hb400, pb400⟩
            · skip
              have qb400 : (S333.2.2.1 23 ((S333.1 50).toInt - 1).toNat).toInt = (43 : Int) := qb400
              have pb400 : 1 ≤ (S333.1 50).toInt := pb400
              show aw_W _ _ _ _ 265 lv334 [.int b400] _ _
              refine aw_z (tgt := 277) aj_d249 rfl rfl (fun q401 => ?_) (fun q401 => ?_)
              · have q401 : (1 : Int) ≠ (0 : Int) := aw_t_ne (a := (1 : Int)) (b := (0 : Int)) hb400 rfl q401
                refine aw_l2 aj_d249 rfl rfl hlv334_0 ?_
                have hw402 : 1 ≤ (S333.1 50).toInt := by omega
                have pp402 := ar_CI_pop ci241 hw402 (by rw [qb400]; decide) rfl rfl
                refine aw_k hU.1 aj_d249 rfl rfl [] rfl rfl rfl (Nat.le_of_ble_eq_true rfl) (ar_done hU (hI338).1 hI336.2 (by omega) (show 1 ≤ (S333.1 50).toInt by omega) (show 22 ≤ (S333.1 51).toInt by have := pp402.2; omega)) ?_
                rintro _ S402 ⟨hT402, fc402, ⟨b402, rfl, hb402, hG402, ck402⟩ | ⟨b402, rfl, hb402, hG402, ck402, r5402, r6402⟩⟩
                · skip
                  have fr403 := aw_fr_tr fr337 (aw_fr_sub (F := [24, 25, 31, 50, 51]) (A := [14, 15, 16, 17, 18, 19]) (by decide) (by decide) fc402)
                  have hI404 : aw_I s h (aw_sm S402) S402 := ⟨hT402, aw_sm_rf⟩
                  show aw_W _ _ _ _ 281 lv334 [.int b402] _ _
                  refine aw_z (tgt := 241) aj_d249 rfl rfl (fun q405 => ?_) (fun q405 => ?_)
                  · have q405 : (0 : Int) ≠ (0 : Int) := aw_t_ne (a := (0 : Int)) (b := (0 : Int)) hb402 rfl q405
                    exfalso
                    omega
                  · have q405 : (0 : Int) = (0 : Int) := aw_t_ne (a := (0 : Int)) (b := (0 : Int)) hb402 rfl q405
                    refine aw_n aj_d249 rfl rfl ?_
                    refine aw_e aj_d249 rfl rfl ?_
                    have c406 : (S402.1 30).toInt = (S333.1 30).toInt := (congrArg Int32.toInt (fc402.1 30 (by decide)).1).trans rfl
                    have b407 : 0 ≤ (S402.1 30).toInt ∧ (S402.1 30).toInt ≤ 1001 := aw_bd_f hs (hI404).1 (by decide) rfl
                    exact ⟨(hI404).1, fr403, Or.inl ⟨_, rfl, rfl, hG402, (show _ ≤ ((S402.1 30)).toInt by omega)⟩⟩
                · skip
                  have r5402 : (S402.1 50).toInt = (S333.1 50).toInt - 1 := r5402
                  have fr409 := aw_fr_tr fr337 (aw_fr_sub (F := [24, 25, 31, 50, 51]) (A := [14, 15, 16, 17, 18, 19]) (by decide) (by decide) fc402)
                  have hI410 : aw_I s h (aw_sm S402) S402 := ⟨hT402, aw_sm_rf⟩
                  have ci408 : ar_CI (ar_mf (S402.2.2.1 23)) ((S402.1 50).toInt).toNat (S402.1 46).toInt ((S402.1 51).toInt - 20) (S402.1 46).toInt 1 := by
                    rw [(fc402.2 23 (by decide)).1, (fc402.1 46 (by decide)).1]
                    exact (ar_CI_pop ci241 hw402 (by rw [qb400]; decide) r5402 (by rw [r6402]; omega)).1
                  have c411 : (S402.1 46).toInt = (S333.1 46).toInt := (congrArg Int32.toInt (fc402.1 46 (by decide)).1).trans rfl
                  have b412 : 0 ≤ (S402.1 46).toInt ∧ (S402.1 46).toInt ≤ 8 := aw_bd_f hs (hI410).1 (by decide) rfl
                  have b413 : 0 ≤ (S402.1 50).toInt ∧ (S402.1 50).toInt ≤ 63 := aw_bd_f hs (hI410).1 (by decide) rfl
                  have b414 : 0 ≤ (S402.1 51).toInt ∧ (S402.1 51).toInt ≤ 48 := aw_bd_f hs (hI410).1 (by decide) rfl
                  have c415 : (S402.1 30).toInt = (S333.1 30).toInt := (congrArg Int32.toInt (fc402.1 30 (by decide)).1).trans rfl
                  have b416 : 0 ≤ (S402.1 30).toInt ∧ (S402.1 30).toInt ≤ 1001 := aw_bd_f hs (hI410).1 (by decide) rfl
                  have cb417 := ar_CI_b ci408 (by omega)
                  show aw_W _ _ _ _ 281 lv334 [.int b402] _ _
                  refine aw_z (tgt := 241) aj_d249 rfl rfl (fun q418 => ?_) (fun q418 => ?_)
                  · have q418 : (1 : Int) ≠ (0 : Int) := aw_t_ne (a := (1 : Int)) (b := (0 : Int)) hb402 rfl q418
                    have c419 : (S402.1 26).toInt = (S333.1 26).toInt := (congrArg Int32.toInt (fc402.1 26 (by decide)).1).trans rfl
                    have b420 : 0 ≤ (S402.1 26).toInt ∧ (S402.1 26).toInt ≤ 5 := aw_bd_f hs (hI410).1 (by decide) rfl
                    have c421 : (S402.1 29).toInt = (S333.1 29).toInt := (congrArg Int32.toInt (fc402.1 29 (by decide)).1).trans rfl
                    exact ihL241_331 S402 lv334 (x335) hlv334_0 hlv334_1 ⟨(hI410).1, hG402⟩ fr409 (by first | omega | decide) ci408 (show _ ≤ ((S402.1 30)).toInt by omega) (show _ ≤ ((S402.1 30)).toInt by omega) (show ((S402.1 26)).toInt = 3 ∧ (((S402.1 29)).toInt = 42 ∨ ((S402.1 29)).toInt = 43 ∨ ((S402.1 29)).toInt = 45) by omega) (show (((S402.1 50)).toInt).toNat < _ by omega)
                  · have q418 : (1 : Int) = (0 : Int) := aw_t_ne (a := (1 : Int)) (b := (0 : Int)) hb402 rfl q418
                    exfalso
                    omega
              · have q401 : (1 : Int) = (0 : Int) := aw_t_ne (a := (1 : Int)) (b := (0 : Int)) hb400 rfl q401
                exfalso
                omega
            · skip
              have pb400 : ar_hd (¬ (1 ≤ (S333.1 50).toInt ∧ (S333.2.2.1 23 ((S333.1 50).toInt - 1).toNat).toInt = (43 : Int))) := ar_mk pb400
              show aw_W _ _ _ _ 265 lv334 [.int b400] _ _
              refine aw_z (tgt := 277) aj_d249 rfl rfl (fun q422 => ?_) (fun q422 => ?_)
              · have q422 : (0 : Int) ≠ (0 : Int) := aw_t_ne (a := (0 : Int)) (b := (0 : Int)) hb400 rfl q422
                exfalso
                omega
              · have q422 : (0 : Int) = (0 : Int) := aw_t_ne (a := (0 : Int)) (b := (0 : Int)) hb400 rfl q422
                refine aw_l2 aj_d249 rfl rfl hlv334_0 ?_
                refine aw_n aj_d249 rfl rfl ?_
                refine aw_k hU.1 aj_d249 rfl rfl [_] rfl rfl rfl (Nat.le_of_ble_eq_true rfl) (ar_isActing hU (hI338).1 (by omega)) ?_
                rintro _ zb423 ⟨fb423, b423, rfl, kb423⟩
                rw [fb423]
                rcases kb423 with ⟨hb423, pb423, qb423⟩ | ⟨hb423, pb423⟩
                · skip
                  have qb423 : (S333.2.2.1 23 ((S333.1 50).toInt - 1).toNat).toInt = (45 : Int) := qb423
                  have pb423 : 1 ≤ (S333.1 50).toInt := pb423
                  show aw_W _ _ _ _ 274 lv334 [.int b423] _ _
                  refine aw_z (tgt := 286) aj_d249 rfl rfl (fun q424 => ?_) (fun q424 => ?_)
                  · have q424 : (1 : Int) = (0 : Int) := aw_t_eq (a := (1 : Int)) (b := (0 : Int)) hb423 rfl q424
                    exfalso
                    omega
                  · have q424 : (1 : Int) ≠ (0 : Int) := aw_t_eq (a := (1 : Int)) (b := (0 : Int)) hb423 rfl q424
                    refine aw_l2 aj_d249 rfl rfl hlv334_0 ?_
                    have hw425 : 1 ≤ (S333.1 50).toInt := by omega
                    have pp425 := ar_CI_pop ci241 hw425 (by rw [qb423]; decide) rfl rfl
                    refine aw_k hU.1 aj_d249 rfl rfl [] rfl rfl rfl (Nat.le_of_ble_eq_true rfl) (ar_done hU (hI338).1 hI336.2 (by omega) (show 1 ≤ (S333.1 50).toInt by omega) (show 22 ≤ (S333.1 51).toInt by have := pp425.2; omega)) ?_
                    rintro _ S425 ⟨hT425, fc425, ⟨b425, rfl, hb425, hG425, ck425⟩ | ⟨b425, rfl, hb425, hG425, ck425, r5425, r6425⟩⟩
                    · skip
                      have fr426 := aw_fr_tr fr337 (aw_fr_sub (F := [24, 25, 31, 50, 51]) (A := [14, 15, 16, 17, 18, 19]) (by decide) (by decide) fc425)
                      have hI427 : aw_I s h (aw_sm S425) S425 := ⟨hT425, aw_sm_rf⟩
                      show aw_W _ _ _ _ 281 lv334 [.int b425] _ _
                      refine aw_z (tgt := 241) aj_d249 rfl rfl (fun q428 => ?_) (fun q428 => ?_)
                      · have q428 : (0 : Int) ≠ (0 : Int) := aw_t_ne (a := (0 : Int)) (b := (0 : Int)) hb425 rfl q428
                        exfalso
                        omega
                      · have q428 : (0 : Int) = (0 : Int) := aw_t_ne (a := (0 : Int)) (b := (0 : Int)) hb425 rfl q428
                        refine aw_n aj_d249 rfl rfl ?_
                        refine aw_e aj_d249 rfl rfl ?_
                        have c429 : (S425.1 30).toInt = (S333.1 30).toInt := (congrArg Int32.toInt (fc425.1 30 (by decide)).1).trans rfl
                        have b430 : 0 ≤ (S425.1 30).toInt ∧ (S425.1 30).toInt ≤ 1001 := aw_bd_f hs (hI427).1 (by decide) rfl
                        exact ⟨(hI427).1, fr426, Or.inl ⟨_, rfl, rfl, hG425, (show _ ≤ ((S425.1 30)).toInt by omega)⟩⟩
                    · skip
                      have r5425 : (S425.1 50).toInt = (S333.1 50).toInt - 1 := r5425
                      have fr432 := aw_fr_tr fr337 (aw_fr_sub (F := [24, 25, 31, 50, 51]) (A := [14, 15, 16, 17, 18, 19]) (by decide) (by decide) fc425)
                      have hI433 : aw_I s h (aw_sm S425) S425 := ⟨hT425, aw_sm_rf⟩
                      have ci431 : ar_CI (ar_mf (S425.2.2.1 23)) ((S425.1 50).toInt).toNat (S425.1 46).toInt ((S425.1 51).toInt - 20) (S425.1 46).toInt 1 := by
                        rw [(fc425.2 23 (by decide)).1, (fc425.1 46 (by decide)).1]
                        exact (ar_CI_pop ci241 hw425 (by rw [qb423]; decide) r5425 (by rw [r6425]; omega)).1
                      have c434 : (S425.1 46).toInt = (S333.1 46).toInt := (congrArg Int32.toInt (fc425.1 46 (by decide)).1).trans rfl
                      have b435 : 0 ≤ (S425.1 46).toInt ∧ (S425.1 46).toInt ≤ 8 := aw_bd_f hs (hI433).1 (by decide) rfl
                      have b436 : 0 ≤ (S425.1 50).toInt ∧ (S425.1 50).toInt ≤ 63 := aw_bd_f hs (hI433).1 (by decide) rfl
                      have b437 : 0 ≤ (S425.1 51).toInt ∧ (S425.1 51).toInt ≤ 48 := aw_bd_f hs (hI433).1 (by decide) rfl
                      have c438 : (S425.1 30).toInt = (S333.1 30).toInt := (congrArg Int32.toInt (fc425.1 30 (by decide)).1).trans rfl
                      have b439 : 0 ≤ (S425.1 30).toInt ∧ (S425.1 30).toInt ≤ 1001 := aw_bd_f hs (hI433).1 (by decide) rfl
                      have cb440 := ar_CI_b ci431 (by omega)
                      show aw_W _ _ _ _ 281 lv334 [.int b425] _ _
                      refine aw_z (tgt := 241) aj_d249 rfl rfl (fun q441 => ?_) (fun q441 => ?_)
                      · have q441 : (1 : Int) ≠ (0 : Int) := aw_t_ne (a := (1 : Int)) (b := (0 : Int)) hb425 rfl q441
                        have c442 : (S425.1 26).toInt = (S333.1 26).toInt := (congrArg Int32.toInt (fc425.1 26 (by decide)).1).trans rfl
                        have b443 : 0 ≤ (S425.1 26).toInt ∧ (S425.1 26).toInt ≤ 5 := aw_bd_f hs (hI433).1 (by decide) rfl
                        have c444 : (S425.1 29).toInt = (S333.1 29).toInt := (congrArg Int32.toInt (fc425.1 29 (by decide)).1).trans rfl
                        exact ihL241_331 S425 lv334 (x335) hlv334_0 hlv334_1 ⟨(hI433).1, hG425⟩ fr432 (by first | omega | decide) ci431 (show _ ≤ ((S425.1 30)).toInt by omega) (show _ ≤ ((S425.1 30)).toInt by omega) (show ((S425.1 26)).toInt = 3 ∧ (((S425.1 29)).toInt = 42 ∨ ((S425.1 29)).toInt = 43 ∨ ((S425.1 29)).toInt = 45) by omega) (show (((S425.1 50)).toInt).toNat < _ by omega)
                      · have q441 : (1 : Int) = (0 : Int) := aw_t_ne (a := (1 : Int)) (b := (0 : Int)) hb425 rfl q441
                        exfalso
                        omega
                · skip
                  have pb423 : ar_hd (¬ (1 ≤ (S333.1 50).toInt ∧ (S333.2.2.1 23 ((S333.1 50).toInt - 1).toNat).toInt = (45 : Int))) := ar_mk pb423
                  show aw_W _ _ _ _ 274 lv334 [.int b423] _ _
                  refine aw_z (tgt := 286) aj_d249 rfl rfl (fun q445 => ?_) (fun q445 => ?_)
                  · have q445 : (0 : Int) = (0 : Int) := aw_t_eq (a := (0 : Int)) (b := (0 : Int)) hb423 rfl q445
                    refine aw_l2 aj_d249 rfl rfl hlv334_0 ?_
                    refine aw_g hU.1 aj_d249 rfl rfl (by decide) (v := .ref 140) rfl ?_
                    refine aw_l2 aj_d249 rfl rfl hlv334_0 ?_
                    refine aw_g hU.1 aj_d249 rfl rfl (by decide) (v := .int (S333.1 50)) rfl ?_
                    refine aw_l2 aj_d249 rfl rfl hlv334_0 ?_
                    refine aw_g hU.1 aj_d249 rfl rfl (by decide) (v := .int (S333.1 29)) rfl ?_
                    refine aw_st (k := 23) hU.1 aj_d249 (Or.inl ⟨rfl, rfl⟩) rfl (by decide) (by decide) rfl (a := (S333.1 50).toInt) rfl (by omega) (by omega) ?_
                    have hI446 := aw_I_a (aw_UV hU aw_Gs_sm) (k := 23) (j := ((S333.1 50).toInt).toNat) (v := aj_nar 0 (S333.1 29)) hI338 (by decide) (by decide) (by decide) rfl (by decide) (by decide) rfl (aw_full _)
                    have fr447 := aw_fr_a (k := 23) (j := ((S333.1 50).toInt).toNat) (v := aj_nar 0 (S333.1 29)) (by decide) fr337
                    refine aw_l2 aj_d249 rfl rfl hlv334_0 ?_
                    refine aw_g hU.1 aj_d249 rfl rfl (by decide) (v := .ref 141) rfl ?_
                    refine aw_l2 aj_d249 rfl rfl hlv334_0 ?_
                    refine aw_g hU.1 aj_d249 rfl rfl (by decide) (v := .int (S333.1 50)) rfl ?_
                    refine aw_l2 aj_d249 rfl rfl hlv334_0 ?_
                    have b448 : 0 ≤ (S333.1 27).toInt ∧ (S333.1 27).toInt ≤ 4000 := aw_bd_f hs (hI338).1 (by decide) rfl
                    refine aw_g hU.1 aj_d249 rfl rfl (by decide) (v := .int (S333.1 27)) rfl ?_
                    refine aw_st (k := 24) hU.1 aj_d249 (Or.inl ⟨rfl, rfl⟩) rfl (by decide) (by decide) rfl (a := (S333.1 50).toInt) rfl (by omega) (by omega) ?_
                    have hI449 := aw_I_a (aw_UV hU aw_Gs_sm) (k := 24) (j := ((S333.1 50).toInt).toNat) (v := aj_nar 0 (S333.1 27)) hI446 (by decide) (by decide) (by decide) rfl (by decide) (by decide) rfl (aw_full _)
                    have fr450 := aw_fr_a (k := 24) (j := ((S333.1 50).toInt).toNat) (v := aj_nar 0 (S333.1 27)) (by decide) fr447
                    refine aw_l2 aj_d249 rfl rfl hlv334_0 ?_
                    refine aw_n aj_d249 rfl rfl ?_
                    refine aw_g hU.1 aj_d249 rfl rfl (by decide) (v := .int (S333.1 50)) rfl ?_
                    refine aw_n aj_d249 rfl rfl ?_
                    refine aw_add aj_d249 rfl (a := (S333.1 50).toInt) (b := (1 : Int)) rfl rfl (by omega) (by omega) (fun x451 ex451 => ?_)
                    refine aw_p hU.1 aj_d249 rfl rfl (by decide) rfl ?_
                    have hI452 := aw_I_f (aw_UV hU aw_Gs_sm) (k := 50) (v := x451) hI449 (by decide) (by decide) rfl (aw_bp (a := x451.toInt) rfl (by omega) (by omega))
                    have fr453 := aw_fr_f (k := 50) (v := x451) (by decide) fr450
                    have ci454 : ar_CI (ar_mf (((aw_wf (aw_wa (aw_wa S333 23 ((S333.1 50).toInt).toNat (aj_nar 0 (S333.1 29))) 24 ((S333.1 50).toInt).toNat (aj_nar 0 (S333.1 27))) 50 x451)).2.2.1 23)) ((((aw_wf (aw_wa (aw_wa S333 23 ((S333.1 50).toInt).toNat (aj_nar 0 (S333.1 29))) 24 ((S333.1 50).toInt).toNat (aj_nar 0 (S333.1 27))) 50 x451)).1 50).toInt).toNat (((aw_wf (aw_wa (aw_wa S333 23 ((S333.1 50).toInt).toNat (aj_nar 0 (S333.1 29))) 24 ((S333.1 50).toInt).toNat (aj_nar 0 (S333.1 27))) 50 x451)).1 46).toInt ((((aw_wf (aw_wa (aw_wa S333 23 ((S333.1 50).toInt).toNat (aj_nar 0 (S333.1 29))) 24 ((S333.1 50).toInt).toNat (aj_nar 0 (S333.1 27))) 50 x451)).1 51).toInt - 20) (((aw_wf (aw_wa (aw_wa S333 23 ((S333.1 50).toInt).toNat (aj_nar 0 (S333.1 29))) 24 ((S333.1 50).toInt).toNat (aj_nar 0 (S333.1 27))) 50 x451)).1 46).toInt 0 := by
                      show ar_CI (ar_mf (upd (S333.2.2.1 23) ((S333.1 50).toInt).toNat ((S333.1 29)))) ((x451).toInt).toNat ((S333.1 46).toInt) ((S333.1 51).toInt - 20) ((S333.1 46).toInt) 0
                      rw [show ((x451).toInt).toNat = ((S333.1 50).toInt).toNat + 1 by omega, ar_mf_upd]
                      have e7 : ((S333.1 50).toInt).toNat - 1 = ((S333.1 50).toInt - 1).toNat := by omega
                      refine ar_CI_op ci241 ?_
                      rw [e7]
                      have n38 : ¬ (1 ≤ ((S333.1 50).toInt).toNat ∧ ((ar_mf (S333.2.2.1 23)) ((S333.1 50).toInt - 1).toNat).toInt = 38) := fun z => (ar_un pb344) ⟨by omega, ar_mp_i38 z.2⟩
                      have n124 : ¬ (1 ≤ ((S333.1 50).toInt).toNat ∧ ((ar_mf (S333.2.2.1 23)) ((S333.1 50).toInt - 1).toNat).toInt = 124) := fun z => (ar_mp_i124 z.2).elim (fun y => (ar_un pb400) ⟨by omega, y⟩) (fun y => (ar_un pb423) ⟨by omega, y⟩)
                      by_cases k9 : ((S333.1 29)).toInt = 42
                      · exact Or.inl ⟨by rw [ar_mp_42 k9]; rfl, n38⟩
                      · exact Or.inr ⟨by rw [ar_mp_124 (by omega)]; rfl, n38, n124⟩
                    refine aw_l2 aj_d249 rfl rfl hlv334_0 ?_
                    refine aw_k hU.1 aj_d249 rfl rfl [] rfl rfl rfl (Nat.le_of_ble_eq_true rfl) (aw_toK hU aw_Gs_G (con := ac_c264a) (by omega) (ar_264a hU.2.1 (aw_SPc hU.2.2 aw_Gs_G) aw_kpc (arc_214b hU) (arc_215 hU)) ⟨(hI452).1, (aw_G_sm hI452.2 hI336.2)⟩ ⟨(aw_g117 hU.2.2), trivial⟩ (aw_gQ_of hU (fun e he => by
                        simp only [List.mem_cons, List.not_mem_nil, or_false] at he
                        rcases he with rfl | rfl
                        · exact ⟨by decide, (show (3 : Int) ≤ ((S333.1 26)).toInt by omega), (show ((S333.1 26)).toInt ≤ (3 : Int) by omega)⟩
                        · exact ⟨by decide, (show (0 : Int) ≤ ((S333.1 29)).toInt by omega), (show ((S333.1 29)).toInt ≤ (62 : Int) by omega)⟩))) ?_
                    rintro r455 S455 ⟨hr455, hJ455, fc455, po455, -⟩
                    have hT455 := hJ455.1
                    replace fc455 := aw_fr_sub (F' := [24, 25, 26, 27, 28, 29, 30, 31, 47]) (A' := []) (by decide) (by decide) fc455
                    rcases ar_bool hU (hI452).1 hT455 hr455 po455 with ⟨b455, rfl, hb455, cf455⟩ | ⟨b455, rfl, hb455, ck455, gq455⟩
                    · skip
                      have cf455 : (S333.1 30).toInt + 0 ≤ (S455.1 30).toInt := cf455
                      have fr456 := aw_fr_tr fr453 (aw_fr_sub (F := [24, 25, 26, 27, 28, 29, 30, 31, 47]) (A := []) (by decide) (by decide) fc455)
                      have hI457 : aw_I s h (aw_sm S455) S455 := ⟨hT455, aw_sm_rf⟩
                      show aw_W _ _ _ _ 326 lv334 [.int b455] _ _
                      refine aw_z (tgt := 18) aj_d249 rfl rfl (fun q458 => ?_) (fun q458 => ?_)
                      · have q458 : (0 : Int) ≠ (0 : Int) := aw_t_ne (a := (0 : Int)) (b := (0 : Int)) hb455 rfl q458
                        exfalso
                        omega
                      · have q458 : (0 : Int) = (0 : Int) := aw_t_ne (a := (0 : Int)) (b := (0 : Int)) hb455 rfl q458
                        refine aw_n aj_d249 rfl rfl ?_
                        refine aw_e aj_d249 rfl rfl ?_
                        have b459 : 0 ≤ (S455.1 30).toInt ∧ (S455.1 30).toInt ≤ 1001 := aw_bd_f hs (hI457).1 (by decide) rfl
                        exact ⟨(hI457).1, fr456, Or.inl ⟨_, rfl, rfl, hJ455.2, (show _ ≤ ((S455.1 30)).toInt by omega)⟩⟩
                    · skip
                      have ck455 : (S333.1 30).toInt + 1 ≤ (S455.1 30).toInt := ck455
                      have fr460 := aw_fr_tr fr453 (aw_fr_sub (F := [24, 25, 26, 27, 28, 29, 30, 31, 47]) (A := []) (by decide) (by decide) fc455)
                      have hI461 : aw_I s h (aw_sm S455) S455 := ⟨hT455, aw_sm_rf⟩
                      have ci462 : ar_CI (ar_mf (S455.2.2.1 23)) ((S455.1 50).toInt).toNat (S455.1 46).toInt ((S455.1 51).toInt - 20) (S455.1 46).toInt 0 := by
                        rw [(fc455.2 23 (by decide)).1, (fc455.1 50 (by decide)).1, (fc455.1 46 (by decide)).1, (fc455.1 51 (by decide)).1]
                        exact ci454
                      have c463 : (S455.1 46).toInt = (S333.1 46).toInt := (congrArg Int32.toInt (fc455.1 46 (by decide)).1).trans rfl
                      have b464 : 0 ≤ (S455.1 46).toInt ∧ (S455.1 46).toInt ≤ 8 := aw_bd_f hs (hI461).1 (by decide) rfl
                      have c465 : (S455.1 50).toInt = x451.toInt := (congrArg Int32.toInt (fc455.1 50 (by decide)).1).trans rfl
                      have b466 : 0 ≤ (S455.1 50).toInt ∧ (S455.1 50).toInt ≤ 63 := aw_bd_f hs (hI461).1 (by decide) rfl
                      have c467 : (S455.1 51).toInt = (S333.1 51).toInt := (congrArg Int32.toInt (fc455.1 51 (by decide)).1).trans rfl
                      have b468 : 0 ≤ (S455.1 51).toInt ∧ (S455.1 51).toInt ≤ 48 := aw_bd_f hs (hI461).1 (by decide) rfl
                      have b469 : 0 ≤ (S455.1 30).toInt ∧ (S455.1 30).toInt ≤ 1001 := aw_bd_f hs (hI461).1 (by decide) rfl
                      have cb470 := ar_CI_b ci462 (by omega)
                      show aw_W _ _ _ _ 326 lv334 [.int b455] _ _
                      refine aw_z (tgt := 18) aj_d249 rfl rfl (fun q471 => ?_) (fun q471 => ?_)
                      · have q471 : (1 : Int) ≠ (0 : Int) := aw_t_ne (a := (1 : Int)) (b := (0 : Int)) hb455 rfl q471
                        refine aw_l0 aj_d249 rfl rfl hlv334_1 ?_
                        refine aw_z (tgt := 331) aj_d249 rfl rfl (fun q472 => ?_) (fun q472 => ?_)
                        · have q472 : (1 : Int) = (0 : Int) := aw_t_eq (a := (1 : Int)) (b := (0 : Int)) (by omega) rfl q472
                          exfalso
                          omega
                        · have q472 : (1 : Int) ≠ (0 : Int) := aw_t_eq (a := (1 : Int)) (b := (0 : Int)) (by omega) rfl q472
                          exact ihL22_20 S455 lv334 hlv334_0 ⟨(hI461).1, hJ455.2⟩ fr460 ci462 (show _ ≤ ((S455.1 30)).toInt by omega) (show (1001 - ((S455.1 30)).toInt).toNat < _ by omega)
                      · have q471 : (1 : Int) = (0 : Int) := aw_t_ne (a := (1 : Int)) (b := (0 : Int)) hb455 rfl q471
                        exfalso
                        omega
                  · have q445 : (0 : Int) ≠ (0 : Int) := aw_t_eq (a := (0 : Int)) (b := (0 : Int)) hb423 rfl q445
                    exfalso
                    omega
theorem ar_q_L144_476 (hU : aw_U tb s h) (hd : 10 ≤ d + 1) (N22 : Nat) (S22 : aj_S) (ihL22_20 : ∀ (S22 : aj_S) (lv23 : aj_V), (aj_lv lv23 0 = some (.ref 117)) → (aw_I s h (aw_G (nm, fl, la, 0, 0, ht)) S22) → (aw_fr [24, 25, 26, 27, 28, 29, 30, 31, 33, 34, 35, 36, 38, 39, 40, 46, 47, 50, 51, 52, 53, 54, 56, 58] [14, 15, 16, 17, 18, 19, 23, 24, 25, 26, 27] S S22) → (ar_CI (ar_mf (S22.2.2.1 23)) ((S22.1 50).toInt).toNat (S22.1 46).toInt ((S22.1 51).toInt - 20) (S22.1 46).toInt 0) → ((S.1 30).toInt + 0 ≤ (S22.1 30).toInt) → (1001 - (S22.1 30).toInt).toNat < N22 → aw_W tb h d aj_m249 22 lv23 [] S22 ((ar_QT s h (nm, fl, la, 0, 0, ht) [24, 25, 26, 27, 28, 29, 30, 31, 33, 34, 35, 36, 38, 39, 40, 46, 47, 50, 51, 52, 53, 54, 56, 58] [14, 15, 16, 17, 18, 19, 23, 24, 25, 26, 27] S (fun _ => True)))) (hm22 : (1001 - (S22.1 30).toInt).toNat < N22 + 1) (N128 : Nat) (S321 : aj_S) (ihL128_319 : ∀ (S321 : aj_S) (lv322 : aj_V), (aj_lv lv322 0 = some (.ref 117)) → (aw_I s h (aw_G (nm, fl, la, 0, 0, ht)) S321) → (aw_fr [24, 25, 26, 27, 28, 29, 30, 31, 33, 34, 35, 36, 38, 39, 40, 46, 47, 50, 51, 52, 53, 54, 56, 58] [14, 15, 16, 17, 18, 19, 23, 24, 25, 26, 27] S S321) → (ar_CI (ar_mf (S321.2.2.1 23)) ((S321.1 50).toInt).toNat (S321.1 46).toInt ((S321.1 51).toInt - 20) (S321.1 46).toInt 1) → ((S.1 30).toInt + 1 ≤ (S321.1 30).toInt) → ((S22.1 30).toInt + 1 ≤ (S321.1 30).toInt) → (1001 - (S321.1 30).toInt).toNat < N128 → aw_W tb h d aj_m249 128 lv322 [] S321 ((ar_QT s h (nm, fl, la, 0, 0, ht) [24, 25, 26, 27, 28, 29, 30, 31, 33, 34, 35, 36, 38, 39, 40, 46, 47, 50, 51, 52, 53, 54, 56, 58] [14, 15, 16, 17, 18, 19, 23, 24, 25, 26, 27] S (fun _ => True)))) (hm128 : (1001 - (S321.1 30).toInt).toNat < N128 + 1) : ∀ (N : Nat) (S478 : aj_S) (lv479 : aj_V), (aj_lv lv479 0 = some (.ref 117)) → (aw_I s h (aw_G (nm, fl, la, 0, 0, ht)) S478) → (aw_fr [24, 25, 26, 27, 28, 29, 30, 31, 33, 34, 35, 36, 38, 39, 40, 46, 47, 50, 51, 52, 53, 54, 56, 58] [14, 15, 16, 17, 18, 19, 23, 24, 25, 26, 27] S S478) → (ar_CI (ar_mf (S478.2.2.1 23)) ((S478.1 50).toInt).toNat (S478.1 46).toInt ((S478.1 51).toInt - 20) (S478.1 46).toInt 1) → ((S.1 30).toInt + 1 ≤ (S478.1 30).toInt) → ((S22.1 30).toInt + 1 ≤ (S478.1 30).toInt) → ((S321.1 30).toInt ≤ (S478.1 30).toInt) → (1 ≤ (S478.1 46).toInt) → ((S478.1 26).toInt = 3 ∧ (S478.1 29).toInt = 41) → ((S478.1 50).toInt).toNat < N → aw_W tb h d aj_m249 144 lv479 [] S478 ((ar_QT s h (nm, fl, la, 0, 0, ht) [24, 25, 26, 27, 28, 29, 30, 31, 33, 34, 35, 36, 38, 39, 40, 46, 47, 50, 51, 52, 53, 54, 56, 58] [14, 15, 16, 17, 18, 19, 23, 24, 25, 26, 27] S (fun _ => True))) := by
  have hs : aw_sT s := aw_hy_sT hU.2.2
  intro N144
  induction N144 with
  | zero =>
    intro S478 lv479  hlv479_0 hI480 fr481 ci144 ck144 cA144 cB144 br144 k144 hm144
    omega
  | succ N144 ihL144_476 =>
    intro S478 lv479  hlv479_0 hI480 fr481 ci144 ck144 cA144 cB144 br144 k144 hm144
    have hI482 : aw_I s h (aw_sm S478) S478 := ⟨hI480.1, aw_sm_rf⟩
    have b483 : 0 ≤ (S478.1 46).toInt ∧ (S478.1 46).toInt ≤ 8 := aw_bd_f hs (hI482).1 (by decide) rfl
    have b484 : 0 ≤ (S478.1 50).toInt ∧ (S478.1 50).toInt ≤ 63 := aw_bd_f hs (hI482).1 (by decide) rfl
    have b485 : 0 ≤ (S478.1 51).toInt ∧ (S478.1 51).toInt ≤ 48 := aw_bd_f hs (hI482).1 (by decide) rfl
    have b486 : 0 ≤ (S478.1 30).toInt ∧ (S478.1 30).toInt ≤ 1001 := aw_bd_f hs (hI482).1 (by decide) rfl
    have cb487 := ar_CI_b ci144 (by omega)
    refine aw_l2 aj_d249 rfl rfl hlv479_0 ?_
    refine aw_n aj_d249 rfl rfl ?_
    refine aw_k hU.1 aj_d249 rfl rfl [_] rfl rfl rfl (Nat.le_of_ble_eq_true rfl) (ar_isActing hU (hI482).1 (by omega)) ?_
    rintro _ zb488 ⟨fb488, b488, rfl, kb488⟩
    rw [fb488]
    rcases kb488 with ⟨hb488, pb488, qb488⟩ | ⟨hb488, pb488⟩
    · skip
      have qb488 : (S478.2.2.1 23 ((S478.1 50).toInt - 1).toNat).toInt = (40 : Int) := qb488
      have pb488 : 1 ≤ (S478.1 50).toInt := pb488
      show aw_W _ _ _ _ 150 lv479 [.int b488] _ _
      refine aw_z (tgt := 162) aj_d249 rfl rfl (fun q489 => ?_) (fun q489 => ?_)
      · have q489 : (1 : Int) ≠ (0 : Int) := aw_t_ne (a := (1 : Int)) (b := (0 : Int)) hb488 rfl q489
        refine aw_l2 aj_d249 rfl rfl hlv479_0 ?_
        refine aw_n aj_d249 rfl rfl ?_
        refine aw_g hU.1 aj_d249 rfl rfl (by decide) (v := .int (S478.1 50)) rfl ?_
        refine aw_n aj_d249 rfl rfl ?_
        refine aw_sub aj_d249 rfl (a := (S478.1 50).toInt) (b := (1 : Int)) rfl rfl (by omega) (by omega) (fun x490 ex490 => ?_)
        refine aw_p hU.1 aj_d249 rfl rfl (by decide) rfl ?_
        have hI491 := aw_I_f (aw_UV hU aw_Gs_sm) (k := 50) (v := x490) hI482 (by decide) (by decide) rfl (aw_bp (a := x490.toInt) rfl (by omega) (by omega))
        have fr492 := aw_fr_f (k := 50) (v := x490) (by decide) fr481
        refine aw_l2 aj_d249 rfl rfl hlv479_0 ?_
        refine aw_n aj_d249 rfl rfl ?_
        refine aw_g hU.1 aj_d249 rfl rfl (by decide) (v := .int (S478.1 46)) rfl ?_
        refine aw_n aj_d249 rfl rfl ?_
        refine aw_sub aj_d249 rfl (a := (S478.1 46).toInt) (b := (1 : Int)) rfl rfl (by omega) (by omega) (fun x493 ex493 => ?_)
        refine aw_p hU.1 aj_d249 rfl rfl (by decide) rfl ?_
        have hI494 := aw_I_f (aw_UV hU aw_Gs_sm) (k := 46) (v := x493) hI491 (by decide) (by decide) rfl (aw_bp (a := x493.toInt) rfl (by omega) (by omega))
        have fr495 := aw_fr_f (k := 46) (v := x493) (by decide) fr492
        have ci496 : ar_CI (ar_mf (((aw_wf (aw_wf S478 50 x490) 46 x493)).2.2.1 23)) ((((aw_wf (aw_wf S478 50 x490) 46 x493)).1 50).toInt).toNat (((aw_wf (aw_wf S478 50 x490) 46 x493)).1 46).toInt ((((aw_wf (aw_wf S478 50 x490) 46 x493)).1 51).toInt - 20) (((aw_wf (aw_wf S478 50 x490) 46 x493)).1 46).toInt 1 := (ar_CI_40 ci144 (by omega) (ar_mp_40.mpr qb488) (show (x490).toInt = (S478.1 50).toInt - 1 by omega) (show (x493).toInt = (S478.1 46).toInt - 1 by omega) (show (x493).toInt = (S478.1 46).toInt - 1 by omega)).1
        refine aw_l2 aj_d249 rfl rfl hlv479_0 ?_
        have b497 : 0 ≤ (S478.1 26).toInt ∧ (S478.1 26).toInt ≤ 5 := aw_bd_f hs (hI482).1 (by decide) rfl
        refine aw_k hU.1 aj_d249 rfl rfl [] rfl rfl rfl (Nat.le_of_ble_eq_true rfl) (ar_pass hU (hI494).1 (aw_G_sm hI494.2 hI480.2) (by omega) (show ((S478.1 26)).toInt ≠ 0 by omega) (show ¬ (((S478.1 26)).toInt = 3 ∧ ((S478.1 29)).toInt = 63) by omega) (show ((S478.1 26)).toInt = 4 → ((S478.1 29)).toInt = 3 ∨ 6 ≤ ((S478.1 29)).toInt by omega)) ?_
        rintro _ S498 ⟨hT498, fc498, ⟨b498, rfl, hb498, hG498, fd498, hz498⟩ | ⟨b498, rfl, hb498, hG498, ck498, fd498, cj498⟩⟩
        · skip
          have fr499 := aw_fr_tr fr495 (aw_fr_sub (F := [24, 25, 31]) (A := []) (by decide) (by decide) fd498)
          have hI500 : aw_I s h (aw_sm S498) S498 := ⟨hT498, aw_sm_rf⟩
          show aw_W _ _ _ _ 186 lv479 [.int b498] _ _
          refine aw_z (tgt := 202) aj_d249 rfl rfl (fun q501 => ?_) (fun q501 => ?_)
          · have q501 : (0 : Int) = (0 : Int) := aw_t_eq (a := (0 : Int)) (b := (0 : Int)) hb498 rfl q501
            refine aw_n aj_d249 rfl rfl ?_
            refine aw_e aj_d249 rfl rfl ?_
            have c502 : (S498.1 30).toInt = (S478.1 30).toInt := (congrArg Int32.toInt (fd498.1 30 (by decide)).1).trans rfl
            have b503 : 0 ≤ (S498.1 30).toInt ∧ (S498.1 30).toInt ≤ 1001 := aw_bd_f hs (hI500).1 (by decide) rfl
            exact ⟨(hI500).1, fr499, Or.inl ⟨_, rfl, rfl, hG498, (show _ ≤ ((S498.1 30)).toInt by omega)⟩⟩
          · have q501 : (0 : Int) ≠ (0 : Int) := aw_t_eq (a := (0 : Int)) (b := (0 : Int)) hb498 rfl q501
            exfalso
            omega
        · skip
          have cj498 : (S498.1 30).toInt = ((S478.1 30)).toInt + 1 := cj498
          have fr504 := aw_fr_tr fr495 (aw_fr_sub (F := [26, 27, 28, 29, 30]) (A := []) (by decide) (by decide) fd498)
          have hI505 : aw_I s h (aw_sm S498) S498 := ⟨hT498, aw_sm_rf⟩
          have ci506 : ar_CI (ar_mf (S498.2.2.1 23)) ((S498.1 50).toInt).toNat (S498.1 46).toInt ((S498.1 51).toInt - 20) (S498.1 46).toInt 1 := by
            rw [(fd498.2 23 (by decide)).1, (fd498.1 50 (by decide)).1, (fd498.1 46 (by decide)).1, (fd498.1 51 (by decide)).1]
            exact ci496
          have c507 : (S498.1 46).toInt = x493.toInt := (congrArg Int32.toInt (fd498.1 46 (by decide)).1).trans rfl
          have b508 : 0 ≤ (S498.1 46).toInt ∧ (S498.1 46).toInt ≤ 8 := aw_bd_f hs (hI505).1 (by decide) rfl
          have c509 : (S498.1 50).toInt = x490.toInt := (congrArg Int32.toInt (fd498.1 50 (by decide)).1).trans rfl
          have b510 : 0 ≤ (S498.1 50).toInt ∧ (S498.1 50).toInt ≤ 63 := aw_bd_f hs (hI505).1 (by decide) rfl
          have c511 : (S498.1 51).toInt = (S478.1 51).toInt := (congrArg Int32.toInt (fd498.1 51 (by decide)).1).trans rfl
          have b512 : 0 ≤ (S498.1 51).toInt ∧ (S498.1 51).toInt ≤ 48 := aw_bd_f hs (hI505).1 (by decide) rfl
          have b513 : 0 ≤ (S498.1 30).toInt ∧ (S498.1 30).toInt ≤ 1001 := aw_bd_f hs (hI505).1 (by decide) rfl
          have cb514 := ar_CI_b ci506 (by omega)
          show aw_W _ _ _ _ 186 lv479 [.int b498] _ _
          refine aw_z (tgt := 202) aj_d249 rfl rfl (fun q515 => ?_) (fun q515 => ?_)
          · have q515 : (1 : Int) = (0 : Int) := aw_t_eq (a := (1 : Int)) (b := (0 : Int)) hb498 rfl q515
            exfalso
            omega
          · have q515 : (1 : Int) ≠ (0 : Int) := aw_t_eq (a := (1 : Int)) (b := (0 : Int)) hb498 rfl q515
            refine aw_l2 aj_d249 rfl rfl hlv479_0 ?_
            refine aw_l2 aj_d249 rfl rfl hlv479_0 ?_
            refine aw_g hU.1 aj_d249 rfl rfl (by decide) (v := .int (S498.1 51)) rfl ?_
            refine aw_n aj_d249 rfl rfl ?_
            refine aw_sub aj_d249 rfl (a := (S478.1 51).toInt) (b := (1 : Int)) c511 rfl (by omega) (by omega) (fun x516 ex516 => ?_)
            refine aw_k hU.1 aj_d249 rfl rfl [_] rfl rfl rfl (Nat.le_of_ble_eq_true rfl) (aw_toK hU aw_Gs_G (con := ac_c253) (by omega) (ar_253 hU.2.1 (aw_SPc hU.2.2 aw_Gs_G) aw_kpc (arc_210 hU aw_Gs_G) (arc_214a hU) (arc_214b hU) (arc_214c hU) (arc_214d hU) (arc_215 hU) (arc_218 hU) (arc_252 hU) (arc_254 hU) (arc_258 hU aw_Gs_G (fun _ hq => hq.2.2.2.2.1)) (arc_260 hU) (arc_261 hU) (arc_271 hU)) ⟨(hI505).1, hG498⟩ ⟨(aw_g117 hU.2.2), (cw_gw (a := x516.toInt) rfl (by omega) (by omega)), trivial⟩ (fun e he => nomatch he)) ?_
            rintro r517 S517 ⟨hr517, hJ517, fc517, po517, -⟩
            have hT517 := hJ517.1
            replace fc517 := aw_fr_sub (F' := [24, 25, 26, 27, 28, 29, 30, 31, 33, 34, 35, 36, 38, 39, 40, 47, 52, 53, 54, 56, 58]) (A' := [14, 15, 16, 17, 18, 19, 25, 26, 27]) (by decide) (by decide) fc517
            rcases ar_bool hU (hI505).1 hT517 hr517 po517 with ⟨b517, rfl, hb517, cf517⟩ | ⟨b517, rfl, hb517, ck517, gq517⟩
            · skip
              have cf517 : (S498.1 30).toInt + 0 ≤ (S517.1 30).toInt := cf517
              have fr518 := aw_fr_tr fr504 (aw_fr_sub (F := [24, 25, 26, 27, 28, 29, 30, 31, 33, 34, 35, 36, 38, 39, 40, 47, 52, 53, 54, 56, 58]) (A := [14, 15, 16, 17, 18, 19, 25, 26, 27]) (by decide) (by decide) fc517)
              have hI519 : aw_I s h (aw_sm S517) S517 := ⟨hT517, aw_sm_rf⟩
              show aw_W _ _ _ _ 199 lv479 [.int b517] _ _
              refine aw_z (tgt := 128) aj_d249 rfl rfl (fun q520 => ?_) (fun q520 => ?_)
              · have q520 : (0 : Int) ≠ (0 : Int) := aw_t_ne (a := (0 : Int)) (b := (0 : Int)) hb517 rfl q520
                exfalso
                omega
              · have q520 : (0 : Int) = (0 : Int) := aw_t_ne (a := (0 : Int)) (b := (0 : Int)) hb517 rfl q520
                refine aw_n aj_d249 rfl rfl ?_
                refine aw_e aj_d249 rfl rfl ?_
                have b521 : 0 ≤ (S517.1 30).toInt ∧ (S517.1 30).toInt ≤ 1001 := aw_bd_f hs (hI519).1 (by decide) rfl
                exact ⟨(hI519).1, fr518, Or.inl ⟨_, rfl, rfl, hJ517.2, (show _ ≤ ((S517.1 30)).toInt by omega)⟩⟩
            · skip
              have ck517 : (S498.1 30).toInt + 0 ≤ (S517.1 30).toInt := ck517
              have fr522 := aw_fr_tr fr504 (aw_fr_sub (F := [24, 25, 26, 27, 28, 29, 30, 31, 33, 34, 35, 36, 38, 39, 40, 47, 52, 53, 54, 56, 58]) (A := [14, 15, 16, 17, 18, 19, 25, 26, 27]) (by decide) (by decide) fc517)
              have hI523 : aw_I s h (aw_sm S517) S517 := ⟨hT517, aw_sm_rf⟩
              have ci524 : ar_CI (ar_mf (S517.2.2.1 23)) ((S517.1 50).toInt).toNat (S517.1 46).toInt ((S517.1 51).toInt - 20) (S517.1 46).toInt 1 := by
                rw [(fc517.2 23 (by decide)).1, (fc517.1 50 (by decide)).1, (fc517.1 46 (by decide)).1, (fc517.1 51 (by decide)).1]
                exact ci506
              have c525 : (S517.1 46).toInt = x493.toInt := (congrArg Int32.toInt (fc517.1 46 (by decide)).1).trans c507
              have b526 : 0 ≤ (S517.1 46).toInt ∧ (S517.1 46).toInt ≤ 8 := aw_bd_f hs (hI523).1 (by decide) rfl
              have c527 : (S517.1 50).toInt = x490.toInt := (congrArg Int32.toInt (fc517.1 50 (by decide)).1).trans c509
              have b528 : 0 ≤ (S517.1 50).toInt ∧ (S517.1 50).toInt ≤ 63 := aw_bd_f hs (hI523).1 (by decide) rfl
              have c529 : (S517.1 51).toInt = (S478.1 51).toInt := (congrArg Int32.toInt (fc517.1 51 (by decide)).1).trans c511
              have b530 : 0 ≤ (S517.1 51).toInt ∧ (S517.1 51).toInt ≤ 48 := aw_bd_f hs (hI523).1 (by decide) rfl
              have b531 : 0 ≤ (S517.1 30).toInt ∧ (S517.1 30).toInt ≤ 1001 := aw_bd_f hs (hI523).1 (by decide) rfl
              have cb532 := ar_CI_b ci524 (by omega)
              show aw_W _ _ _ _ 199 lv479 [.int b517] _ _
              refine aw_z (tgt := 128) aj_d249 rfl rfl (fun q533 => ?_) (fun q533 => ?_)
              · have q533 : (1 : Int) ≠ (0 : Int) := aw_t_ne (a := (1 : Int)) (b := (0 : Int)) hb517 rfl q533
                exact ihL128_319 S517 lv479 hlv479_0 ⟨(hI523).1, hJ517.2⟩ fr522 ci524 (show _ ≤ ((S517.1 30)).toInt by omega) (show _ ≤ ((S517.1 30)).toInt by omega) (show (1001 - ((S517.1 30)).toInt).toNat < _ by omega)
              · have q533 : (1 : Int) = (0 : Int) := aw_t_ne (a := (1 : Int)) (b := (0 : Int)) hb517 rfl q533
                exfalso
                omega
      · have q489 : (1 : Int) = (0 : Int) := aw_t_ne (a := (1 : Int)) (b := (0 : Int)) hb488 rfl q489
        exfalso
        omega
    · skip
      have pb488 : ar_hd (¬ (1 ≤ (S478.1 50).toInt ∧ (S478.2.2.1 23 ((S478.1 50).toInt - 1).toNat).toInt = (40 : Int))) := ar_mk pb488
      show aw_W _ _ _ _ 150 lv479 [.int b488] _ _
      refine aw_z (tgt := 162) aj_d249 rfl rfl (fun q534 => ?_) (fun q534 => ?_)
      · have q534 : (0 : Int) ≠ (0 : Int) := aw_t_ne (a := (0 : Int)) (b := (0 : Int)) hb488 rfl q534
        exfalso
        omega
      · have q534 : (0 : Int) = (0 : Int) := aw_t_ne (a := (0 : Int)) (b := (0 : Int)) hb488 rfl q534
        refine aw_l2 aj_d249 rfl rfl hlv479_0 ?_
        have hw535 := ar_CI_o1 ci144 (by omega)
        have pp535 := ar_CI_pop ci144 hw535 (fun z => (ar_un pb488) ⟨hw535, z⟩) rfl rfl
        refine aw_k hU.1 aj_d249 rfl rfl [] rfl rfl rfl (Nat.le_of_ble_eq_true rfl) (ar_done hU (hI482).1 hI480.2 (by omega) (show 1 ≤ (S478.1 50).toInt by omega) (show 22 ≤ (S478.1 51).toInt by have := pp535.2; omega)) ?_
        rintro _ S535 ⟨hT535, fc535, ⟨b535, rfl, hb535, hG535, ck535⟩ | ⟨b535, rfl, hb535, hG535, ck535, r5535, r6535⟩⟩
        · skip
          have fr536 := aw_fr_tr fr481 (aw_fr_sub (F := [24, 25, 31, 50, 51]) (A := [14, 15, 16, 17, 18, 19]) (by decide) (by decide) fc535)
          have hI537 : aw_I s h (aw_sm S535) S535 := ⟨hT535, aw_sm_rf⟩
          show aw_W _ _ _ _ 157 lv479 [.int b535] _ _
          refine aw_z (tgt := 144) aj_d249 rfl rfl (fun q538 => ?_) (fun q538 => ?_)
          · have q538 : (0 : Int) ≠ (0 : Int) := aw_t_ne (a := (0 : Int)) (b := (0 : Int)) hb535 rfl q538
            exfalso
            omega
          · have q538 : (0 : Int) = (0 : Int) := aw_t_ne (a := (0 : Int)) (b := (0 : Int)) hb535 rfl q538
            refine aw_n aj_d249 rfl rfl ?_
            refine aw_e aj_d249 rfl rfl ?_
            have c539 : (S535.1 30).toInt = (S478.1 30).toInt := (congrArg Int32.toInt (fc535.1 30 (by decide)).1).trans rfl
            have b540 : 0 ≤ (S535.1 30).toInt ∧ (S535.1 30).toInt ≤ 1001 := aw_bd_f hs (hI537).1 (by decide) rfl
            exact ⟨(hI537).1, fr536, Or.inl ⟨_, rfl, rfl, hG535, (show _ ≤ ((S535.1 30)).toInt by omega)⟩⟩
        · skip
          have r5535 : (S535.1 50).toInt = (S478.1 50).toInt - 1 := r5535
          have fr542 := aw_fr_tr fr481 (aw_fr_sub (F := [24, 25, 31, 50, 51]) (A := [14, 15, 16, 17, 18, 19]) (by decide) (by decide) fc535)
          have hI543 : aw_I s h (aw_sm S535) S535 := ⟨hT535, aw_sm_rf⟩
          have ci541 : ar_CI (ar_mf (S535.2.2.1 23)) ((S535.1 50).toInt).toNat (S535.1 46).toInt ((S535.1 51).toInt - 20) (S535.1 46).toInt 1 := by
            rw [(fc535.2 23 (by decide)).1, (fc535.1 46 (by decide)).1]
            exact (ar_CI_pop ci144 hw535 (fun z => (ar_un pb488) ⟨hw535, z⟩) r5535 (by rw [r6535]; omega)).1
          have c544 : (S535.1 46).toInt = (S478.1 46).toInt := (congrArg Int32.toInt (fc535.1 46 (by decide)).1).trans rfl
          have b545 : 0 ≤ (S535.1 46).toInt ∧ (S535.1 46).toInt ≤ 8 := aw_bd_f hs (hI543).1 (by decide) rfl
          have b546 : 0 ≤ (S535.1 50).toInt ∧ (S535.1 50).toInt ≤ 63 := aw_bd_f hs (hI543).1 (by decide) rfl
          have b547 : 0 ≤ (S535.1 51).toInt ∧ (S535.1 51).toInt ≤ 48 := aw_bd_f hs (hI543).1 (by decide) rfl
          have c548 : (S535.1 30).toInt = (S478.1 30).toInt := (congrArg Int32.toInt (fc535.1 30 (by decide)).1).trans rfl
          have b549 : 0 ≤ (S535.1 30).toInt ∧ (S535.1 30).toInt ≤ 1001 := aw_bd_f hs (hI543).1 (by decide) rfl
          have cb550 := ar_CI_b ci541 (by omega)
          show aw_W _ _ _ _ 157 lv479 [.int b535] _ _
          refine aw_z (tgt := 144) aj_d249 rfl rfl (fun q551 => ?_) (fun q551 => ?_)
          · have q551 : (1 : Int) ≠ (0 : Int) := aw_t_ne (a := (1 : Int)) (b := (0 : Int)) hb535 rfl q551
            have b552 : 0 ≤ (S478.1 26).toInt ∧ (S478.1 26).toInt ≤ 5 := aw_bd_f hs (hI482).1 (by decide) rfl
            have c553 : (S535.1 26).toInt = (S478.1 26).toInt := (congrArg Int32.toInt (fc535.1 26 (by decide)).1).trans rfl
            have b554 : 0 ≤ (S535.1 26).toInt ∧ (S535.1 26).toInt ≤ 5 := aw_bd_f hs (hI543).1 (by decide) rfl
            have c555 : (S535.1 29).toInt = (S478.1 29).toInt := (congrArg Int32.toInt (fc535.1 29 (by decide)).1).trans rfl
            exact ihL144_476 S535 lv479 hlv479_0 ⟨(hI543).1, hG535⟩ fr542 ci541 (show _ ≤ ((S535.1 30)).toInt by omega) (show _ ≤ ((S535.1 30)).toInt by omega) (show _ ≤ ((S535.1 30)).toInt by omega) (show 1 ≤ ((S535.1 46)).toInt by omega) (show ((S535.1 26)).toInt = 3 ∧ ((S535.1 29)).toInt = 41 by omega) (show (((S535.1 50)).toInt).toNat < _ by omega)
          · have q551 : (1 : Int) = (0 : Int) := aw_t_ne (a := (1 : Int)) (b := (0 : Int)) hb535 rfl q551
            exfalso
            omega
theorem ar_q_L241_556 (hU : aw_U tb s h) (hd : 10 ≤ d + 1) (N22 : Nat) (S22 : aj_S) (ihL22_20 : ∀ (S22 : aj_S) (lv23 : aj_V), (aj_lv lv23 0 = some (.ref 117)) → (aw_I s h (aw_G (nm, fl, la, 0, 0, ht)) S22) → (aw_fr [24, 25, 26, 27, 28, 29, 30, 31, 33, 34, 35, 36, 38, 39, 40, 46, 47, 50, 51, 52, 53, 54, 56, 58] [14, 15, 16, 17, 18, 19, 23, 24, 25, 26, 27] S S22) → (ar_CI (ar_mf (S22.2.2.1 23)) ((S22.1 50).toInt).toNat (S22.1 46).toInt ((S22.1 51).toInt - 20) (S22.1 46).toInt 0) → ((S.1 30).toInt + 0 ≤ (S22.1 30).toInt) → (1001 - (S22.1 30).toInt).toNat < N22 → aw_W tb h d aj_m249 22 lv23 [] S22 ((ar_QT s h (nm, fl, la, 0, 0, ht) [24, 25, 26, 27, 28, 29, 30, 31, 33, 34, 35, 36, 38, 39, 40, 46, 47, 50, 51, 52, 53, 54, 56, 58] [14, 15, 16, 17, 18, 19, 23, 24, 25, 26, 27] S (fun _ => True)))) (hm22 : (1001 - (S22.1 30).toInt).toNat < N22 + 1) (N128 : Nat) (S321 : aj_S) (ihL128_319 : ∀ (S321 : aj_S) (lv322 : aj_V), (aj_lv lv322 0 = some (.ref 117)) → (aw_I s h (aw_G (nm, fl, la, 0, 0, ht)) S321) → (aw_fr [24, 25, 26, 27, 28, 29, 30, 31, 33, 34, 35, 36, 38, 39, 40, 46, 47, 50, 51, 52, 53, 54, 56, 58] [14, 15, 16, 17, 18, 19, 23, 24, 25, 26, 27] S S321) → (ar_CI (ar_mf (S321.2.2.1 23)) ((S321.1 50).toInt).toNat (S321.1 46).toInt ((S321.1 51).toInt - 20) (S321.1 46).toInt 1) → ((S.1 30).toInt + 1 ≤ (S321.1 30).toInt) → ((S22.1 30).toInt + 1 ≤ (S321.1 30).toInt) → (1001 - (S321.1 30).toInt).toNat < N128 → aw_W tb h d aj_m249 128 lv322 [] S321 ((ar_QT s h (nm, fl, la, 0, 0, ht) [24, 25, 26, 27, 28, 29, 30, 31, 33, 34, 35, 36, 38, 39, 40, 46, 47, 50, 51, 52, 53, 54, 56, 58] [14, 15, 16, 17, 18, 19, 23, 24, 25, 26, 27] S (fun _ => True)))) (hm128 : (1001 - (S321.1 30).toInt).toNat < N128 + 1) : ∀ (N : Nat) (S558 : aj_S) (lv559 : aj_V) (x560 : Int32), (aj_lv lv559 0 = some (.ref 117)) → (aj_lv lv559 1 = some (.int x560)) → (aw_I s h (aw_G (nm, fl, la, 0, 0, ht)) S558) → (aw_fr [24, 25, 26, 27, 28, 29, 30, 31, 33, 34, 35, 36, 38, 39, 40, 46, 47, 50, 51, 52, 53, 54, 56, 58] [14, 15, 16, 17, 18, 19, 23, 24, 25, 26, 27] S S558) → (1 ≤ x560.toInt ∧ x560.toInt ≤ 1) → (ar_CI (ar_mf (S558.2.2.1 23)) ((S558.1 50).toInt).toNat (S558.1 46).toInt ((S558.1 51).toInt - 20) (S558.1 46).toInt 1) → ((S.1 30).toInt + 1 ≤ (S558.1 30).toInt) → ((S22.1 30).toInt + 1 ≤ (S558.1 30).toInt) → ((S558.1 26).toInt = 3 ∧ ((S558.1 29).toInt = 42 ∨ (S558.1 29).toInt = 43 ∨ (S558.1 29).toInt = 45)) → ((S558.1 50).toInt).toNat < N → aw_W tb h d aj_m249 241 lv559 [] S558 ((ar_QT s h (nm, fl, la, 0, 0, ht) [24, 25, 26, 27, 28, 29, 30, 31, 33, 34, 35, 36, 38, 39, 40, 46, 47, 50, 51, 52, 53, 54, 56, 58] [14, 15, 16, 17, 18, 19, 23, 24, 25, 26, 27] S (fun _ => True))) := by
  have hs : aw_sT s := aw_hy_sT hU.2.2
  intro N241
  induction N241 with
  | zero =>
    intro S558 lv559 x560 hlv559_0 hlv559_1 hI561 fr562 bx560 ci241 ck241 cA241 k241 hm241
    omega
  | succ N241 ihL241_556 =>
    intro S558 lv559 x560 hlv559_0 hlv559_1 hI561 fr562 bx560 ci241 ck241 cA241 k241 hm241
    have hI563 : aw_I s h (aw_sm S558) S558 := ⟨hI561.1, aw_sm_rf⟩
    have b564 : 0 ≤ (S558.1 46).toInt ∧ (S558.1 46).toInt ≤ 8 := aw_bd_f hs (hI563).1 (by decide) rfl
    have b565 : 0 ≤ (S558.1 50).toInt ∧ (S558.1 50).toInt ≤ 63 := aw_bd_f hs (hI563).1 (by decide) rfl
    have b566 : 0 ≤ (S558.1 51).toInt ∧ (S558.1 51).toInt ≤ 48 := aw_bd_f hs (hI563).1 (by decide) rfl
    have b567 : 0 ≤ (S558.1 30).toInt ∧ (S558.1 30).toInt ≤ 1001 := aw_bd_f hs (hI563).1 (by decide) rfl
    have cb568 := ar_CI_b ci241 (by omega)
    refine aw_l2 aj_d249 rfl rfl hlv559_0 ?_
    refine aw_n aj_d249 rfl rfl ?_
    refine aw_k hU.1 aj_d249 rfl rfl [_] rfl rfl rfl (Nat.le_of_ble_eq_true rfl) (ar_isActing hU (hI563).1 (by omega)) ?_
    rintro _ zb569 ⟨fb569, b569, rfl, kb569⟩
    rw [fb569]
    rcases kb569 with ⟨hb569, pb569, qb569⟩ | ⟨hb569, pb569⟩
    · skip
      have qb569 : (S558.2.2.1 23 ((S558.1 50).toInt - 1).toNat).toInt = (42 : Int) := qb569
      have pb569 : 1 ≤ (S558.1 50).toInt := pb569
      show aw_W _ _ _ _ 247 lv559 [.int b569] _ _
      refine aw_z (tgt := 277) aj_d249 rfl rfl (fun q570 => ?_) (fun q570 => ?_)
      · have q570 : (1 : Int) ≠ (0 : Int) := aw_t_ne (a := (1 : Int)) (b := (0 : Int)) hb569 rfl q570
        refine aw_l2 aj_d249 rfl rfl hlv559_0 ?_
        have hw571 : 1 ≤ (S558.1 50).toInt := by omega
        have pp571 := ar_CI_pop ci241 hw571 (by rw [qb569]; decide) rfl rfl
        refine aw_k hU.1 aj_d249 rfl rfl [] rfl rfl rfl (Nat.le_of_ble_eq_true rfl) (ar_done hU (hI563).1 hI561.2 (by omega) (show 1 ≤ (S558.1 50).toInt by omega) (show 22 ≤ (S558.1 51).toInt by have := pp571.2; omega)) ?_
        rintro _ S571 ⟨hT571, fc571, ⟨b571, rfl, hb571, hG571, ck571⟩ | ⟨b571, rfl, hb571, hG571, ck571, r5571, r6571⟩⟩
        · skip
          have fr572 := aw_fr_tr fr562 (aw_fr_sub (F := [24, 25, 31, 50, 51]) (A := [14, 15, 16, 17, 18, 19]) (by decide) (by decide) fc571)
          have hI573 : aw_I s h (aw_sm S571) S571 := ⟨hT571, aw_sm_rf⟩
          show aw_W _ _ _ _ 281 lv559 [.int b571] _ _
          refine aw_z (tgt := 241) aj_d249 rfl rfl (fun q574 => ?_) (fun q574 => ?_)
          · have q574 : (0 : Int) ≠ (0 : Int) := aw_t_ne (a := (0 : Int)) (b := (0 : Int)) hb571 rfl q574
            exfalso
            omega
          · have q574 : (0 : Int) = (0 : Int) := aw_t_ne (a := (0 : Int)) (b := (0 : Int)) hb571 rfl q574
            refine aw_n aj_d249 rfl rfl ?_
            refine aw_e aj_d249 rfl rfl ?_
            have c575 : (S571.1 30).toInt = (S558.1 30).toInt := (congrArg Int32.toInt (fc571.1 30 (by decide)).1).trans rfl
            have b576 : 0 ≤ (S571.1 30).toInt ∧ (S571.1 30).toInt ≤ 1001 := aw_bd_f hs (hI573).1 (by decide) rfl
            exact ⟨(hI573).1, fr572, Or.inl ⟨_, rfl, rfl, hG571, (show _ ≤ ((S571.1 30)).toInt by omega)⟩⟩
        · skip
          have r5571 : (S571.1 50).toInt = (S558.1 50).toInt - 1 := r5571
          have fr578 := aw_fr_tr fr562 (aw_fr_sub (F := [24, 25, 31, 50, 51]) (A := [14, 15, 16, 17, 18, 19]) (by decide) (by decide) fc571)
          have hI579 : aw_I s h (aw_sm S571) S571 := ⟨hT571, aw_sm_rf⟩
          have ci577 : ar_CI (ar_mf (S571.2.2.1 23)) ((S571.1 50).toInt).toNat (S571.1 46).toInt ((S571.1 51).toInt - 20) (S571.1 46).toInt 1 := by
            rw [(fc571.2 23 (by decide)).1, (fc571.1 46 (by decide)).1]
            exact (ar_CI_pop ci241 hw571 (by rw [qb569]; decide) r5571 (by rw [r6571]; omega)).1
          have c580 : (S571.1 46).toInt = (S558.1 46).toInt := (congrArg Int32.toInt (fc571.1 46 (by decide)).1).trans rfl
          have b581 : 0 ≤ (S571.1 46).toInt ∧ (S571.1 46).toInt ≤ 8 := aw_bd_f hs (hI579).1 (by decide) rfl
          have b582 : 0 ≤ (S571.1 50).toInt ∧ (S571.1 50).toInt ≤ 63 := aw_bd_f hs (hI579).1 (by decide) rfl
          have b583 : 0 ≤ (S571.1 51).toInt ∧ (S571.1 51).toInt ≤ 48 := aw_bd_f hs (hI579).1 (by decide) rfl
          have c584 : (S571.1 30).toInt = (S558.1 30).toInt := (congrArg Int32.toInt (fc571.1 30 (by decide)).1).trans rfl
          have b585 : 0 ≤ (S571.1 30).toInt ∧ (S571.1 30).toInt ≤ 1001 := aw_bd_f hs (hI579).1 (by decide) rfl
          have cb586 := ar_CI_b ci577 (by omega)
          show aw_W _ _ _ _ 281 lv559 [.int b571] _ _
          refine aw_z (tgt := 241) aj_d249 rfl rfl (fun q587 => ?_) (fun q587 => ?_)
          · have q587 : (1 : Int) ≠ (0 : Int) := aw_t_ne (a := (1 : Int)) (b := (0 : Int)) hb571 rfl q587
            have b588 : 0 ≤ (S558.1 26).toInt ∧ (S558.1 26).toInt ≤ 5 := aw_bd_f hs (hI563).1 (by decide) rfl
            have c589 : (S571.1 26).toInt = (S558.1 26).toInt := (congrArg Int32.toInt (fc571.1 26 (by decide)).1).trans rfl
            have b590 : 0 ≤ (S571.1 26).toInt ∧ (S571.1 26).toInt ≤ 5 := aw_bd_f hs (hI579).1 (by decide) rfl
            have c591 : (S571.1 29).toInt = (S558.1 29).toInt := (congrArg Int32.toInt (fc571.1 29 (by decide)).1).trans rfl
            exact ihL241_556 S571 lv559 (x560) hlv559_0 hlv559_1 ⟨(hI579).1, hG571⟩ fr578 (by first | omega | decide) ci577 (show _ ≤ ((S571.1 30)).toInt by omega) (show _ ≤ ((S571.1 30)).toInt by omega) (show ((S571.1 26)).toInt = 3 ∧ (((S571.1 29)).toInt = 42 ∨ ((S571.1 29)).toInt = 43 ∨ ((S571.1 29)).toInt = 45) by omega) (show (((S571.1 50)).toInt).toNat < _ by omega)
          · have q587 : (1 : Int) = (0 : Int) := aw_t_ne (a := (1 : Int)) (b := (0 : Int)) hb571 rfl q587
            exfalso
            omega
      · have q570 : (1 : Int) = (0 : Int) := aw_t_ne (a := (1 : Int)) (b := (0 : Int)) hb569 rfl q570
        exfalso
        omega
    · skip
      have pb569 : ar_hd (¬ (1 ≤ (S558.1 50).toInt ∧ (S558.2.2.1 23 ((S558.1 50).toInt - 1).toNat).toInt = (42 : Int))) := ar_mk pb569
      show aw_W _ _ _ _ 247 lv559 [.int b569] _ _
      refine aw_z (tgt := 277) aj_d249 rfl rfl (fun q592 => ?_) (fun q592 => ?_)
      · have q592 : (0 : Int) ≠ (0 : Int) := aw_t_ne (a := (0 : Int)) (b := (0 : Int)) hb569 rfl q592
        exfalso
        omega
      · have q592 : (0 : Int) = (0 : Int) := aw_t_ne (a := (0 : Int)) (b := (0 : Int)) hb569 rfl q592
        refine aw_l2 aj_d249 rfl rfl hlv559_0 ?_
        refine aw_n aj_d249 rfl rfl ?_
        refine aw_k hU.1 aj_d249 rfl rfl [_] rfl rfl rfl (Nat.le_of_ble_eq_true rfl) (ar_isSign hU (by omega) (b := (42 : Int)) rfl) ?_
        have b595 : 0 ≤ (S558.1 26).toInt ∧ (S558.1 26).toInt ≤ 5 := aw_bd_f hs (hI563).1 (by decide) rfl
        rintro _ S594 ⟨eS594, b593, rfl, kb593⟩
        rw [eS594]
        rcases kb593 with ⟨hb593, pb593, qb593⟩ | ⟨hb593, pb593⟩
        · skip
          have pb593 : ((S558.1 26)).toInt = 3 := pb593
          have qb593 : ((S558.1 29)).toInt = (42 : Int) := qb593
          show aw_W _ _ _ _ 256 lv559 [.int b593] _ _
          refine aw_z (tgt := 286) aj_d249 rfl rfl (fun q596 => ?_) (fun q596 => ?_)
          · have q596 : (1 : Int) ≠ (0 : Int) := aw_t_ne (a := (1 : Int)) (b := (0 : Int)) hb593 rfl q596
            refine aw_l2 aj_d249 rfl rfl hlv559_0 ?_
            refine aw_g hU.1 aj_d249 rfl rfl (by decide) (v := .ref 140) rfl ?_
            refine aw_l2 aj_d249 rfl rfl hlv559_0 ?_
            refine aw_g hU.1 aj_d249 rfl rfl (by decide) (v := .int (S558.1 50)) rfl ?_
            refine aw_l2 aj_d249 rfl rfl hlv559_0 ?_
            refine aw_g hU.1 aj_d249 rfl rfl (by decide) (v := .int (S558.1 29)) rfl ?_
            refine aw_st (k := 23) hU.1 aj_d249 (Or.inl ⟨rfl, rfl⟩) rfl (by decide) (by decide) rfl (a := (S558.1 50).toInt) rfl (by omega) (by omega) ?_
            have hI597 := aw_I_a (aw_UV hU aw_Gs_sm) (k := 23) (j := ((S558.1 50).toInt).toNat) (v := aj_nar 0 (S558.1 29)) hI563 (by decide) (by decide) (by decide) rfl (by decide) (by decide) rfl (aw_full _)
            have fr598 := aw_fr_a (k := 23) (j := ((S558.1 50).toInt).toNat) (v := aj_nar 0 (S558.1 29)) (by decide) fr562
            refine aw_l2 aj_d249 rfl rfl hlv559_0 ?_
            refine aw_g hU.1 aj_d249 rfl rfl (by decide) (v := .ref 141) rfl ?_
            refine aw_l2 aj_d249 rfl rfl hlv559_0 ?_
            refine aw_g hU.1 aj_d249 rfl rfl (by decide) (v := .int (S558.1 50)) rfl ?_
            refine aw_l2 aj_d249 rfl rfl hlv559_0 ?_
            have b599 : 0 ≤ (S558.1 27).toInt ∧ (S558.1 27).toInt ≤ 4000 := aw_bd_f hs (hI563).1 (by decide) rfl
            refine aw_g hU.1 aj_d249 rfl rfl (by decide) (v := .int (S558.1 27)) rfl ?_
            refine aw_st (k := 24) hU.1 aj_d249 (Or.inl ⟨rfl, rfl⟩) rfl (by decide) (by decide) rfl (a := (S558.1 50).toInt) rfl (by omega) (by omega) ?_
            have hI600 := aw_I_a (aw_UV hU aw_Gs_sm) (k := 24) (j := ((S558.1 50).toInt).toNat) (v := aj_nar 0 (S558.1 27)) hI597 (by decide) (by decide) (by decide) rfl (by decide) (by decide) rfl (aw_full _)
            have fr601 := aw_fr_a (k := 24) (j := ((S558.1 50).toInt).toNat) (v := aj_nar 0 (S558.1 27)) (by decide) fr598
            refine aw_l2 aj_d249 rfl rfl hlv559_0 ?_
            refine aw_n aj_d249 rfl rfl ?_
            refine aw_g hU.1 aj_d249 rfl rfl (by decide) (v := .int (S558.1 50)) rfl ?_
            refine aw_n aj_d249 rfl rfl ?_
            refine aw_add aj_d249 rfl (a := (S558.1 50).toInt) (b := (1 : Int)) rfl rfl (by omega) (by omega) (fun x602 ex602 => ?_)
            refine aw_p hU.1 aj_d249 rfl rfl (by decide) rfl ?_
            have hI603 := aw_I_f (aw_UV hU aw_Gs_sm) (k := 50) (v := x602) hI600 (by decide) (by decide) rfl (aw_bp (a := x602.toInt) rfl (by omega) (by omega))
            have fr604 := aw_fr_f (k := 50) (v := x602) (by decide) fr601
            have ci605 : ar_CI (ar_mf (((aw_wf (aw_wa (aw_wa S558 23 ((S558.1 50).toInt).toNat (aj_nar 0 (S558.1 29))) 24 ((S558.1 50).toInt).toNat (aj_nar 0 (S558.1 27))) 50 x602)).2.2.1 23)) ((((aw_wf (aw_wa (aw_wa S558 23 ((S558.1 50).toInt).toNat (aj_nar 0 (S558.1 29))) 24 ((S558.1 50).toInt).toNat (aj_nar 0 (S558.1 27))) 50 x602)).1 50).toInt).toNat (((aw_wf (aw_wa (aw_wa S558 23 ((S558.1 50).toInt).toNat (aj_nar 0 (S558.1 29))) 24 ((S558.1 50).toInt).toNat (aj_nar 0 (S558.1 27))) 50 x602)).1 46).toInt ((((aw_wf (aw_wa (aw_wa S558 23 ((S558.1 50).toInt).toNat (aj_nar 0 (S558.1 29))) 24 ((S558.1 50).toInt).toNat (aj_nar 0 (S558.1 27))) 50 x602)).1 51).toInt - 20) (((aw_wf (aw_wa (aw_wa S558 23 ((S558.1 50).toInt).toNat (aj_nar 0 (S558.1 29))) 24 ((S558.1 50).toInt).toNat (aj_nar 0 (S558.1 27))) 50 x602)).1 46).toInt 0 := by
              show ar_CI (ar_mf (upd (S558.2.2.1 23) ((S558.1 50).toInt).toNat ((S558.1 29)))) ((x602).toInt).toNat ((S558.1 46).toInt) ((S558.1 51).toInt - 20) ((S558.1 46).toInt) 0
              rw [show ((x602).toInt).toNat = ((S558.1 50).toInt).toNat + 1 by omega, ar_mf_upd]
              have e7 : ((S558.1 50).toInt).toNat - 1 = ((S558.1 50).toInt - 1).toNat := by omega
              refine ar_CI_op ci241 ?_
              rw [e7]
              have n38 : ¬ (1 ≤ ((S558.1 50).toInt).toNat ∧ ((ar_mf (S558.2.2.1 23)) ((S558.1 50).toInt - 1).toNat).toInt = 38) := fun z => (ar_un pb569) ⟨by omega, ar_mp_i38 z.2⟩
              exact Or.inl ⟨by rw [ar_mp_42 (by omega)]; rfl, n38⟩
            refine aw_l2 aj_d249 rfl rfl hlv559_0 ?_
            refine aw_k hU.1 aj_d249 rfl rfl [] rfl rfl rfl (Nat.le_of_ble_eq_true rfl) (aw_toK hU aw_Gs_G (con := ac_c264a) (by omega) (ar_264a hU.2.1 (aw_SPc hU.2.2 aw_Gs_G) aw_kpc (arc_214b hU) (arc_215 hU)) ⟨(hI603).1, (aw_G_sm hI603.2 hI561.2)⟩ ⟨(aw_g117 hU.2.2), trivial⟩ (aw_gQ_of hU (fun e he => by
                simp only [List.mem_cons, List.not_mem_nil, or_false] at he
                rcases he with rfl | rfl
                · exact ⟨by decide, (show (3 : Int) ≤ ((S558.1 26)).toInt by omega), (show ((S558.1 26)).toInt ≤ (3 : Int) by omega)⟩
                · exact ⟨by decide, (show (0 : Int) ≤ ((S558.1 29)).toInt by omega), (show ((S558.1 29)).toInt ≤ (62 : Int) by omega)⟩))) ?_
            rintro r606 S606 ⟨hr606, hJ606, fc606, po606, -⟩
            have hT606 := hJ606.1
            replace fc606 := aw_fr_sub (F' := [24, 25, 26, 27, 28, 29, 30, 31, 47]) (A' := []) (by decide) (by decide) fc606
            rcases ar_bool hU (hI603).1 hT606 hr606 po606 with ⟨b606, rfl, hb606, cf606⟩ | ⟨b606, rfl, hb606, ck606, gq606⟩
            · skip
              have cf606 : (S558.1 30).toInt + 0 ≤ (S606.1 30).toInt := cf606
              have fr607 := aw_fr_tr fr604 (aw_fr_sub (F := [24, 25, 26, 27, 28, 29, 30, 31, 47]) (A := []) (by decide) (by decide) fc606)
              have hI608 : aw_I s h (aw_sm S606) S606 := ⟨hT606, aw_sm_rf⟩
              show aw_W _ _ _ _ 326 lv559 [.int b606] _ _
              refine aw_z (tgt := 18) aj_d249 rfl rfl (fun q609 => ?_) (fun q609 => ?_)
              · have q609 : (0 : Int) ≠ (0 : Int) := aw_t_ne (a := (0 : Int)) (b := (0 : Int)) hb606 rfl q609
                exfalso
                omega
              · have q609 : (0 : Int) = (0 : Int) := aw_t_ne (a := (0 : Int)) (b := (0 : Int)) hb606 rfl q609
                refine aw_n aj_d249 rfl rfl ?_
                refine aw_e aj_d249 rfl rfl ?_
                have b610 : 0 ≤ (S606.1 30).toInt ∧ (S606.1 30).toInt ≤ 1001 := aw_bd_f hs (hI608).1 (by decide) rfl
                exact ⟨(hI608).1, fr607, Or.inl ⟨_, rfl, rfl, hJ606.2, (show _ ≤ ((S606.1 30)).toInt by omega)⟩⟩
            · skip
              have ck606 : (S558.1 30).toInt + 1 ≤ (S606.1 30).toInt := ck606
              have fr611 := aw_fr_tr fr604 (aw_fr_sub (F := [24, 25, 26, 27, 28, 29, 30, 31, 47]) (A := []) (by decide) (by decide) fc606)
              have hI612 : aw_I s h (aw_sm S606) S606 := ⟨hT606, aw_sm_rf⟩
              have ci613 : ar_CI (ar_mf (S606.2.2.1 23)) ((S606.1 50).toInt).toNat (S606.1 46).toInt ((S606.1 51).toInt - 20) (S606.1 46).toInt 0 := by
                rw [(fc606.2 23 (by decide)).1, (fc606.1 50 (by decide)).1, (fc606.1 46 (by decide)).1, (fc606.1 51 (by decide)).1]
                exact ci605
              have c614 : (S606.1 46).toInt = (S558.1 46).toInt := (congrArg Int32.toInt (fc606.1 46 (by decide)).1).trans rfl
              have b615 : 0 ≤ (S606.1 46).toInt ∧ (S606.1 46).toInt ≤ 8 := aw_bd_f hs (hI612).1 (by decide) rfl
              have c616 : (S606.1 50).toInt = x602.toInt := (congrArg Int32.toInt (fc606.1 50 (by decide)).1).trans rfl
              have b617 : 0 ≤ (S606.1 50).toInt ∧ (S606.1 50).toInt ≤ 63 := aw_bd_f hs (hI612).1 (by decide) rfl
              have c618 : (S606.1 51).toInt = (S558.1 51).toInt := (congrArg Int32.toInt (fc606.1 51 (by decide)).1).trans rfl
              have b619 : 0 ≤ (S606.1 51).toInt ∧ (S606.1 51).toInt ≤ 48 := aw_bd_f hs (hI612).1 (by decide) rfl
              have b620 : 0 ≤ (S606.1 30).toInt ∧ (S606.1 30).toInt ≤ 1001 := aw_bd_f hs (hI612).1 (by decide) rfl
              have cb621 := ar_CI_b ci613 (by omega)
              show aw_W _ _ _ _ 326 lv559 [.int b606] _ _
              refine aw_z (tgt := 18) aj_d249 rfl rfl (fun q622 => ?_) (fun q622 => ?_)
              · have q622 : (1 : Int) ≠ (0 : Int) := aw_t_ne (a := (1 : Int)) (b := (0 : Int)) hb606 rfl q622
                refine aw_l0 aj_d249 rfl rfl hlv559_1 ?_
                refine aw_z (tgt := 331) aj_d249 rfl rfl (fun q623 => ?_) (fun q623 => ?_)
                · have q623 : (1 : Int) = (0 : Int) := aw_t_eq (a := (1 : Int)) (b := (0 : Int)) (by omega) rfl q623
                  exfalso
                  omega
                · have q623 : (1 : Int) ≠ (0 : Int) := aw_t_eq (a := (1 : Int)) (b := (0 : Int)) (by omega) rfl q623
                  exact ihL22_20 S606 lv559 hlv559_0 ⟨(hI612).1, hJ606.2⟩ fr611 ci613 (show _ ≤ ((S606.1 30)).toInt by omega) (show (1001 - ((S606.1 30)).toInt).toNat < _ by omega)
              · have q622 : (1 : Int) = (0 : Int) := aw_t_ne (a := (1 : Int)) (b := (0 : Int)) hb606 rfl q622
                exfalso
                omega
          · have q596 : (1 : Int) = (0 : Int) := aw_t_ne (a := (1 : Int)) (b := (0 : Int)) hb593 rfl q596
            exfalso
            omega
        · skip
          clear pb593
          show aw_W _ _ _ _ 256 lv559 [.int b593] _ _
          refine aw_z (tgt := 286) aj_d249 rfl rfl (fun q624 => ?_) (fun q624 => ?_)
          · have q624 : (0 : Int) ≠ (0 : Int) := aw_t_ne (a := (0 : Int)) (b := (0 : Int)) hb593 rfl q624
            exfalso
            omega
          · have q624 : (0 : Int) = (0 : Int) := aw_t_ne (a := (0 : Int)) (b := (0 : Int)) hb593 rfl q624
            refine aw_l2 aj_d249 rfl rfl hlv559_0 ?_
            refine aw_n aj_d249 rfl rfl ?_
            refine aw_k hU.1 aj_d249 rfl rfl [_] rfl rfl rfl (Nat.le_of_ble_eq_true rfl) (ar_isActing hU (hI563).1 (by omega)) ?_
            rintro _ zb625 ⟨fb625, b625, rfl, kb625⟩
            rw [fb625]
            rcases kb625 with ⟨hb625, pb625, qb625⟩ | ⟨hb625, pb625⟩
            · skip
              have qb625 : (S558.2.2.1 23 ((S558.1 50).toInt - 1).toNat).toInt = (43 : Int) := qb625
              have pb625 : 1 ≤ (S558.1 50).toInt := pb625
              show aw_W _ _ _ _ 265 lv559 [.int b625] _ _
              refine aw_z (tgt := 277) aj_d249 rfl rfl (fun q626 => ?_) (fun q626 => ?_)
              · have q626 : (1 : Int) ≠ (0 : Int) := aw_t_ne (a := (1 : Int)) (b := (0 : Int)) hb625 rfl q626
                refine aw_l2 aj_d249 rfl rfl hlv559_0 ?_
                have hw627 : 1 ≤ (S558.1 50).toInt := by omega
                have pp627 := ar_CI_pop ci241 hw627 (by rw [qb625]; decide) rfl rfl
                refine aw_k hU.1 aj_d249 rfl rfl [] rfl rfl rfl (Nat.le_of_ble_eq_true rfl) (ar_done hU (hI563).1 hI561.2 (by omega) (show 1 ≤ (S558.1 50).toInt by omega) (show 22 ≤ (S558.1 51).toInt by have := pp627.2; omega)) ?_
                rintro _ S627 ⟨hT627, fc627, ⟨b627, rfl, hb627, hG627, ck627⟩ | ⟨b627, rfl, hb627, hG627, ck627, r5627, r6627⟩⟩
                · skip
                  have fr628 := aw_fr_tr fr562 (aw_fr_sub (F := [24, 25, 31, 50, 51]) (A := [14, 15, 16, 17, 18, 19]) (by decide) (by decide) fc627)
                  have hI629 : aw_I s h (aw_sm S627) S627 := ⟨hT627, aw_sm_rf⟩
                  show aw_W _ _ _ _ 281 lv559 [.int b627] _ _
                  refine aw_z (tgt := 241) aj_d249 rfl rfl (fun q630 => ?_) (fun q630 => ?_)
                  · have q630 : (0 : Int) ≠ (0 : Int) := aw_t_ne (a := (0 : Int)) (b := (0 : Int)) hb627 rfl q630
                    exfalso
                    omega
                  · have q630 : (0 : Int) = (0 : Int) := aw_t_ne (a := (0 : Int)) (b := (0 : Int)) hb627 rfl q630
                    refine aw_n aj_d249 rfl rfl ?_
                    refine aw_e aj_d249 rfl rfl ?_
                    have c631 : (S627.1 30).toInt = (S558.1 30).toInt := (congrArg Int32.toInt (fc627.1 30 (by decide)).1).trans rfl
                    have b632 : 0 ≤ (S627.1 30).toInt ∧ (S627.1 30).toInt ≤ 1001 := aw_bd_f hs (hI629).1 (by decide) rfl
                    exact ⟨(hI629).1, fr628, Or.inl ⟨_, rfl, rfl, hG627, (show _ ≤ ((S627.1 30)).toInt by omega)⟩⟩
                · skip
                  have r5627 : (S627.1 50).toInt = (S558.1 50).toInt - 1 := r5627
                  have fr634 := aw_fr_tr fr562 (aw_fr_sub (F := [24, 25, 31, 50, 51]) (A := [14, 15, 16, 17, 18, 19]) (by decide) (by decide) fc627)
                  have hI635 : aw_I s h (aw_sm S627) S627 := ⟨hT627, aw_sm_rf⟩
                  have ci633 : ar_CI (ar_mf (S627.2.2.1 23)) ((S627.1 50).toInt).toNat (S627.1 46).toInt ((S627.1 51).toInt - 20) (S627.1 46).toInt 1 := by
                    rw [(fc627.2 23 (by decide)).1, (fc627.1 46 (by decide)).1]
                    exact (ar_CI_pop ci241 hw627 (by rw [qb625]; decide) r5627 (by rw [r6627]; omega)).1
                  have c636 : (S627.1 46).toInt = (S558.1 46).toInt := (congrArg Int32.toInt (fc627.1 46 (by decide)).1).trans rfl
                  have b637 : 0 ≤ (S627.1 46).toInt ∧ (S627.1 46).toInt ≤ 8 := aw_bd_f hs (hI635).1 (by decide) rfl
                  have b638 : 0 ≤ (S627.1 50).toInt ∧ (S627.1 50).toInt ≤ 63 := aw_bd_f hs (hI635).1 (by decide) rfl
                  have b639 : 0 ≤ (S627.1 51).toInt ∧ (S627.1 51).toInt ≤ 48 := aw_bd_f hs (hI635).1 (by decide) rfl
                  have c640 : (S627.1 30).toInt = (S558.1 30).toInt := (congrArg Int32.toInt (fc627.1 30 (by decide)).1).trans rfl
                  have b641 : 0 ≤ (S627.1 30).toInt ∧ (S627.1 30).toInt ≤ 1001 := aw_bd_f hs (hI635).1 (by decide) rfl
                  have cb642 := ar_CI_b ci633 (by omega)
                  show aw_W _ _ _ _ 281 lv559 [.int b627] _ _
                  refine aw_z (tgt := 241) aj_d249 rfl rfl (fun q643 => ?_) (fun q643 => ?_)
                  · have q643 : (1 : Int) ≠ (0 : Int) := aw_t_ne (a := (1 : Int)) (b := (0 : Int)) hb627 rfl q643
                    have c644 : (S627.1 26).toInt = (S558.1 26).toInt := (congrArg Int32.toInt (fc627.1 26 (by decide)).1).trans rfl
                    have b645 : 0 ≤ (S627.1 26).toInt ∧ (S627.1 26).toInt ≤ 5 := aw_bd_f hs (hI635).1 (by decide) rfl
                    have c646 : (S627.1 29).toInt = (S558.1 29).toInt := (congrArg Int32.toInt (fc627.1 29 (by decide)).1).trans rfl
                    exact ihL241_556 S627 lv559 (x560) hlv559_0 hlv559_1 ⟨(hI635).1, hG627⟩ fr634 (by first | omega | decide) ci633 (show _ ≤ ((S627.1 30)).toInt by omega) (show _ ≤ ((S627.1 30)).toInt by omega) (show ((S627.1 26)).toInt = 3 ∧ (((S627.1 29)).toInt = 42 ∨ ((S627.1 29)).toInt = 43 ∨ ((S627.1 29)).toInt = 45) by omega) (show (((S627.1 50)).toInt).toNat < _ by omega)
                  · have q643 : (1 : Int) = (0 : Int) := aw_t_ne (a := (1 : Int)) (b := (0 : Int)) hb627 rfl q643
                    exfalso
                    omega
              · have q626 : (1 : Int) = (0 : Int) := aw_t_ne (a := (1 : Int)) (b := (0 : Int)) hb625 rfl q626
                exfalso
                omega
            · skip
              have pb625 : ar_hd (¬ (1 ≤ (S558.1 50).toInt ∧ (S558.2.2.1 23 ((S558.1 50).toInt - 1).toNat).toInt = (43 : Int))) := ar_mk pb625
              show aw_W _ _ _ _ 265 lv559 [.int b625] _ _
              refine aw_z (tgt := 277) aj_d249 rfl rfl (fun q647 => ?_) (fun q647 => ?_)
              · have q647 : (0 : Int) ≠ (0 : Int) := aw_t_ne (a := (0 : Int)) (b := (0 : Int)) hb625 rfl q647
                exfalso
                omega
              · have q647 : (0 : Int) = (0 : Int) := aw_t_ne (a := (0 : Int)) (b := (0 : Int)) hb625 rfl q647
                refine aw_l2 aj_d249 rfl rfl hlv559_0 ?_
                refine aw_n aj_d249 rfl rfl ?_
                refine aw_k hU.1 aj_d249 rfl rfl [_] rfl rfl rfl (Nat.le_of_ble_eq_true rfl) (ar_isActing hU (hI563).1 (by omega)) ?_
                rintro _ zb648 ⟨fb648, b648, rfl, kb648⟩
                rw [fb648]
                rcases kb648 with ⟨hb648, pb648, qb648⟩ | ⟨hb648, pb648⟩
                · skip
                  have qb648 : (S558.2.2.1 23 ((S558.1 50).toInt - 1).toNat).toInt = (45 : Int) := qb648
                  have pb648 : 1 ≤ (S558.1 50).toInt := pb648
                  show aw_W _ _ _ _ 274 lv559 [.int b648] _ _
                  refine aw_z (tgt := 286) aj_d249 rfl rfl (fun q649 => ?_) (fun q649 => ?_)
                  · have q649 : (1 : Int) = (0 : Int) := aw_t_eq (a := (1 : Int)) (b := (0 : Int)) hb648 rfl q649
                    exfalso
                    omega
                  · have q649 : (1 : Int) ≠ (0 : Int) := aw_t_eq (a := (1 : Int)) (b := (0 : Int)) hb648 rfl q649
                    refine aw_l2 aj_d249 rfl rfl hlv559_0 ?_
                    have hw650 : 1 ≤ (S558.1 50).toInt := by omega
                    have pp650 := ar_CI_pop ci241 hw650 (by rw [qb648]; decide) rfl rfl
                    refine aw_k hU.1 aj_d249 rfl rfl [] rfl rfl rfl (Nat.le_of_ble_eq_true rfl) (ar_done hU (hI563).1 hI561.2 (by omega) (show 1 ≤ (S558.1 50).toInt by omega) (show 22 ≤ (S558.1 51).toInt by have := pp650.2; omega)) ?_
                    rintro _ S650 ⟨hT650, fc650, ⟨b650, rfl, hb650, hG650, ck650⟩ | ⟨b650, rfl, hb650, hG650, ck650, r5650, r6650⟩⟩
                    · skip
                      have fr651 := aw_fr_tr fr562 (aw_fr_sub (F := [24, 25, 31, 50, 51]) (A := [14, 15, 16, 17, 18, 19]) (by decide) (by decide) fc650)
                      have hI652 : aw_I s h (aw_sm S650) S650 := ⟨hT650, aw_sm_rf⟩
                      show aw_W _ _ _ _ 281 lv559 [.int b650] _ _
                      refine aw_z (tgt := 241) aj_d249 rfl rfl (fun q653 => ?_) (fun q653 => ?_)
                      · have q653 : (0 : Int) ≠ (0 : Int) := aw_t_ne (a := (0 : Int)) (b := (0 : Int)) hb650 rfl q653
                        exfalso
                        omega
                      · have q653 : (0 : Int) = (0 : Int) := aw_t_ne (a := (0 : Int)) (b := (0 : Int)) hb650 rfl q653
                        refine aw_n aj_d249 rfl rfl ?_
                        refine aw_e aj_d249 rfl rfl ?_
                        have c654 : (S650.1 30).toInt = (S558.1 30).toInt := (congrArg Int32.toInt (fc650.1 30 (by decide)).1).trans rfl
                        have b655 : 0 ≤ (S650.1 30).toInt ∧ (S650.1 30).toInt ≤ 1001 := aw_bd_f hs (hI652).1 (by decide) rfl
                        exact ⟨(hI652).1, fr651, Or.inl ⟨_, rfl, rfl, hG650, (show _ ≤ ((S650.1 30)).toInt by omega)⟩⟩
                    · skip
                      have r5650 : (S650.1 50).toInt = (S558.1 50).toInt - 1 := r5650
                      have fr657 := aw_fr_tr fr562 (aw_fr_sub (F := [24, 25, 31, 50, 51]) (A := [14, 15, 16, 17, 18, 19]) (by decide) (by decide) fc650)
                      have hI658 : aw_I s h (aw_sm S650) S650 := ⟨hT650, aw_sm_rf⟩
                      have ci656 : ar_CI (ar_mf (S650.2.2.1 23)) ((S650.1 50).toInt).toNat (S650.1 46).toInt ((S650.1 51).toInt - 20) (S650.1 46).toInt 1 := by
                        rw [(fc650.2 23 (by decide)).1, (fc650.1 46 (by decide)).1]
                        exact (ar_CI_pop ci241 hw650 (by rw [qb648]; decide) r5650 (by rw [r6650]; omega)).1
                      have c659 : (S650.1 46).toInt = (S558.1 46).toInt := (congrArg Int32.toInt (fc650.1 46 (by decide)).1).trans rfl
                      have b660 : 0 ≤ (S650.1 46).toInt ∧ (S650.1 46).toInt ≤ 8 := aw_bd_f hs (hI658).1 (by decide) rfl
                      have b661 : 0 ≤ (S650.1 50).toInt ∧ (S650.1 50).toInt ≤ 63 := aw_bd_f hs (hI658).1 (by decide) rfl
                      have b662 : 0 ≤ (S650.1 51).toInt ∧ (S650.1 51).toInt ≤ 48 := aw_bd_f hs (hI658).1 (by decide) rfl
                      have c663 : (S650.1 30).toInt = (S558.1 30).toInt := (congrArg Int32.toInt (fc650.1 30 (by decide)).1).trans rfl
                      have b664 : 0 ≤ (S650.1 30).toInt ∧ (S650.1 30).toInt ≤ 1001 := aw_bd_f hs (hI658).1 (by decide) rfl
                      have cb665 := ar_CI_b ci656 (by omega)
                      show aw_W _ _ _ _ 281 lv559 [.int b650] _ _
                      refine aw_z (tgt := 241) aj_d249 rfl rfl (fun q666 => ?_) (fun q666 => ?_)
                      · have q666 : (1 : Int) ≠ (0 : Int) := aw_t_ne (a := (1 : Int)) (b := (0 : Int)) hb650 rfl q666
                        have c667 : (S650.1 26).toInt = (S558.1 26).toInt := (congrArg Int32.toInt (fc650.1 26 (by decide)).1).trans rfl
                        have b668 : 0 ≤ (S650.1 26).toInt ∧ (S650.1 26).toInt ≤ 5 := aw_bd_f hs (hI658).1 (by decide) rfl
                        have c669 : (S650.1 29).toInt = (S558.1 29).toInt := (congrArg Int32.toInt (fc650.1 29 (by decide)).1).trans rfl
                        exact ihL241_556 S650 lv559 (x560) hlv559_0 hlv559_1 ⟨(hI658).1, hG650⟩ fr657 (by first | omega | decide) ci656 (show _ ≤ ((S650.1 30)).toInt by omega) (show _ ≤ ((S650.1 30)).toInt by omega) (show ((S650.1 26)).toInt = 3 ∧ (((S650.1 29)).toInt = 42 ∨ ((S650.1 29)).toInt = 43 ∨ ((S650.1 29)).toInt = 45) by omega) (show (((S650.1 50)).toInt).toNat < _ by omega)
                      · have q666 : (1 : Int) = (0 : Int) := aw_t_ne (a := (1 : Int)) (b := (0 : Int)) hb650 rfl q666
                        exfalso
                        omega
                · skip
                  have pb648 : ar_hd (¬ (1 ≤ (S558.1 50).toInt ∧ (S558.2.2.1 23 ((S558.1 50).toInt - 1).toNat).toInt = (45 : Int))) := ar_mk pb648
                  show aw_W _ _ _ _ 274 lv559 [.int b648] _ _
                  refine aw_z (tgt := 286) aj_d249 rfl rfl (fun q670 => ?_) (fun q670 => ?_)
                  · have q670 : (0 : Int) = (0 : Int) := aw_t_eq (a := (0 : Int)) (b := (0 : Int)) hb648 rfl q670
                    refine aw_l2 aj_d249 rfl rfl hlv559_0 ?_
                    refine aw_g hU.1 aj_d249 rfl rfl (by decide) (v := .ref 140) rfl ?_
                    refine aw_l2 aj_d249 rfl rfl hlv559_0 ?_
                    refine aw_g hU.1 aj_d249 rfl rfl (by decide) (v := .int (S558.1 50)) rfl ?_
                    refine aw_l2 aj_d249 rfl rfl hlv559_0 ?_
                    refine aw_g hU.1 aj_d249 rfl rfl (by decide) (v := .int (S558.1 29)) rfl ?_
                    refine aw_st (k := 23) hU.1 aj_d249 (Or.inl ⟨rfl, rfl⟩) rfl (by decide) (by decide) rfl (a := (S558.1 50).toInt) rfl (by omega) (by omega) ?_
                    have hI671 := aw_I_a (aw_UV hU aw_Gs_sm) (k := 23) (j := ((S558.1 50).toInt).toNat) (v := aj_nar 0 (S558.1 29)) hI563 (by decide) (by decide) (by decide) rfl (by decide) (by decide) rfl (aw_full _)
                    have fr672 := aw_fr_a (k := 23) (j := ((S558.1 50).toInt).toNat) (v := aj_nar 0 (S558.1 29)) (by decide) fr562
                    refine aw_l2 aj_d249 rfl rfl hlv559_0 ?_
                    refine aw_g hU.1 aj_d249 rfl rfl (by decide) (v := .ref 141) rfl ?_
                    refine aw_l2 aj_d249 rfl rfl hlv559_0 ?_
                    refine aw_g hU.1 aj_d249 rfl rfl (by decide) (v := .int (S558.1 50)) rfl ?_
                    refine aw_l2 aj_d249 rfl rfl hlv559_0 ?_
                    have b673 : 0 ≤ (S558.1 27).toInt ∧ (S558.1 27).toInt ≤ 4000 := aw_bd_f hs (hI563).1 (by decide) rfl
                    refine aw_g hU.1 aj_d249 rfl rfl (by decide) (v := .int (S558.1 27)) rfl ?_
                    refine aw_st (k := 24) hU.1 aj_d249 (Or.inl ⟨rfl, rfl⟩) rfl (by decide) (by decide) rfl (a := (S558.1 50).toInt) rfl (by omega) (by omega) ?_
                    have hI674 := aw_I_a (aw_UV hU aw_Gs_sm) (k := 24) (j := ((S558.1 50).toInt).toNat) (v := aj_nar 0 (S558.1 27)) hI671 (by decide) (by decide) (by decide) rfl (by decide) (by decide) rfl (aw_full _)
                    have fr675 := aw_fr_a (k := 24) (j := ((S558.1 50).toInt).toNat) (v := aj_nar 0 (S558.1 27)) (by decide) fr672
                    refine aw_l2 aj_d249 rfl rfl hlv559_0 ?_
                    refine aw_n aj_d249 rfl rfl ?_
                    refine aw_g hU.1 aj_d249 rfl rfl (by decide) (v := .int (S558.1 50)) rfl ?_
                    refine aw_n aj_d249 rfl rfl ?_
                    refine aw_add aj_d249 rfl (a := (S558.1 50).toInt) (b := (1 : Int)) rfl rfl (by omega) (by omega) (fun x676 ex676 => ?_)
                    refine aw_p hU.1 aj_d249 rfl rfl (by decide) rfl ?_
                    have hI677 := aw_I_f (aw_UV hU aw_Gs_sm) (k := 50) (v := x676) hI674 (by decide) (by decide) rfl (aw_bp (a := x676.toInt) rfl (by omega) (by omega))
                    have fr678 := aw_fr_f (k := 50) (v := x676) (by decide) fr675
                    have ci679 : ar_CI (ar_mf (((aw_wf (aw_wa (aw_wa S558 23 ((S558.1 50).toInt).toNat (aj_nar 0 (S558.1 29))) 24 ((S558.1 50).toInt).toNat (aj_nar 0 (S558.1 27))) 50 x676)).2.2.1 23)) ((((aw_wf (aw_wa (aw_wa S558 23 ((S558.1 50).toInt).toNat (aj_nar 0 (S558.1 29))) 24 ((S558.1 50).toInt).toNat (aj_nar 0 (S558.1 27))) 50 x676)).1 50).toInt).toNat (((aw_wf (aw_wa (aw_wa S558 23 ((S558.1 50).toInt).toNat (aj_nar 0 (S558.1 29))) 24 ((S558.1 50).toInt).toNat (aj_nar 0 (S558.1 27))) 50 x676)).1 46).toInt ((((aw_wf (aw_wa (aw_wa S558 23 ((S558.1 50).toInt).toNat (aj_nar 0 (S558.1 29))) 24 ((S558.1 50).toInt).toNat (aj_nar 0 (S558.1 27))) 50 x676)).1 51).toInt - 20) (((aw_wf (aw_wa (aw_wa S558 23 ((S558.1 50).toInt).toNat (aj_nar 0 (S558.1 29))) 24 ((S558.1 50).toInt).toNat (aj_nar 0 (S558.1 27))) 50 x676)).1 46).toInt 0 := by
                      show ar_CI (ar_mf (upd (S558.2.2.1 23) ((S558.1 50).toInt).toNat ((S558.1 29)))) ((x676).toInt).toNat ((S558.1 46).toInt) ((S558.1 51).toInt - 20) ((S558.1 46).toInt) 0
                      rw [show ((x676).toInt).toNat = ((S558.1 50).toInt).toNat + 1 by omega, ar_mf_upd]
                      have e7 : ((S558.1 50).toInt).toNat - 1 = ((S558.1 50).toInt - 1).toNat := by omega
                      refine ar_CI_op ci241 ?_
                      rw [e7]
                      have n38 : ¬ (1 ≤ ((S558.1 50).toInt).toNat ∧ ((ar_mf (S558.2.2.1 23)) ((S558.1 50).toInt - 1).toNat).toInt = 38) := fun z => (ar_un pb569) ⟨by omega, ar_mp_i38 z.2⟩
                      have n124 : ¬ (1 ≤ ((S558.1 50).toInt).toNat ∧ ((ar_mf (S558.2.2.1 23)) ((S558.1 50).toInt - 1).toNat).toInt = 124) := fun z => (ar_mp_i124 z.2).elim (fun y => (ar_un pb625) ⟨by omega, y⟩) (fun y => (ar_un pb648) ⟨by omega, y⟩)
                      by_cases k9 : ((S558.1 29)).toInt = 42
                      · exact Or.inl ⟨by rw [ar_mp_42 k9]; rfl, n38⟩
                      · exact Or.inr ⟨by rw [ar_mp_124 (by omega)]; rfl, n38, n124⟩
                    refine aw_l2 aj_d249 rfl rfl hlv559_0 ?_
                    refine aw_k hU.1 aj_d249 rfl rfl [] rfl rfl rfl (Nat.le_of_ble_eq_true rfl) (aw_toK hU aw_Gs_G (con := ac_c264a) (by omega) (ar_264a hU.2.1 (aw_SPc hU.2.2 aw_Gs_G) aw_kpc (arc_214b hU) (arc_215 hU)) ⟨(hI677).1, (aw_G_sm hI677.2 hI561.2)⟩ ⟨(aw_g117 hU.2.2), trivial⟩ (aw_gQ_of hU (fun e he => by
                        simp only [List.mem_cons, List.not_mem_nil, or_false] at he
                        rcases he with rfl | rfl
                        · exact ⟨by decide, (show (3 : Int) ≤ ((S558.1 26)).toInt by omega), (show ((S558.1 26)).toInt ≤ (3 : Int) by omega)⟩
                        · exact ⟨by decide, (show (0 : Int) ≤ ((S558.1 29)).toInt by omega), (show ((S558.1 29)).toInt ≤ (62 : Int) by omega)⟩))) ?_
                    rintro r680 S680 ⟨hr680, hJ680, fc680, po680, -⟩
                    have hT680 := hJ680.1
                    replace fc680 := aw_fr_sub (F' := [24, 25, 26, 27, 28, 29, 30, 31, 47]) (A' := []) (by decide) (by decide) fc680
                    rcases ar_bool hU (hI677).1 hT680 hr680 po680 with ⟨b680, rfl, hb680, cf680⟩ | ⟨b680, rfl, hb680, ck680, gq680⟩
                    · skip
                      have cf680 : (S558.1 30).toInt + 0 ≤ (S680.1 30).toInt := cf680
                      have fr681 := aw_fr_tr fr678 (aw_fr_sub (F := [24, 25, 26, 27, 28, 29, 30, 31, 47]) (A := []) (by decide) (by decide) fc680)
                      have hI682 : aw_I s h (aw_sm S680) S680 := ⟨hT680, aw_sm_rf⟩
                      show aw_W _ _ _ _ 326 lv559 [.int b680] _ _
                      refine aw_z (tgt := 18) aj_d249 rfl rfl (fun q683 => ?_) (fun q683 => ?_)
                      · have q683 : (0 : Int) ≠ (0 : Int) := aw_t_ne (a := (0 : Int)) (b := (0 : Int)) hb680 rfl q683
                        exfalso
                        omega
                      · have q683 : (0 : Int) = (0 : Int) := aw_t_ne (a := (0 : Int)) (b := (0 : Int)) hb680 rfl q683
                        refine aw_n aj_d249 rfl rfl ?_
                        refine aw_e aj_d249 rfl rfl ?_
                        have b684 : 0 ≤ (S680.1 30).toInt ∧ (S680.1 30).toInt ≤ 1001 := aw_bd_f hs (hI682).1 (by decide) rfl
                        exact ⟨(hI682).1, fr681, Or.inl ⟨_, rfl, rfl, hJ680.2, (show _ ≤ ((S680.1 30)).toInt by omega)⟩⟩
                    · skip
                      have ck680 : (S558.1 30).toInt + 1 ≤ (S680.1 30).toInt := ck680
                      have fr685 := aw_fr_tr fr678 (aw_fr_sub (F := [24, 25, 26, 27, 28, 29, 30, 31, 47]) (A := []) (by decide) (by decide) fc680)
                      have hI686 : aw_I s h (aw_sm S680) S680 := ⟨hT680, aw_sm_rf⟩
                      have ci687 : ar_CI (ar_mf (S680.2.2.1 23)) ((S680.1 50).toInt).toNat (S680.1 46).toInt ((S680.1 51).toInt - 20) (S680.1 46).toInt 0 := by
                        rw [(fc680.2 23 (by decide)).1, (fc680.1 50 (by decide)).1, (fc680.1 46 (by decide)).1, (fc680.1 51 (by decide)).1]
                        exact ci679
                      have c688 : (S680.1 46).toInt = (S558.1 46).toInt := (congrArg Int32.toInt (fc680.1 46 (by decide)).1).trans rfl
                      have b689 : 0 ≤ (S680.1 46).toInt ∧ (S680.1 46).toInt ≤ 8 := aw_bd_f hs (hI686).1 (by decide) rfl
                      have c690 : (S680.1 50).toInt = x676.toInt := (congrArg Int32.toInt (fc680.1 50 (by decide)).1).trans rfl
                      have b691 : 0 ≤ (S680.1 50).toInt ∧ (S680.1 50).toInt ≤ 63 := aw_bd_f hs (hI686).1 (by decide) rfl
                      have c692 : (S680.1 51).toInt = (S558.1 51).toInt := (congrArg Int32.toInt (fc680.1 51 (by decide)).1).trans rfl
                      have b693 : 0 ≤ (S680.1 51).toInt ∧ (S680.1 51).toInt ≤ 48 := aw_bd_f hs (hI686).1 (by decide) rfl
                      have b694 : 0 ≤ (S680.1 30).toInt ∧ (S680.1 30).toInt ≤ 1001 := aw_bd_f hs (hI686).1 (by decide) rfl
                      have cb695 := ar_CI_b ci687 (by omega)
                      show aw_W _ _ _ _ 326 lv559 [.int b680] _ _
                      refine aw_z (tgt := 18) aj_d249 rfl rfl (fun q696 => ?_) (fun q696 => ?_)
                      · have q696 : (1 : Int) ≠ (0 : Int) := aw_t_ne (a := (1 : Int)) (b := (0 : Int)) hb680 rfl q696
                        refine aw_l0 aj_d249 rfl rfl hlv559_1 ?_
                        refine aw_z (tgt := 331) aj_d249 rfl rfl (fun q697 => ?_) (fun q697 => ?_)
                        · have q697 : (1 : Int) = (0 : Int) := aw_t_eq (a := (1 : Int)) (b := (0 : Int)) (by omega) rfl q697
                          exfalso
                          omega
                        · have q697 : (1 : Int) ≠ (0 : Int) := aw_t_eq (a := (1 : Int)) (b := (0 : Int)) (by omega) rfl q697
                          exact ihL22_20 S680 lv559 hlv559_0 ⟨(hI686).1, hJ680.2⟩ fr685 ci687 (show _ ≤ ((S680.1 30)).toInt by omega) (show (1001 - ((S680.1 30)).toInt).toNat < _ by omega)
                      · have q696 : (1 : Int) = (0 : Int) := aw_t_ne (a := (1 : Int)) (b := (0 : Int)) hb680 rfl q696
                        exfalso
                        omega
                  · have q670 : (0 : Int) ≠ (0 : Int) := aw_t_eq (a := (0 : Int)) (b := (0 : Int)) hb648 rfl q670
                    exfalso
                    omega
theorem ar_q_L128_319 (hU : aw_U tb s h) (hd : 10 ≤ d + 1) (N22 : Nat) (S22 : aj_S) (ihL22_20 : ∀ (S22 : aj_S) (lv23 : aj_V), (aj_lv lv23 0 = some (.ref 117)) → (aw_I s h (aw_G (nm, fl, la, 0, 0, ht)) S22) → (aw_fr [24, 25, 26, 27, 28, 29, 30, 31, 33, 34, 35, 36, 38, 39, 40, 46, 47, 50, 51, 52, 53, 54, 56, 58] [14, 15, 16, 17, 18, 19, 23, 24, 25, 26, 27] S S22) → (ar_CI (ar_mf (S22.2.2.1 23)) ((S22.1 50).toInt).toNat (S22.1 46).toInt ((S22.1 51).toInt - 20) (S22.1 46).toInt 0) → ((S.1 30).toInt + 0 ≤ (S22.1 30).toInt) → (1001 - (S22.1 30).toInt).toNat < N22 → aw_W tb h d aj_m249 22 lv23 [] S22 ((ar_QT s h (nm, fl, la, 0, 0, ht) [24, 25, 26, 27, 28, 29, 30, 31, 33, 34, 35, 36, 38, 39, 40, 46, 47, 50, 51, 52, 53, 54, 56, 58] [14, 15, 16, 17, 18, 19, 23, 24, 25, 26, 27] S (fun _ => True)))) (hm22 : (1001 - (S22.1 30).toInt).toNat < N22 + 1) : ∀ (N : Nat) (S321 : aj_S) (lv322 : aj_V), (aj_lv lv322 0 = some (.ref 117)) → (aw_I s h (aw_G (nm, fl, la, 0, 0, ht)) S321) → (aw_fr [24, 25, 26, 27, 28, 29, 30, 31, 33, 34, 35, 36, 38, 39, 40, 46, 47, 50, 51, 52, 53, 54, 56, 58] [14, 15, 16, 17, 18, 19, 23, 24, 25, 26, 27] S S321) → (ar_CI (ar_mf (S321.2.2.1 23)) ((S321.1 50).toInt).toNat (S321.1 46).toInt ((S321.1 51).toInt - 20) (S321.1 46).toInt 1) → ((S.1 30).toInt + 1 ≤ (S321.1 30).toInt) → ((S22.1 30).toInt + 1 ≤ (S321.1 30).toInt) → (1001 - (S321.1 30).toInt).toNat < N → aw_W tb h d aj_m249 128 lv322 [] S321 ((ar_QT s h (nm, fl, la, 0, 0, ht) [24, 25, 26, 27, 28, 29, 30, 31, 33, 34, 35, 36, 38, 39, 40, 46, 47, 50, 51, 52, 53, 54, 56, 58] [14, 15, 16, 17, 18, 19, 23, 24, 25, 26, 27] S (fun _ => True))) := by
  have hs : aw_sT s := aw_hy_sT hU.2.2
  intro N128
  induction N128 with
  | zero =>
    intro S321 lv322  hlv322_0 hI323 fr324 ci128 ck128 cA128 hm128
    omega
  | succ N128 ihL128_319 =>
    intro S321 lv322  hlv322_0 hI323 fr324 ci128 ck128 cA128 hm128
    have hI325 : aw_I s h (aw_sm S321) S321 := ⟨hI323.1, aw_sm_rf⟩
    have b326 : 0 ≤ (S321.1 46).toInt ∧ (S321.1 46).toInt ≤ 8 := aw_bd_f hs (hI325).1 (by decide) rfl
    have b327 : 0 ≤ (S321.1 50).toInt ∧ (S321.1 50).toInt ≤ 63 := aw_bd_f hs (hI325).1 (by decide) rfl
    have b328 : 0 ≤ (S321.1 51).toInt ∧ (S321.1 51).toInt ≤ 48 := aw_bd_f hs (hI325).1 (by decide) rfl
    have b329 : 0 ≤ (S321.1 30).toInt ∧ (S321.1 30).toInt ≤ 1001 := aw_bd_f hs (hI325).1 (by decide) rfl
    have cb330 := ar_CI_b ci128 (by omega)
    refine aw_l2 aj_d249 rfl rfl hlv322_0 ?_
    refine aw_g hU.1 aj_d249 rfl rfl (by decide) (v := .int (S321.1 46)) rfl ?_
    refine aw_z (tgt := 204) aj_d249 rfl rfl (fun q331 => ?_) (fun q331 => ?_)
    · have q331 : (S321.1 46).toInt ≤ (0 : Int) := aw_t_le (a := (S321.1 46).toInt) (b := (0 : Int)) rfl rfl q331
      exact (ar_q_L204_109 hU hd N22 S22 ihL22_20 hm22) S321 lv322 hlv322_0 ⟨(hI325).1, hI323.2⟩ fr324 ci128 (show _ ≤ ((S321.1 30)).toInt by omega) (show _ ≤ ((S321.1 30)).toInt by omega)
    · have q331 : (S321.1 46).toInt > (0 : Int) := aw_t_le (a := (S321.1 46).toInt) (b := (0 : Int)) rfl rfl q331
      refine aw_l2 aj_d249 rfl rfl hlv322_0 ?_
      refine aw_n aj_d249 rfl rfl ?_
      refine aw_k hU.1 aj_d249 rfl rfl [_] rfl rfl rfl (Nat.le_of_ble_eq_true rfl) (ar_isSign hU (by omega) (b := (41 : Int)) rfl) ?_
      have b475 : 0 ≤ (S321.1 26).toInt ∧ (S321.1 26).toInt ≤ 5 := aw_bd_f hs (hI325).1 (by decide) rfl
      rintro _ S474 ⟨eS474, b473, rfl, kb473⟩
      rw [eS474]
      rcases kb473 with ⟨hb473, pb473, qb473⟩ | ⟨hb473, pb473⟩
      · skip
        have pb473 : ((S321.1 26)).toInt = 3 := pb473
        have qb473 : ((S321.1 29)).toInt = (41 : Int) := qb473
        show aw_W _ _ _ _ 141 lv322 [.int b473] _ _
        refine aw_z (tgt := 204) aj_d249 rfl rfl (fun q476 => ?_) (fun q476 => ?_)
        · have q476 : (1 : Int) = (0 : Int) := aw_t_eq (a := (1 : Int)) (b := (0 : Int)) hb473 rfl q476
          exfalso
          omega
        · have q476 : (1 : Int) ≠ (0 : Int) := aw_t_eq (a := (1 : Int)) (b := (0 : Int)) hb473 rfl q476
          exact (ar_q_L144_476 hU hd N22 S22 ihL22_20 hm22 N128 S321 ihL128_319 hm128) _ S321 lv322 hlv322_0 ⟨(hI325).1, hI323.2⟩ fr324 ci128 (show _ ≤ ((S321.1 30)).toInt by omega) (show _ ≤ ((S321.1 30)).toInt by omega) (show _ ≤ ((S321.1 30)).toInt by omega) (show 1 ≤ ((S321.1 46)).toInt by omega) (show ((S321.1 26)).toInt = 3 ∧ ((S321.1 29)).toInt = 41 by omega) (Nat.lt_succ_self _)
      · skip
        clear pb473
        show aw_W _ _ _ _ 141 lv322 [.int b473] _ _
        refine aw_z (tgt := 204) aj_d249 rfl rfl (fun q556 => ?_) (fun q556 => ?_)
        · have q556 : (0 : Int) = (0 : Int) := aw_t_eq (a := (0 : Int)) (b := (0 : Int)) hb473 rfl q556
          exact (ar_q_L204_109 hU hd N22 S22 ihL22_20 hm22) S321 lv322 hlv322_0 ⟨(hI325).1, hI323.2⟩ fr324 ci128 (show _ ≤ ((S321.1 30)).toInt by omega) (show _ ≤ ((S321.1 30)).toInt by omega)
        · have q556 : (0 : Int) ≠ (0 : Int) := aw_t_eq (a := (0 : Int)) (b := (0 : Int)) hb473 rfl q556
          exfalso
          omega
theorem ar_q_L22_20 (hU : aw_U tb s h) (hd : 10 ≤ d + 1)  : ∀ (N : Nat) (S22 : aj_S) (lv23 : aj_V), (aj_lv lv23 0 = some (.ref 117)) → (aw_I s h (aw_G (nm, fl, la, 0, 0, ht)) S22) → (aw_fr [24, 25, 26, 27, 28, 29, 30, 31, 33, 34, 35, 36, 38, 39, 40, 46, 47, 50, 51, 52, 53, 54, 56, 58] [14, 15, 16, 17, 18, 19, 23, 24, 25, 26, 27] S S22) → (ar_CI (ar_mf (S22.2.2.1 23)) ((S22.1 50).toInt).toNat (S22.1 46).toInt ((S22.1 51).toInt - 20) (S22.1 46).toInt 0) → ((S.1 30).toInt + 0 ≤ (S22.1 30).toInt) → (1001 - (S22.1 30).toInt).toNat < N → aw_W tb h d aj_m249 22 lv23 [] S22 ((ar_QT s h (nm, fl, la, 0, 0, ht) [24, 25, 26, 27, 28, 29, 30, 31, 33, 34, 35, 36, 38, 39, 40, 46, 47, 50, 51, 52, 53, 54, 56, 58] [14, 15, 16, 17, 18, 19, 23, 24, 25, 26, 27] S (fun _ => True))) := by
  have hs : aw_sT s := aw_hy_sT hU.2.2
  intro N22
  induction N22 with
  | zero =>
    intro S22 lv23  hlv23_0 hI24 fr25 ci22 ck22 hm22
    omega
  | succ N22 ihL22_20 =>
    intro S22 lv23  hlv23_0 hI24 fr25 ci22 ck22 hm22
    have hI26 : aw_I s h (aw_sm S22) S22 := ⟨hI24.1, aw_sm_rf⟩
    have b27 : 0 ≤ (S22.1 46).toInt ∧ (S22.1 46).toInt ≤ 8 := aw_bd_f hs (hI26).1 (by decide) rfl
    have b28 : 0 ≤ (S22.1 50).toInt ∧ (S22.1 50).toInt ≤ 63 := aw_bd_f hs (hI26).1 (by decide) rfl
    have b29 : 0 ≤ (S22.1 51).toInt ∧ (S22.1 51).toInt ≤ 48 := aw_bd_f hs (hI26).1 (by decide) rfl
    have b30 : 0 ≤ (S22.1 30).toInt ∧ (S22.1 30).toInt ≤ 1001 := aw_bd_f hs (hI26).1 (by decide) rfl
    have cb31 := ar_CI_b ci22 (by omega)
    refine aw_l2 aj_d249 rfl rfl hlv23_0 ?_
    refine aw_n aj_d249 rfl rfl ?_
    refine aw_k hU.1 aj_d249 rfl rfl [_] rfl rfl rfl (Nat.le_of_ble_eq_true rfl) (ar_isSign hU (by omega) (b := (40 : Int)) rfl) ?_
    have b34 : 0 ≤ (S22.1 26).toInt ∧ (S22.1 26).toInt ≤ 5 := aw_bd_f hs (hI26).1 (by decide) rfl
    rintro _ S33 ⟨eS33, b32, rfl, kb32⟩
    rw [eS33]
    rcases kb32 with ⟨hb32, pb32, qb32⟩ | ⟨hb32, pb32⟩
    · skip
      have pb32 : ((S22.1 26)).toInt = 3 := pb32
      have qb32 : ((S22.1 29)).toInt = (40 : Int) := qb32
      show aw_W _ _ _ _ 28 lv23 [.int b32] _ _
      refine aw_z (tgt := 90) aj_d249 rfl rfl (fun q35 => ?_) (fun q35 => ?_)
      · have q35 : (1 : Int) = (0 : Int) := aw_t_eq (a := (1 : Int)) (b := (0 : Int)) hb32 rfl q35
        exfalso
        omega
      · have q35 : (1 : Int) ≠ (0 : Int) := aw_t_eq (a := (1 : Int)) (b := (0 : Int)) hb32 rfl q35
        refine aw_l2 aj_d249 rfl rfl hlv23_0 ?_
        refine aw_g hU.1 aj_d249 rfl rfl (by decide) (v := .int (S22.1 46)) rfl ?_
        refine aw_n aj_d249 rfl rfl ?_
        refine aw_c (tgt := 50) aj_d249 rfl rfl (fun q36 => ?_) (fun q36 => ?_)
        · have q36 : (S22.1 46).toInt ≠ (8 : Int) := aw_t_ne (a := (S22.1 46).toInt) (b := (8 : Int)) rfl rfl q36
          refine aw_l2 aj_d249 rfl rfl hlv23_0 ?_
          refine aw_n aj_d249 rfl rfl ?_
          refine aw_g hU.1 aj_d249 rfl rfl (by decide) (v := .int (S22.1 46)) rfl ?_
          refine aw_n aj_d249 rfl rfl ?_
          refine aw_add aj_d249 rfl (a := (S22.1 46).toInt) (b := (1 : Int)) rfl rfl (by omega) (by omega) (fun x37 ex37 => ?_)
          refine aw_p hU.1 aj_d249 rfl rfl (by decide) rfl ?_
          have hI38 := aw_I_f (aw_UV hU aw_Gs_sm) (k := 46) (v := x37) hI26 (by decide) (by decide) rfl (aw_bp (a := x37.toInt) rfl (by omega) (by omega))
          have fr39 := aw_fr_f (k := 46) (v := x37) (by decide) fr25
          refine aw_l2 aj_d249 rfl rfl hlv23_0 ?_
          refine aw_g hU.1 aj_d249 rfl rfl (by decide) (v := .ref 140) rfl ?_
          refine aw_l2 aj_d249 rfl rfl hlv23_0 ?_
          refine aw_g hU.1 aj_d249 rfl rfl (by decide) (v := .int (S22.1 50)) rfl ?_
          refine aw_n aj_d249 rfl rfl ?_
          refine aw_st (k := 23) hU.1 aj_d249 (Or.inl ⟨rfl, rfl⟩) rfl (by decide) (by decide) rfl (a := (S22.1 50).toInt) rfl (by omega) (by omega) ?_
          have hI40 := aw_I_a (aw_UV hU aw_Gs_sm) (k := 23) (j := ((S22.1 50).toInt).toNat) (v := aj_nar 0 (Int8.ofInt 40).toInt32) hI38 (by decide) (by decide) (by decide) rfl (by decide) (by decide) rfl (aw_full _)
          have fr41 := aw_fr_a (k := 23) (j := ((S22.1 50).toInt).toNat) (v := aj_nar 0 (Int8.ofInt 40).toInt32) (by decide) fr39
          refine aw_l2 aj_d249 rfl rfl hlv23_0 ?_
          refine aw_n aj_d249 rfl rfl ?_
          refine aw_g hU.1 aj_d249 rfl rfl (by decide) (v := .int (S22.1 50)) rfl ?_
          refine aw_n aj_d249 rfl rfl ?_
          refine aw_add aj_d249 rfl (a := (S22.1 50).toInt) (b := (1 : Int)) rfl rfl (by omega) (by omega) (fun x42 ex42 => ?_)
          refine aw_p hU.1 aj_d249 rfl rfl (by decide) rfl ?_
          have hI43 := aw_I_f (aw_UV hU aw_Gs_sm) (k := 50) (v := x42) hI40 (by decide) (by decide) rfl (aw_bp (a := x42.toInt) rfl (by omega) (by omega))
          have fr44 := aw_fr_f (k := 50) (v := x42) (by decide) fr41
          have ci45 : ar_CI (ar_mf (((aw_wf (aw_wa (aw_wf S22 46 x37) 23 ((S22.1 50).toInt).toNat (aj_nar 0 (Int8.ofInt 40).toInt32)) 50 x42)).2.2.1 23)) ((((aw_wf (aw_wa (aw_wf S22 46 x37) 23 ((S22.1 50).toInt).toNat (aj_nar 0 (Int8.ofInt 40).toInt32)) 50 x42)).1 50).toInt).toNat (((aw_wf (aw_wa (aw_wf S22 46 x37) 23 ((S22.1 50).toInt).toNat (aj_nar 0 (Int8.ofInt 40).toInt32)) 50 x42)).1 46).toInt ((((aw_wf (aw_wa (aw_wf S22 46 x37) 23 ((S22.1 50).toInt).toNat (aj_nar 0 (Int8.ofInt 40).toInt32)) 50 x42)).1 51).toInt - 20) (((aw_wf (aw_wa (aw_wf S22 46 x37) 23 ((S22.1 50).toInt).toNat (aj_nar 0 (Int8.ofInt 40).toInt32)) 50 x42)).1 46).toInt 0 := by
            show ar_CI (ar_mf (upd (S22.2.2.1 23) ((S22.1 50).toInt).toNat (Int8.ofInt 40).toInt32)) ((x42).toInt).toNat ((x37).toInt) ((S22.1 51).toInt - 20) ((x37).toInt) 0
            rw [show ((x42).toInt).toNat = ((S22.1 50).toInt).toNat + 1 by omega, ar_mf_upd]
            exact ar_CI_push ci22 (Or.inr (by decide)) (by omega) (by rw [if_pos (by decide)]; omega)
          refine aw_l2 aj_d249 rfl rfl hlv23_0 ?_
          refine aw_k hU.1 aj_d249 rfl rfl [] rfl rfl rfl (Nat.le_of_ble_eq_true rfl) (ar_pass hU (hI43).1 (aw_G_sm hI43.2 hI24.2) (by omega) (show ((S22.1 26)).toInt ≠ 0 by omega) (show ¬ (((S22.1 26)).toInt = 3 ∧ ((S22.1 29)).toInt = 63) by omega) (show ((S22.1 26)).toInt = 4 → ((S22.1 29)).toInt = 3 ∨ 6 ≤ ((S22.1 29)).toInt by omega)) ?_
          rintro _ S46 ⟨hT46, fc46, ⟨b46, rfl, hb46, hG46, fd46, hz46⟩ | ⟨b46, rfl, hb46, hG46, ck46, fd46, cj46⟩⟩
          · skip
            have fr47 := aw_fr_tr fr44 (aw_fr_sub (F := [24, 25, 31]) (A := []) (by decide) (by decide) fd46)
            have hI48 : aw_I s h (aw_sm S46) S46 := ⟨hT46, aw_sm_rf⟩
            show aw_W _ _ _ _ 85 lv23 [.int b46] _ _
            refine aw_z (tgt := 22) aj_d249 rfl rfl (fun q49 => ?_) (fun q49 => ?_)
            · have q49 : (0 : Int) ≠ (0 : Int) := aw_t_ne (a := (0 : Int)) (b := (0 : Int)) hb46 rfl q49
              exfalso
              omega
            · have q49 : (0 : Int) = (0 : Int) := aw_t_ne (a := (0 : Int)) (b := (0 : Int)) hb46 rfl q49
              refine aw_n aj_d249 rfl rfl ?_
              refine aw_e aj_d249 rfl rfl ?_
              have c50 : (S46.1 30).toInt = (S22.1 30).toInt := (congrArg Int32.toInt (fd46.1 30 (by decide)).1).trans rfl
              have b51 : 0 ≤ (S46.1 30).toInt ∧ (S46.1 30).toInt ≤ 1001 := aw_bd_f hs (hI48).1 (by decide) rfl
              exact ⟨(hI48).1, fr47, Or.inl ⟨_, rfl, rfl, hG46, (show _ ≤ ((S46.1 30)).toInt by omega)⟩⟩
          · skip
            have cj46 : (S46.1 30).toInt = ((S22.1 30)).toInt + 1 := cj46
            have fr52 := aw_fr_tr fr44 (aw_fr_sub (F := [26, 27, 28, 29, 30]) (A := []) (by decide) (by decide) fd46)
            have hI53 : aw_I s h (aw_sm S46) S46 := ⟨hT46, aw_sm_rf⟩
            have ci54 : ar_CI (ar_mf (S46.2.2.1 23)) ((S46.1 50).toInt).toNat (S46.1 46).toInt ((S46.1 51).toInt - 20) (S46.1 46).toInt 0 := by
              rw [(fd46.2 23 (by decide)).1, (fd46.1 50 (by decide)).1, (fd46.1 46 (by decide)).1, (fd46.1 51 (by decide)).1]
              exact ci45
            have c55 : (S46.1 46).toInt = x37.toInt := (congrArg Int32.toInt (fd46.1 46 (by decide)).1).trans rfl
            have b56 : 0 ≤ (S46.1 46).toInt ∧ (S46.1 46).toInt ≤ 8 := aw_bd_f hs (hI53).1 (by decide) rfl
            have c57 : (S46.1 50).toInt = x42.toInt := (congrArg Int32.toInt (fd46.1 50 (by decide)).1).trans rfl
            have b58 : 0 ≤ (S46.1 50).toInt ∧ (S46.1 50).toInt ≤ 63 := aw_bd_f hs (hI53).1 (by decide) rfl
            have c59 : (S46.1 51).toInt = (S22.1 51).toInt := (congrArg Int32.toInt (fd46.1 51 (by decide)).1).trans rfl
            have b60 : 0 ≤ (S46.1 51).toInt ∧ (S46.1 51).toInt ≤ 48 := aw_bd_f hs (hI53).1 (by decide) rfl
            have b61 : 0 ≤ (S46.1 30).toInt ∧ (S46.1 30).toInt ≤ 1001 := aw_bd_f hs (hI53).1 (by decide) rfl
            have cb62 := ar_CI_b ci54 (by omega)
            show aw_W _ _ _ _ 85 lv23 [.int b46] _ _
            refine aw_z (tgt := 22) aj_d249 rfl rfl (fun q63 => ?_) (fun q63 => ?_)
            · have q63 : (1 : Int) ≠ (0 : Int) := aw_t_ne (a := (1 : Int)) (b := (0 : Int)) hb46 rfl q63
              exact ihL22_20 S46 lv23 hlv23_0 ⟨(hI53).1, hG46⟩ fr52 ci54 (show _ ≤ ((S46.1 30)).toInt by omega) (show (1001 - ((S46.1 30)).toInt).toNat < _ by omega)
            · have q63 : (1 : Int) = (0 : Int) := aw_t_ne (a := (1 : Int)) (b := (0 : Int)) hb46 rfl q63
              exfalso
              omega
        · have q36 : (S22.1 46).toInt = (8 : Int) := aw_t_ne (a := (S22.1 46).toInt) (b := (8 : Int)) rfl rfl q36
          refine aw_l2 aj_d249 rfl rfl hlv23_0 ?_
          refine aw_n aj_d249 rfl rfl ?_
          refine aw_l2 aj_d249 rfl rfl hlv23_0 ?_
          have b64 : 0 ≤ (S22.1 27).toInt ∧ (S22.1 27).toInt ≤ 4000 := aw_bd_f hs (hI26).1 (by decide) rfl
          refine aw_g hU.1 aj_d249 rfl rfl (by decide) (v := .int (S22.1 27)) rfl ?_
          refine aw_k hU.1 aj_d249 rfl rfl [_, _] rfl rfl rfl (Nat.le_of_ble_eq_true rfl) (ar_stop hU (hI26).1 (by omega) (a := (2 : Int)) rfl) ?_
          rintro _ S65 ⟨hT65, fc65, rfl, hz65⟩
          have hG65 := aw_G_stop hI24.2 fc65 (by omega)
          have fr66 := aw_fr_tr fr25 (aw_fr_sub (F := [24, 25, 31]) (A := []) (by decide) (by decide) fc65)
          have hI67 : aw_I s h (aw_sm S65) S65 := ⟨hT65, aw_sm_rf⟩
          show aw_W _ _ _ _ 49 lv23 [.int (Int32.ofInt 0)] _ _
          refine aw_e aj_d249 rfl rfl ?_
          have c68 : (S65.1 30).toInt = (S22.1 30).toInt := (congrArg Int32.toInt (fc65.1 30 (by decide)).1).trans rfl
          have b69 : 0 ≤ (S65.1 30).toInt ∧ (S65.1 30).toInt ≤ 1001 := aw_bd_f hs (hI67).1 (by decide) rfl
          exact ⟨(hI67).1, fr66, Or.inl ⟨_, rfl, rfl, hG65, (show _ ≤ ((S65.1 30)).toInt by omega)⟩⟩
    · skip
      clear pb32
      show aw_W _ _ _ _ 28 lv23 [.int b32] _ _
      refine aw_z (tgt := 90) aj_d249 rfl rfl (fun q70 => ?_) (fun q70 => ?_)
      · have q70 : (0 : Int) = (0 : Int) := aw_t_eq (a := (0 : Int)) (b := (0 : Int)) hb32 rfl q70
        refine aw_l2 aj_d249 rfl rfl hlv23_0 ?_
        refine aw_l2 aj_d249 rfl rfl hlv23_0 ?_
        refine aw_g hU.1 aj_d249 rfl rfl (by decide) (v := .int (S22.1 51)) rfl ?_
        refine aw_k hU.1 aj_d249 rfl rfl [_] rfl rfl rfl (Nat.le_of_ble_eq_true rfl) (aw_toK hU aw_Gs_G (con := ac_c250) (by omega) (ar_250 hU.2.1 (aw_SPc hU.2.2 aw_Gs_G) aw_kpc (arc_210 hU aw_Gs_G) (arc_214a hU) (arc_215 hU) (arc_218 hU) (arc_252 hU)) ⟨(hI26).1, hI24.2⟩ ⟨(aw_g117 hU.2.2), (cw_gw (a := (S22.1 51).toInt) rfl (by omega) (by omega)), trivial⟩ (fun e he => nomatch he)) ?_
        rintro r71 S71 ⟨hr71, hJ71, fc71, po71, -⟩
        have hT71 := hJ71.1
        replace fc71 := aw_fr_sub (F' := [24, 25, 26, 27, 28, 29, 30, 31, 33, 34]) (A' := [14, 15, 16, 17, 18, 19]) (by decide) (by decide) fc71
        rcases ar_bool hU (hI26).1 hT71 hr71 po71 with ⟨b71, rfl, hb71, cf71⟩ | ⟨b71, rfl, hb71, ck71, gq71⟩
        · skip
          have cf71 : (S22.1 30).toInt + 0 ≤ (S71.1 30).toInt := cf71
          have fr72 := aw_fr_tr fr25 (aw_fr_sub (F := [24, 25, 26, 27, 28, 29, 30, 31, 33, 34]) (A := [14, 15, 16, 17, 18, 19]) (by decide) (by decide) fc71)
          have hI73 : aw_I s h (aw_sm S71) S71 := ⟨hT71, aw_sm_rf⟩
          show aw_W _ _ _ _ 98 lv23 [.int b71] _ _
          refine aw_z (tgt := 103) aj_d249 rfl rfl (fun q74 => ?_) (fun q74 => ?_)
          · have q74 : (0 : Int) ≠ (0 : Int) := aw_t_ne (a := (0 : Int)) (b := (0 : Int)) hb71 rfl q74
            exfalso
            omega
          · have q74 : (0 : Int) = (0 : Int) := aw_t_ne (a := (0 : Int)) (b := (0 : Int)) hb71 rfl q74
            refine aw_n aj_d249 rfl rfl ?_
            refine aw_e aj_d249 rfl rfl ?_
            have b75 : 0 ≤ (S71.1 30).toInt ∧ (S71.1 30).toInt ≤ 1001 := aw_bd_f hs (hI73).1 (by decide) rfl
            exact ⟨(hI73).1, fr72, Or.inl ⟨_, rfl, rfl, hJ71.2, (show _ ≤ ((S71.1 30)).toInt by omega)⟩⟩
        · skip
          have ck71 : (S22.1 30).toInt + 1 ≤ (S71.1 30).toInt := ck71
          have fr76 := aw_fr_tr fr25 (aw_fr_sub (F := [24, 25, 26, 27, 28, 29, 30, 31, 33, 34]) (A := [14, 15, 16, 17, 18, 19]) (by decide) (by decide) fc71)
          have hI77 : aw_I s h (aw_sm S71) S71 := ⟨hT71, aw_sm_rf⟩
          have ci78 : ar_CI (ar_mf (S71.2.2.1 23)) ((S71.1 50).toInt).toNat (S71.1 46).toInt ((S71.1 51).toInt - 20) (S71.1 46).toInt 0 := by
            rw [(fc71.2 23 (by decide)).1, (fc71.1 50 (by decide)).1, (fc71.1 46 (by decide)).1, (fc71.1 51 (by decide)).1]
            exact ci22
          have c79 : (S71.1 46).toInt = (S22.1 46).toInt := (congrArg Int32.toInt (fc71.1 46 (by decide)).1).trans rfl
          have b80 : 0 ≤ (S71.1 46).toInt ∧ (S71.1 46).toInt ≤ 8 := aw_bd_f hs (hI77).1 (by decide) rfl
          have c81 : (S71.1 50).toInt = (S22.1 50).toInt := (congrArg Int32.toInt (fc71.1 50 (by decide)).1).trans rfl
          have b82 : 0 ≤ (S71.1 50).toInt ∧ (S71.1 50).toInt ≤ 63 := aw_bd_f hs (hI77).1 (by decide) rfl
          have c83 : (S71.1 51).toInt = (S22.1 51).toInt := (congrArg Int32.toInt (fc71.1 51 (by decide)).1).trans rfl
          have b84 : 0 ≤ (S71.1 51).toInt ∧ (S71.1 51).toInt ≤ 48 := aw_bd_f hs (hI77).1 (by decide) rfl
          have b85 : 0 ≤ (S71.1 30).toInt ∧ (S71.1 30).toInt ≤ 1001 := aw_bd_f hs (hI77).1 (by decide) rfl
          have cb86 := ar_CI_b ci78 (by omega)
          show aw_W _ _ _ _ 98 lv23 [.int b71] _ _
          refine aw_z (tgt := 103) aj_d249 rfl rfl (fun q87 => ?_) (fun q87 => ?_)
          · have q87 : (1 : Int) ≠ (0 : Int) := aw_t_ne (a := (1 : Int)) (b := (0 : Int)) hb71 rfl q87
            refine aw_l2 aj_d249 rfl rfl hlv23_0 ?_
            refine aw_n aj_d249 rfl rfl ?_
            refine aw_g hU.1 aj_d249 rfl rfl (by decide) (v := .int (S71.1 51)) rfl ?_
            refine aw_n aj_d249 rfl rfl ?_
            refine aw_add aj_d249 rfl (a := (S22.1 51).toInt) (b := (1 : Int)) c83 rfl (by omega) (by omega) (fun x88 ex88 => ?_)
            refine aw_p hU.1 aj_d249 rfl rfl (by decide) rfl ?_
            have hI89 := aw_I_f (aw_UV hU aw_Gs_sm) (k := 51) (v := x88) hI77 (by decide) (by decide) rfl (aw_bp (a := x88.toInt) rfl (by omega) (by omega))
            have fr90 := aw_fr_f (k := 51) (v := x88) (by decide) fr76
            have ci91 : ar_CI (ar_mf (((aw_wf S71 51 x88)).2.2.1 23)) ((((aw_wf S71 51 x88)).1 50).toInt).toNat (((aw_wf S71 51 x88)).1 46).toInt ((((aw_wf S71 51 x88)).1 51).toInt - 20) (((aw_wf S71 51 x88)).1 46).toInt 1 := by
              show ar_CI (ar_mf (S71.2.2.1 23)) ((S71.1 50).toInt).toNat (S71.1 46).toInt ((x88).toInt - 20) (S71.1 46).toInt 1
              obtain ⟨c1, c2, c3, c4, c5⟩ := ci78
              exact ⟨c1, c2, by omega, c4, c5⟩
            refine aw_l2 aj_d249 rfl rfl hlv23_0 ?_
            refine aw_l2 aj_d249 rfl rfl hlv23_0 ?_
            refine aw_g hU.1 aj_d249 rfl rfl (by decide) (v := .int x88) rfl ?_
            refine aw_n aj_d249 rfl rfl ?_
            refine aw_sub aj_d249 rfl (a := x88.toInt) (b := (1 : Int)) rfl rfl (by omega) (by omega) (fun x92 ex92 => ?_)
            refine aw_k hU.1 aj_d249 rfl rfl [_] rfl rfl rfl (Nat.le_of_ble_eq_true rfl) (aw_toK hU aw_Gs_G (con := ac_c253) (by omega) (ar_253 hU.2.1 (aw_SPc hU.2.2 aw_Gs_G) aw_kpc (arc_210 hU aw_Gs_G) (arc_214a hU) (arc_214b hU) (arc_214c hU) (arc_214d hU) (arc_215 hU) (arc_218 hU) (arc_252 hU) (arc_254 hU) (arc_258 hU aw_Gs_G (fun _ hq => hq.2.2.2.2.1)) (arc_260 hU) (arc_261 hU) (arc_271 hU)) ⟨(hI89).1, (aw_G_sm hI89.2 hJ71.2)⟩ ⟨(aw_g117 hU.2.2), (cw_gw (a := x92.toInt) rfl (by omega) (by omega)), trivial⟩ (fun e he => nomatch he)) ?_
            rintro r93 S93 ⟨hr93, hJ93, fc93, po93, -⟩
            have hT93 := hJ93.1
            replace fc93 := aw_fr_sub (F' := [24, 25, 26, 27, 28, 29, 30, 31, 33, 34, 35, 36, 38, 39, 40, 47, 52, 53, 54, 56, 58]) (A' := [14, 15, 16, 17, 18, 19, 25, 26, 27]) (by decide) (by decide) fc93
            rcases ar_bool hU (hI89).1 hT93 hr93 po93 with ⟨b93, rfl, hb93, cf93⟩ | ⟨b93, rfl, hb93, ck93, gq93⟩
            · skip
              have cf93 : (S71.1 30).toInt + 0 ≤ (S93.1 30).toInt := cf93
              have fr94 := aw_fr_tr fr90 (aw_fr_sub (F := [24, 25, 26, 27, 28, 29, 30, 31, 33, 34, 35, 36, 38, 39, 40, 47, 52, 53, 54, 56, 58]) (A := [14, 15, 16, 17, 18, 19, 25, 26, 27]) (by decide) (by decide) fc93)
              have hI95 : aw_I s h (aw_sm S93) S93 := ⟨hT93, aw_sm_rf⟩
              show aw_W _ _ _ _ 123 lv23 [.int b93] _ _
              refine aw_z (tgt := 128) aj_d249 rfl rfl (fun q96 => ?_) (fun q96 => ?_)
              · have q96 : (0 : Int) ≠ (0 : Int) := aw_t_ne (a := (0 : Int)) (b := (0 : Int)) hb93 rfl q96
                exfalso
                omega
              · have q96 : (0 : Int) = (0 : Int) := aw_t_ne (a := (0 : Int)) (b := (0 : Int)) hb93 rfl q96
                refine aw_n aj_d249 rfl rfl ?_
                refine aw_e aj_d249 rfl rfl ?_
                have b97 : 0 ≤ (S93.1 30).toInt ∧ (S93.1 30).toInt ≤ 1001 := aw_bd_f hs (hI95).1 (by decide) rfl
                exact ⟨(hI95).1, fr94, Or.inl ⟨_, rfl, rfl, hJ93.2, (show _ ≤ ((S93.1 30)).toInt by omega)⟩⟩
            · skip
              have ck93 : (S71.1 30).toInt + 0 ≤ (S93.1 30).toInt := ck93
              have fr98 := aw_fr_tr fr90 (aw_fr_sub (F := [24, 25, 26, 27, 28, 29, 30, 31, 33, 34, 35, 36, 38, 39, 40, 47, 52, 53, 54, 56, 58]) (A := [14, 15, 16, 17, 18, 19, 25, 26, 27]) (by decide) (by decide) fc93)
              have hI99 : aw_I s h (aw_sm S93) S93 := ⟨hT93, aw_sm_rf⟩
              have ci100 : ar_CI (ar_mf (S93.2.2.1 23)) ((S93.1 50).toInt).toNat (S93.1 46).toInt ((S93.1 51).toInt - 20) (S93.1 46).toInt 1 := by
                rw [(fc93.2 23 (by decide)).1, (fc93.1 50 (by decide)).1, (fc93.1 46 (by decide)).1, (fc93.1 51 (by decide)).1]
                exact ci91
              have c101 : (S93.1 46).toInt = (S22.1 46).toInt := (congrArg Int32.toInt (fc93.1 46 (by decide)).1).trans c79
              have b102 : 0 ≤ (S93.1 46).toInt ∧ (S93.1 46).toInt ≤ 8 := aw_bd_f hs (hI99).1 (by decide) rfl
              have c103 : (S93.1 50).toInt = (S22.1 50).toInt := (congrArg Int32.toInt (fc93.1 50 (by decide)).1).trans c81
              have b104 : 0 ≤ (S93.1 50).toInt ∧ (S93.1 50).toInt ≤ 63 := aw_bd_f hs (hI99).1 (by decide) rfl
              have c105 : (S93.1 51).toInt = x88.toInt := (congrArg Int32.toInt (fc93.1 51 (by decide)).1).trans rfl
              have b106 : 0 ≤ (S93.1 51).toInt ∧ (S93.1 51).toInt ≤ 48 := aw_bd_f hs (hI99).1 (by decide) rfl
              have b107 : 0 ≤ (S93.1 30).toInt ∧ (S93.1 30).toInt ≤ 1001 := aw_bd_f hs (hI99).1 (by decide) rfl
              have cb108 := ar_CI_b ci100 (by omega)
              show aw_W _ _ _ _ 123 lv23 [.int b93] _ _
              refine aw_z (tgt := 128) aj_d249 rfl rfl (fun q109 => ?_) (fun q109 => ?_)
              · have q109 : (1 : Int) ≠ (0 : Int) := aw_t_ne (a := (1 : Int)) (b := (0 : Int)) hb93 rfl q109
                exact (ar_q_L128_319 hU hd N22 S22 ihL22_20 hm22) _ S93 lv23 hlv23_0 ⟨(hI99).1, hJ93.2⟩ fr98 ci100 (show _ ≤ ((S93.1 30)).toInt by omega) (show _ ≤ ((S93.1 30)).toInt by omega) (Nat.lt_succ_self _)
              · have q109 : (1 : Int) = (0 : Int) := aw_t_ne (a := (1 : Int)) (b := (0 : Int)) hb93 rfl q109
                exfalso
                omega
          · have q87 : (1 : Int) = (0 : Int) := aw_t_ne (a := (1 : Int)) (b := (0 : Int)) hb71 rfl q87
            exfalso
            omega
      · have q70 : (0 : Int) ≠ (0 : Int) := aw_t_eq (a := (0 : Int)) (b := (0 : Int)) hb32 rfl q70
        exfalso
        omega
theorem ar_question (hU : aw_U tb s h) (hT : ak_Ty ak_TN s (aj_mh h S)) (hG : aw_G (nm, fl, la, 0, 0, ht) S) (hd : 10 ≤ d) : aw_K tb h d 249 [.ref 117] S (ar_QT s h (nm, fl, la, 0, 0, ht) [24, 25, 26, 27, 28, 29, 30, 31, 33, 34, 35, 36, 38, 39, 40, 46, 47, 50, 51, 52, 53, 54, 56, 58] [14, 15, 16, 17, 18, 19, 23, 24, 25, 26, 27] S (fun _ => True)) := by
  obtain ⟨d, rfl⟩ : ∃ e, d = e + 1 := ⟨d - 1, by omega⟩
  have hs : aw_sT s := aw_hy_sT hU.2.2
  refine aw_m aj_m249_at rfl (Nat.le_of_ble_eq_true rfl) ?_
  show aw_W _ _ _ _ 0 [(0, .ref 117)] [] _ _
  obtain ⟨lv9, elv9⟩ : ∃ l : aj_V, l = [(0, .ref 117)] := ⟨_, rfl⟩
  rw [← elv9]
  have hlv9_0 : aj_lv lv9 0 = some (.ref 117) := by rw [elv9]; rfl
  have hI10 : aw_I s h (aw_sm S) S := ⟨hT, aw_sm_rf⟩
  have fr11 : aw_fr [24, 25, 26, 27, 28, 29, 30, 31, 33, 34, 35, 36, 38, 39, 40, 46, 47, 50, 51, 52, 53, 54, 56, 58] [14, 15, 16, 17, 18, 19, 23, 24, 25, 26, 27] S S := aw_fr_rf
  refine aw_l2 aj_d249 rfl rfl hlv9_0 ?_
  refine aw_n aj_d249 rfl rfl ?_
  refine aw_p hU.1 aj_d249 rfl rfl (by decide) rfl ?_
  have hI12 := aw_I_f (aw_UV hU aw_Gs_sm) (k := 50) (v := (Int32.ofInt 0)) hI10 (by decide) (by decide) rfl (aw_bp (a := (0 : Int)) rfl (by omega) (by omega))
  have fr13 := aw_fr_f (k := 50) (v := (Int32.ofInt 0)) (by decide) fr11
  refine aw_l2 aj_d249 rfl rfl hlv9_0 ?_
  refine aw_n aj_d249 rfl rfl ?_
  refine aw_p hU.1 aj_d249 rfl rfl (by decide) rfl ?_
  have hI14 := aw_I_f (aw_UV hU aw_Gs_sm) (k := 51) (v := (Int8.ofInt 20).toInt32) hI12 (by decide) (by decide) rfl (aw_bp (a := (20 : Int)) rfl (by omega) (by omega))
  have fr15 := aw_fr_f (k := 51) (v := (Int8.ofInt 20).toInt32) (by decide) fr13
  refine aw_l2 aj_d249 rfl rfl hlv9_0 ?_
  refine aw_n aj_d249 rfl rfl ?_
  refine aw_p hU.1 aj_d249 rfl rfl (by decide) rfl ?_
  have hI16 := aw_I_f (aw_UV hU aw_Gs_sm) (k := 46) (v := (Int32.ofInt 0)) hI14 (by decide) (by decide) rfl (aw_bp (a := (0 : Int)) rfl (by omega) (by omega))
  have fr17 := aw_fr_f (k := 46) (v := (Int32.ofInt 0)) (by decide) fr15
  have ci18 : ar_CI (ar_mf (((aw_wf (aw_wf (aw_wf S 50 (Int32.ofInt 0)) 51 (Int8.ofInt 20).toInt32) 46 (Int32.ofInt 0))).2.2.1 23)) ((((aw_wf (aw_wf (aw_wf S 50 (Int32.ofInt 0)) 51 (Int8.ofInt 20).toInt32) 46 (Int32.ofInt 0))).1 50).toInt).toNat (((aw_wf (aw_wf (aw_wf S 50 (Int32.ofInt 0)) 51 (Int8.ofInt 20).toInt32) 46 (Int32.ofInt 0))).1 46).toInt ((((aw_wf (aw_wf (aw_wf S 50 (Int32.ofInt 0)) 51 (Int8.ofInt 20).toInt32) 46 (Int32.ofInt 0))).1 51).toInt - 20) (((aw_wf (aw_wf (aw_wf S 50 (Int32.ofInt 0)) 51 (Int8.ofInt 20).toInt32) 46 (Int32.ofInt 0))).1 46).toInt 0 := ar_CI_0
  refine aw_n aj_d249 rfl rfl ?_
  refine aw_t0 (j := 1) aj_d249 rfl (by decide) rfl ?_
  obtain ⟨lv19, elv19⟩ : ∃ l, l = aj_set1 lv9 1 (.int (Int32.ofInt 1)) := ⟨_, rfl⟩
  rw [← elv19]
  have hlv19_0 : aj_lv lv19 0 = some (.ref 117) := cw_e1 elv19 hlv9_0 (by decide) (Or.inr rfl)
  have hlv19_1 : aj_lv lv19 1 = some (.int (Int32.ofInt 1)) := by rw [elv19]; exact ak_set1_eq _ _ _
  show aw_W _ _ _ _ 18 lv19 [] _ _
  refine aw_l0 aj_d249 rfl rfl hlv19_1 ?_
  refine aw_z (tgt := 331) aj_d249 rfl rfl (fun q20 => ?_) (fun q20 => ?_)
  · have q20 : (1 : Int) = (0 : Int) := aw_t_eq (a := (1 : Int)) (b := (0 : Int)) rfl rfl q20
    exfalso
    omega
  · have q20 : (1 : Int) ≠ (0 : Int) := aw_t_eq (a := (1 : Int)) (b := (0 : Int)) rfl rfl q20
    have b698 : 0 ≤ (S.1 30).toInt ∧ (S.1 30).toInt ≤ 1001 := aw_bd_f hs (hI10).1 (by decide) rfl
    exact (ar_q_L22_20 hU hd ) _ (aw_wf (aw_wf (aw_wf S 50 (Int32.ofInt 0)) 51 (Int8.ofInt 20).toInt32) 46 (Int32.ofInt 0)) lv19 hlv19_0 ⟨(hI16).1, (aw_G_sm hI16.2 hG)⟩ fr17 ci18 (show _ ≤ ((S.1 30)).toInt by omega) (Nat.lt_succ_self _)
end ARA13
