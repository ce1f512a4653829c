/-! CONDS: compares, reduce (printed by wip/p2/ref/r04.py) -/
section ARA4
variable {tb : aj_T} {s : List Nat} {h : aj_H} {S S' S1 : aj_S} {d n : Nat} {g g' : aw_gh} {F A : List Nat} {G : aj_S → Prop} {nm : Int64 → Prop} {fl : Bool} {la ho hu ht q : Nat}
theorem ar_world (hU : aw_U tb s h) (hT : ak_Ty ak_TN s (aj_mh h S)) (hd : 1 ≤ d) {t u x : Int32} (h1 : 0 ≤ t.toInt ∧ t.toInt ≤ 1) (h2 : 0 ≤ u.toInt ∧ u.toInt ≤ 7) (h3 : 0 ≤ x.toInt ∧ x.toInt ≤ 1023) : aw_K tb h d 241 [.ref 117, .int t, .int u, .int x] S (fun r S' => S' = S ∧ ∃ b : Int32, r = some (.int b)) := by
  obtain ⟨d, rfl⟩ : ∃ e, d = e + 1 := ⟨d - 1, by omega⟩
  have hs : aw_sT s := aw_hy_sT hU.2.2
  refine aw_m aj_m241_at rfl (Nat.le_of_ble_eq_true rfl) ?_
  show aw_W _ _ _ _ 0 [(0, .ref 117), (1, .int t), (2, .int u), (3, .int x)] [] _ _
  obtain ⟨lv1, elv1⟩ : ∃ l : aj_V, l = [(0, .ref 117), (1, .int t), (2, .int u), (3, .int x)] := ⟨_, rfl⟩
  rw [← elv1]
  have hlv1_0 : aj_lv lv1 0 = some (.ref 117) := by rw [elv1]; rfl
  have hlv1_1 : aj_lv lv1 1 = some (.int t) := by rw [elv1]; rfl
  have hlv1_2 : aj_lv lv1 2 = some (.int u) := by rw [elv1]; rfl
  have hlv1_3 : aj_lv lv1 3 = some (.int x) := by rw [elv1]; rfl
  have hI2 : aw_I s h (aw_sm S) S := ⟨hT, aw_sm_rf⟩
  have fr3 : aw_fr [] [] S S := aw_fr_rf
  refine aw_l2 aj_d241 rfl rfl hlv1_0 ?_
  refine aw_g hU.1 aj_d241 rfl rfl (by decide) (v := .ref 123) rfl ?_
  refine aw_l0 aj_d241 rfl rfl hlv1_1 ?_
  refine aw_n aj_d241 rfl rfl ?_
  refine aw_mul aj_d241 rfl (a := t.toInt) (b := (8 : Int)) rfl rfl (by omega) (by omega) (fun x4 ex4 => ?_)
  refine aw_l0 aj_d241 rfl rfl hlv1_2 ?_
  refine aw_add aj_d241 rfl (a := x4.toInt) (b := u.toInt) rfl rfl (by omega) (by omega) (fun x5 ex5 => ?_)
  refine aw_n aj_d241 rfl rfl ?_
  refine aw_mul aj_d241 rfl (a := x5.toInt) (b := (1024 : Int)) rfl rfl (by omega) (by omega) (fun x6 ex6 => ?_)
  refine aw_l0 aj_d241 rfl rfl hlv1_3 ?_
  refine aw_add aj_d241 rfl (a := x6.toInt) (b := x.toInt) rfl rfl (by omega) (by omega) (fun x7 ex7 => ?_)
  refine aw_ld (k := 6) hU.1 aj_d241 (Or.inl ⟨rfl, rfl⟩) rfl (by decide) (by decide) rfl (a := x7.toInt) rfl (by omega) (by omega) (fun x8 ex8 => ?_)
  refine aw_e aj_d241 rfl rfl ?_
  exact ⟨rfl, _, rfl⟩
theorem ar_valued (hU : aw_U tb s h) (hT : ak_Ty ak_TN s (aj_mh h S)) (hd : 2 ≤ d) {t k v x : Int32} (h1 : 0 ≤ t.toInt ∧ t.toInt ≤ 1) (h2 : k.toInt = 1 → 0 ≤ v.toInt ∧ v.toInt ≤ 7) (h3 : 0 ≤ x.toInt ∧ x.toInt ≤ 1023) : aw_K tb h d 240 [.ref 117, .int t, .int k, .int v, .int x] S (fun r S' => S' = S ∧ ∃ b : Int32, r = some (.int b)) := by
  obtain ⟨d, rfl⟩ : ∃ e, d = e + 1 := ⟨d - 1, by omega⟩
  have hs : aw_sT s := aw_hy_sT hU.2.2
  refine aw_m aj_m240_at rfl (Nat.le_of_ble_eq_true rfl) ?_
  show aw_W _ _ _ _ 0 [(0, .ref 117), (1, .int t), (2, .int k), (3, .int v), (4, .int x)] [] _ _
  obtain ⟨lv9, elv9⟩ : ∃ l : aj_V, l = [(0, .ref 117), (1, .int t), (2, .int k), (3, .int v), (4, .int x)] := ⟨_, rfl⟩
  rw [← elv9]
  have hlv9_0 : aj_lv lv9 0 = some (.ref 117) := by rw [elv9]; rfl
  have hlv9_1 : aj_lv lv9 1 = some (.int t) := by rw [elv9]; rfl
  have hlv9_2 : aj_lv lv9 2 = some (.int k) := by rw [elv9]; rfl
  have hlv9_3 : aj_lv lv9 3 = some (.int v) := by rw [elv9]; rfl
  have hlv9_4 : aj_lv lv9 4 = some (.int x) := by rw [elv9]; rfl
  have hI10 : aw_I s h (aw_sm S) S := ⟨hT, aw_sm_rf⟩
  have fr11 : aw_fr [] [] S S := aw_fr_rf
  refine aw_l0 aj_d240 rfl rfl hlv9_2 ?_
  refine aw_n aj_d240 rfl rfl ?_
  refine aw_c (tgt := 16) aj_d240 rfl rfl (fun q12 => ?_) (fun q12 => ?_)
  · have q12 : k.toInt ≠ (1 : Int) := aw_t_ne (a := k.toInt) (b := (1 : Int)) rfl rfl q12
    refine aw_l0 aj_d240 rfl rfl hlv9_3 ?_
    refine aw_e aj_d240 rfl rfl ?_
    exact ⟨rfl, _, rfl⟩
  · have q12 : k.toInt = (1 : Int) := aw_t_ne (a := k.toInt) (b := (1 : Int)) rfl rfl q12
    refine aw_l2 aj_d240 rfl rfl hlv9_0 ?_
    refine aw_l0 aj_d240 rfl rfl hlv9_1 ?_
    refine aw_l0 aj_d240 rfl rfl hlv9_3 ?_
    refine aw_l0 aj_d240 rfl rfl hlv9_4 ?_
    refine aw_k hU.1 aj_d240 rfl rfl [_, _, _] rfl rfl rfl (Nat.le_of_ble_eq_true rfl) (ar_world hU (hI10).1 (by omega) (by omega) (by omega) (by omega)) ?_
    rintro _ zb13 ⟨fb13, b13, rfl⟩
    rw [fb13]
    show aw_W _ _ _ _ 13 lv9 [.int b13] _ _
    refine aw_n aj_d240 rfl rfl ?_
    refine aw_e aj_d240 rfl rfl ?_
    exact ⟨rfl, _, rfl⟩
theorem ar_compares (hU : aw_U tb s h) (hT : ak_Ty ak_TN s (aj_mh h S)) (hG : aw_G (nm, fl, la, 0, 0, ht) S) (hd : 7 ≤ d) (h44 : (S.1 44).toInt ≤ 30) : aw_K tb h d 238 [.ref 117] S (ar_QT s h (nm, fl, la, 0, 0, ht) [24, 25, 26, 27, 28, 29, 30, 31, 33, 34, 35, 36, 38, 39, 40, 44] [20] S (fun S' => (S'.1 44).toInt = (S.1 44).toInt + 1)) := by
  obtain ⟨d, rfl⟩ : ∃ e, d = e + 1 := ⟨d - 1, by omega⟩
  have hs : aw_sT s := aw_hy_sT hU.2.2
  refine aw_m aj_m238_at rfl (Nat.le_of_ble_eq_true rfl) ?_
  show aw_W _ _ _ _ 0 [(0, .ref 117)] [] _ _
  obtain ⟨lv14, elv14⟩ : ∃ l : aj_V, l = [(0, .ref 117)] := ⟨_, rfl⟩
  rw [← elv14]
  have hlv14_0 : aj_lv lv14 0 = some (.ref 117) := by rw [elv14]; rfl
  have hI15 : aw_I s h (aw_sm S) S := ⟨hT, aw_sm_rf⟩
  have fr16 : aw_fr [24, 25, 26, 27, 28, 29, 30, 31, 33, 34, 35, 36, 38, 39, 40, 44] [20] S S := aw_fr_rf
  refine aw_l2 aj_d238 rfl rfl hlv14_0 ?_
  have b17 : 0 ≤ (S.1 26).toInt ∧ (S.1 26).toInt ≤ 5 := aw_bd_f hs (hI15).1 (by decide) rfl
  refine aw_g hU.1 aj_d238 rfl rfl (by decide) (v := .int (S.1 26)) rfl ?_
  refine aw_n aj_d238 rfl rfl ?_
  refine aw_c (tgt := 36) aj_d238 rfl rfl (fun q18 => ?_) (fun q18 => ?_)
  · have q18 : (S.1 26).toInt = (2 : Int) := aw_t_eq (a := (S.1 26).toInt) (b := (2 : Int)) rfl rfl q18
    refine aw_l2 aj_d238 rfl rfl hlv14_0 ?_
    have b20 : 0 ≤ (S.1 30).toInt ∧ (S.1 30).toInt ≤ 1001 := aw_bd_f hs (hI15).1 (by decide) rfl
    refine aw_k hU.1 aj_d238 rfl rfl [] rfl rfl rfl (Nat.le_of_ble_eq_true rfl) (ar_term hU (hI15).1 hG (by omega)) ?_
    rintro _ S19 ⟨hT19, fc19, ⟨b19, rfl, hb19, hG19, ck19⟩ | ⟨b19, rfl, hb19, hG19, ck19, tv19⟩⟩
    · skip
      have ck19 : ((S.1 30)).toInt ≤ (S19.1 30).toInt := ck19
      have fr21 := aw_fr_tr fr16 (aw_fr_sub (F := [24, 25, 26, 27, 28, 29, 30, 31, 33, 34, 35, 36, 38, 39]) (A := []) (by decide) (by decide) fc19)
      have hI22 : aw_I s h (aw_sm S19) S19 := ⟨hT19, aw_sm_rf⟩
      show aw_W _ _ _ _ 40 lv14 [.int b19] _ _
      refine aw_z (tgt := 45) aj_d238 rfl rfl (fun q23 => ?_) (fun q23 => ?_)
      · have q23 : (0 : Int) ≠ (0 : Int) := aw_t_ne (a := (0 : Int)) (b := (0 : Int)) hb19 rfl q23
        exfalso
        omega
      · have q23 : (0 : Int) = (0 : Int) := aw_t_ne (a := (0 : Int)) (b := (0 : Int)) hb19 rfl q23
        refine aw_n aj_d238 rfl rfl ?_
        refine aw_e aj_d238 rfl rfl ?_
        have b24 : 0 ≤ (S19.1 30).toInt ∧ (S19.1 30).toInt ≤ 1001 := aw_bd_f hs (hI22).1 (by decide) rfl
        exact ⟨(hI22).1, fr21, Or.inl ⟨_, rfl, rfl, hG19, (show _ ≤ ((S19.1 30)).toInt by omega)⟩⟩
    · skip
      have ck19 : ((S.1 30)).toInt + 1 ≤ (S19.1 30).toInt := ck19
      have fr25 := aw_fr_tr fr16 (aw_fr_sub (F := [24, 25, 26, 27, 28, 29, 30, 31, 33, 34, 35, 36, 38, 39]) (A := []) (by decide) (by decide) fc19)
      have hI26 : aw_I s h (aw_sm S19) S19 := ⟨hT19, aw_sm_rf⟩
      show aw_W _ _ _ _ 40 lv14 [.int b19] _ _
      refine aw_z (tgt := 45) aj_d238 rfl rfl (fun q27 => ?_) (fun q27 => ?_)
      · have q27 : (1 : Int) ≠ (0 : Int) := aw_t_ne (a := (1 : Int)) (b := (0 : Int)) hb19 rfl q27
        have b28 : 0 ≤ (S.1 32).toInt ∧ (S.1 32).toInt ≤ 1 := aw_bd_f hs (hI15).1 (by decide) rfl
        have c29 : (S19.1 32).toInt = (S.1 32).toInt := (congrArg Int32.toInt (fc19.1 32 (by decide)).1).trans rfl
        have b30 : 0 ≤ (S19.1 32).toInt ∧ (S19.1 32).toInt ≤ 1 := aw_bd_f hs (hI26).1 (by decide) rfl
        have b31 : 0 ≤ (S19.1 38).toInt ∧ (S19.1 38).toInt ≤ 1 := aw_bd_f hs (hI26).1 (by decide) rfl
        have tvA : ((S19.1 32)).toInt ≠ 0 → ((S19.1 38)).toInt = 1 → 0 ≤ ((S19.1 39)).toInt ∧ ((S19.1 39)).toInt ≤ 7 := tv19
        refine aw_l2 aj_d238 rfl rfl hlv14_0 ?_
        refine aw_g hU.1 aj_d238 rfl rfl (by decide) (v := .int (S19.1 38)) rfl ?_
        refine aw_t0 (j := 1) aj_d238 rfl (by decide) rfl ?_
        obtain ⟨lv32, elv32⟩ : ∃ l, l = aj_set1 lv14 1 (.int (S19.1 38)) := ⟨_, rfl⟩
        rw [← elv32]
        have hlv32_0 : aj_lv lv32 0 = some (.ref 117) := cw_e1 elv32 hlv14_0 (by decide) (Or.inr rfl)
        have hlv32_1 : aj_lv lv32 1 = some (.int (S19.1 38)) := by rw [elv32]; exact ak_set1_eq _ _ _
        show aw_W _ _ _ _ 50 lv32 [] _ _
        refine aw_l2 aj_d238 rfl rfl hlv32_0 ?_
        refine aw_g hU.1 aj_d238 rfl rfl (by decide) (v := .int (S19.1 39)) rfl ?_
        refine aw_t0 (j := 2) aj_d238 rfl (by decide) rfl ?_
        obtain ⟨lv33, elv33⟩ : ∃ l, l = aj_set1 lv32 2 (.int (S19.1 39)) := ⟨_, rfl⟩
        rw [← elv33]
        have hlv33_0 : aj_lv lv33 0 = some (.ref 117) := cw_e1 elv33 hlv32_0 (by decide) (Or.inl (by decide))
        have hlv33_1 : aj_lv lv33 1 = some (.int (S19.1 38)) := cw_e1 elv33 hlv32_1 (by decide) (Or.inr rfl)
        have hlv33_2 : aj_lv lv33 2 = some (.int (S19.1 39)) := by rw [elv33]; exact ak_set1_eq _ _ _
        show aw_W _ _ _ _ 55 lv33 [] _ _
        refine aw_l2 aj_d238 rfl rfl hlv33_0 ?_
        have b35 : 0 ≤ (S19.1 30).toInt ∧ (S19.1 30).toInt ≤ 1001 := aw_bd_f hs (hI26).1 (by decide) rfl
        refine aw_k hU.1 aj_d238 rfl rfl [] rfl rfl rfl (Nat.le_of_ble_eq_true rfl) (ar_relation hU (hI26).1 hG19 (by omega)) ?_
        rintro _ S34 ⟨hT34, fc34, ⟨b34, rfl, hb34, hG34, ck34⟩ | ⟨b34, rfl, hb34, hG34, ck34, ex34⟩⟩
        · skip
          have ck34 : ((S19.1 30)).toInt ≤ (S34.1 30).toInt := ck34
          have fr36 := aw_fr_tr fr25 (aw_fr_sub (F := [24, 25, 26, 27, 28, 29, 30, 31, 40]) (A := []) (by decide) (by decide) fc34)
          have hI37 : aw_I s h (aw_sm S34) S34 := ⟨hT34, aw_sm_rf⟩
          show aw_W _ _ _ _ 59 lv33 [.int b34] _ _
          refine aw_z (tgt := 64) aj_d238 rfl rfl (fun q38 => ?_) (fun q38 => ?_)
          · have q38 : (0 : Int) ≠ (0 : Int) := aw_t_ne (a := (0 : Int)) (b := (0 : Int)) hb34 rfl q38
            exfalso
            omega
          · have q38 : (0 : Int) = (0 : Int) := aw_t_ne (a := (0 : Int)) (b := (0 : Int)) hb34 rfl q38
            refine aw_n aj_d238 rfl rfl ?_
            refine aw_e aj_d238 rfl rfl ?_
            have b39 : 0 ≤ (S34.1 30).toInt ∧ (S34.1 30).toInt ≤ 1001 := aw_bd_f hs (hI37).1 (by decide) rfl
            exact ⟨(hI37).1, fr36, Or.inl ⟨_, rfl, rfl, hG34, (show _ ≤ ((S34.1 30)).toInt by omega)⟩⟩
        · skip
          have ck34 : ((S19.1 30)).toInt + 1 ≤ (S34.1 30).toInt := ck34
          have fr40 := aw_fr_tr fr25 (aw_fr_sub (F := [24, 25, 26, 27, 28, 29, 30, 31, 40]) (A := []) (by decide) (by decide) fc34)
          have hI41 : aw_I s h (aw_sm S34) S34 := ⟨hT34, aw_sm_rf⟩
          show aw_W _ _ _ _ 59 lv33 [.int b34] _ _
          refine aw_z (tgt := 64) aj_d238 rfl rfl (fun q42 => ?_) (fun q42 => ?_)
          · have q42 : (1 : Int) ≠ (0 : Int) := aw_t_ne (a := (1 : Int)) (b := (0 : Int)) hb34 rfl q42
            refine aw_l2 aj_d238 rfl rfl hlv33_0 ?_
            refine aw_g hU.1 aj_d238 rfl rfl (by decide) (v := .int (S34.1 40)) rfl ?_
            refine aw_t0 (j := 3) aj_d238 rfl (by decide) rfl ?_
            obtain ⟨lv43, elv43⟩ : ∃ l, l = aj_set1 lv33 3 (.int (S34.1 40)) := ⟨_, rfl⟩
            rw [← elv43]
            have hlv43_0 : aj_lv lv43 0 = some (.ref 117) := cw_e1 elv43 hlv33_0 (by decide) (Or.inl (by decide))
            have hlv43_1 : aj_lv lv43 1 = some (.int (S19.1 38)) := cw_e1 elv43 hlv33_1 (by decide) (Or.inl (by decide))
            have hlv43_2 : aj_lv lv43 2 = some (.int (S19.1 39)) := cw_e1 elv43 hlv33_2 (by decide) (Or.inr rfl)
            have hlv43_3 : aj_lv lv43 3 = some (.int (S34.1 40)) := by rw [elv43]; exact ak_set1_eq _ _ _
            show aw_W _ _ _ _ 69 lv43 [] _ _
            refine aw_l2 aj_d238 rfl rfl hlv43_0 ?_
            have b45 : 0 ≤ (S34.1 30).toInt ∧ (S34.1 30).toInt ≤ 1001 := aw_bd_f hs (hI41).1 (by decide) rfl
            refine aw_k hU.1 aj_d238 rfl rfl [] rfl rfl rfl (Nat.le_of_ble_eq_true rfl) (ar_term hU (hI41).1 hG34 (by omega)) ?_
            rintro _ S44 ⟨hT44, fc44, ⟨b44, rfl, hb44, hG44, ck44⟩ | ⟨b44, rfl, hb44, hG44, ck44, tv44⟩⟩
            · skip
              have ck44 : ((S34.1 30)).toInt ≤ (S44.1 30).toInt := ck44
              have fr46 := aw_fr_tr fr40 (aw_fr_sub (F := [24, 25, 26, 27, 28, 29, 30, 31, 33, 34, 35, 36, 38, 39]) (A := []) (by decide) (by decide) fc44)
              have hI47 : aw_I s h (aw_sm S44) S44 := ⟨hT44, aw_sm_rf⟩
              show aw_W _ _ _ _ 73 lv43 [.int b44] _ _
              refine aw_z (tgt := 78) aj_d238 rfl rfl (fun q48 => ?_) (fun q48 => ?_)
              · have q48 : (0 : Int) ≠ (0 : Int) := aw_t_ne (a := (0 : Int)) (b := (0 : Int)) hb44 rfl q48
                exfalso
                omega
              · have q48 : (0 : Int) = (0 : Int) := aw_t_ne (a := (0 : Int)) (b := (0 : Int)) hb44 rfl q48
                refine aw_n aj_d238 rfl rfl ?_
                refine aw_e aj_d238 rfl rfl ?_
                have b49 : 0 ≤ (S44.1 30).toInt ∧ (S44.1 30).toInt ≤ 1001 := aw_bd_f hs (hI47).1 (by decide) rfl
                exact ⟨(hI47).1, fr46, Or.inl ⟨_, rfl, rfl, hG44, (show _ ≤ ((S44.1 30)).toInt by omega)⟩⟩
            · skip
              have ck44 : ((S34.1 30)).toInt + 1 ≤ (S44.1 30).toInt := ck44
              have fr50 := aw_fr_tr fr40 (aw_fr_sub (F := [24, 25, 26, 27, 28, 29, 30, 31, 33, 34, 35, 36, 38, 39]) (A := []) (by decide) (by decide) fc44)
              have hI51 : aw_I s h (aw_sm S44) S44 := ⟨hT44, aw_sm_rf⟩
              show aw_W _ _ _ _ 73 lv43 [.int b44] _ _
              refine aw_z (tgt := 78) aj_d238 rfl rfl (fun q52 => ?_) (fun q52 => ?_)
              · have q52 : (1 : Int) ≠ (0 : Int) := aw_t_ne (a := (1 : Int)) (b := (0 : Int)) hb44 rfl q52
                have c53 : (S34.1 32).toInt = (S.1 32).toInt := (congrArg Int32.toInt (fc34.1 32 (by decide)).1).trans c29
                have b54 : 0 ≤ (S34.1 32).toInt ∧ (S34.1 32).toInt ≤ 1 := aw_bd_f hs (hI41).1 (by decide) rfl
                have c55 : (S44.1 32).toInt = (S.1 32).toInt := (congrArg Int32.toInt (fc44.1 32 (by decide)).1).trans c53
                have b56 : 0 ≤ (S44.1 32).toInt ∧ (S44.1 32).toInt ≤ 1 := aw_bd_f hs (hI51).1 (by decide) rfl
                have b57 : 0 ≤ (S44.1 38).toInt ∧ (S44.1 38).toInt ≤ 1 := aw_bd_f hs (hI51).1 (by decide) rfl
                have tvB : ((S44.1 32)).toInt ≠ 0 → ((S44.1 38)).toInt = 1 → 0 ≤ ((S44.1 39)).toInt ∧ ((S44.1 39)).toInt ≤ 7 := tv44
                refine aw_n aj_d238 rfl rfl ?_
                refine aw_t0 (j := 4) aj_d238 rfl (by decide) rfl ?_
                obtain ⟨lv58, elv58⟩ : ∃ l, l = aj_set1 lv43 4 (.int (Int32.ofInt 0)) := ⟨_, rfl⟩
                rw [← elv58]
                have hlv58_0 : aj_lv lv58 0 = some (.ref 117) := cw_e1 elv58 hlv43_0 (by decide) (Or.inl (by decide))
                have hlv58_1 : aj_lv lv58 1 = some (.int (S19.1 38)) := cw_e1 elv58 hlv43_1 (by decide) (Or.inl (by decide))
                have hlv58_2 : aj_lv lv58 2 = some (.int (S19.1 39)) := cw_e1 elv58 hlv43_2 (by decide) (Or.inl (by decide))
                have hlv58_3 : aj_lv lv58 3 = some (.int (S34.1 40)) := cw_e1 elv58 hlv43_3 (by decide) (Or.inr rfl)
                have hlv58_4 : aj_lv lv58 4 = some (.int (Int32.ofInt 0)) := by rw [elv58]; exact ak_set1_eq _ _ _
                show aw_W _ _ _ _ 81 lv58 [] _ _
                have L81_58 : ∀ (N : Nat) (S60 : aj_S) (lv61 : aj_V) (x62 : Int32), (aj_lv lv61 0 = some (.ref 117)) → (aj_lv lv61 1 = some (.int (S19.1 38))) → (aj_lv lv61 2 = some (.int (S19.1 39))) → (aj_lv lv61 3 = some (.int (S34.1 40))) → (aj_lv lv61 4 = some (.int x62)) → (aw_I s h (aw_sm S44) S60) → (aw_fr [24, 25, 26, 27, 28, 29, 30, 31, 33, 34, 35, 36, 38, 39, 40, 44] [20] S S60) → (aw_fr [] [20] S44 S60) → (0 ≤ x62.toInt ∧ x62.toInt ≤ 1024) → (1024 - x62.toInt).toNat < N → aw_W tb h d aj_m238 81 lv61 [] S60 ((ar_QT s h (nm, fl, la, 0, 0, ht) [24, 25, 26, 27, 28, 29, 30, 31, 33, 34, 35, 36, 38, 39, 40, 44] [20] S (fun S' => (S'.1 44).toInt = (S.1 44).toInt + 1))) := by
                  intro N
                  induction N with
                  | zero =>
                    intro S60 lv61 x62 hlv61_0 hlv61_1 hlv61_2 hlv61_3 hlv61_4 hI63 fr64 fl65 bx62 hm
                    omega
                  | succ N ihL81_58 =>
                    intro S60 lv61 x62 hlv61_0 hlv61_1 hlv61_2 hlv61_3 hlv61_4 hI63 fr64 fl65 bx62 hm
                    refine aw_l2 aj_d238 rfl rfl hlv61_0 ?_
                    have c66 : (S60.1 32).toInt = (S.1 32).toInt := (congrArg Int32.toInt (fl65.1 32 (by decide)).1).trans c55
                    have b67 : 0 ≤ (S60.1 32).toInt ∧ (S60.1 32).toInt ≤ 1 := aw_bd_f hs (hI63).1 (by decide) rfl
                    refine aw_g hU.1 aj_d238 rfl rfl (by decide) (v := .int (S60.1 32)) rfl ?_
                    refine aw_z (tgt := 158) aj_d238 rfl rfl (fun q68 => ?_) (fun q68 => ?_)
                    · have q68 : (S.1 32).toInt = (0 : Int) := aw_t_eq (a := (S.1 32).toInt) (b := (0 : Int)) c66 rfl q68
                      refine aw_l2 aj_d238 rfl rfl hlv61_0 ?_
                      refine aw_n aj_d238 rfl rfl ?_
                      have b69 : 0 ≤ (S.1 44).toInt ∧ (S.1 44).toInt ≤ 31 := aw_bd_f hs (hI15).1 (by decide) rfl
                      have c70 : (S19.1 44).toInt = (S.1 44).toInt := (congrArg Int32.toInt (fc19.1 44 (by decide)).1).trans rfl
                      have b71 : 0 ≤ (S19.1 44).toInt ∧ (S19.1 44).toInt ≤ 31 := aw_bd_f hs (hI26).1 (by decide) rfl
                      have c72 : (S34.1 44).toInt = (S.1 44).toInt := (congrArg Int32.toInt (fc34.1 44 (by decide)).1).trans c70
                      have b73 : 0 ≤ (S34.1 44).toInt ∧ (S34.1 44).toInt ≤ 31 := aw_bd_f hs (hI41).1 (by decide) rfl
                      have c74 : (S44.1 44).toInt = (S.1 44).toInt := (congrArg Int32.toInt (fc44.1 44 (by decide)).1).trans c72
                      have b75 : 0 ≤ (S44.1 44).toInt ∧ (S44.1 44).toInt ≤ 31 := aw_bd_f hs (hI51).1 (by decide) rfl
                      have c76 : (S60.1 44).toInt = (S.1 44).toInt := (congrArg Int32.toInt (fl65.1 44 (by decide)).1).trans c74
                      have b77 : 0 ≤ (S60.1 44).toInt ∧ (S60.1 44).toInt ≤ 31 := aw_bd_f hs (hI63).1 (by decide) rfl
                      refine aw_g hU.1 aj_d238 rfl rfl (by decide) (v := .int (S60.1 44)) rfl ?_
                      refine aw_n aj_d238 rfl rfl ?_
                      refine aw_add aj_d238 rfl (a := (S.1 44).toInt) (b := (1 : Int)) c76 rfl (by omega) (by omega) (fun x78 ex78 => ?_)
                      refine aw_p hU.1 aj_d238 rfl rfl (by decide) rfl ?_
                      have hI79 := aw_I_f (aw_UV hU aw_Gs_sm) (k := 44) (v := x78) hI63 (by decide) (by decide) rfl (aw_bp (a := x78.toInt) rfl (by omega) (by omega))
                      have fr80 := aw_fr_f (k := 44) (v := x78) (by decide) fr64
                      refine aw_n aj_d238 rfl rfl ?_
                      refine aw_e aj_d238 rfl rfl ?_
                      have b81 : 0 ≤ (S44.1 30).toInt ∧ (S44.1 30).toInt ≤ 1001 := aw_bd_f hs (hI51).1 (by decide) rfl
                      have c82 : (S60.1 30).toInt = (S44.1 30).toInt := (congrArg Int32.toInt (fl65.1 30 (by decide)).1).trans rfl
                      have b83 : 0 ≤ (S60.1 30).toInt ∧ (S60.1 30).toInt ≤ 1001 := aw_bd_f hs (hI63).1 (by decide) rfl
                      exact ⟨(hI79).1, fr80, Or.inr ⟨_, rfl, rfl, (aw_G_sm hI79.2 hG44), (show _ + 1 ≤ ((S60.1 30)).toInt by omega), (show (x78).toInt = _ by omega)⟩⟩
                    · have q68 : (S.1 32).toInt ≠ (0 : Int) := aw_t_eq (a := (S.1 32).toInt) (b := (0 : Int)) c66 rfl q68
                      refine aw_l0 aj_d238 rfl rfl hlv61_4 ?_
                      refine aw_l2 aj_d238 rfl rfl hlv61_0 ?_
                      refine aw_g hU.1 aj_d238 rfl rfl (by decide) (v := .ref 122) rfl ?_
                      refine aw_l2 aj_d238 rfl rfl hlv61_0 ?_
                      have b84 : 0 ≤ (S.1 37).toInt ∧ (S.1 37).toInt ≤ 1 := aw_bd_f hs (hI15).1 (by decide) rfl
                      have c85 : (S19.1 37).toInt = (S.1 37).toInt := (congrArg Int32.toInt (fc19.1 37 (by decide)).1).trans rfl
                      have b86 : 0 ≤ (S19.1 37).toInt ∧ (S19.1 37).toInt ≤ 1 := aw_bd_f hs (hI26).1 (by decide) rfl
                      have c87 : (S34.1 37).toInt = (S.1 37).toInt := (congrArg Int32.toInt (fc34.1 37 (by decide)).1).trans c85
                      have b88 : 0 ≤ (S34.1 37).toInt ∧ (S34.1 37).toInt ≤ 1 := aw_bd_f hs (hI41).1 (by decide) rfl
                      have c89 : (S44.1 37).toInt = (S.1 37).toInt := (congrArg Int32.toInt (fc44.1 37 (by decide)).1).trans c87
                      have b90 : 0 ≤ (S44.1 37).toInt ∧ (S44.1 37).toInt ≤ 1 := aw_bd_f hs (hI51).1 (by decide) rfl
                      have c91 : (S60.1 37).toInt = (S.1 37).toInt := (congrArg Int32.toInt (fl65.1 37 (by decide)).1).trans c89
                      have b92 : 0 ≤ (S60.1 37).toInt ∧ (S60.1 37).toInt ≤ 1 := aw_bd_f hs (hI63).1 (by decide) rfl
                      refine aw_g hU.1 aj_d238 rfl rfl (by decide) (v := .int (S60.1 37)) rfl ?_
                      refine aw_ld (k := 5) hU.1 aj_d238 (Or.inl ⟨rfl, rfl⟩) rfl (by decide) (by decide) rfl (a := (S.1 37).toInt) c91 (by omega) (by omega) (fun x93 ex93 => ?_)
                      have bx93 : 0 ≤ x93.toInt ∧ x93.toInt ≤ 1024 := by
                        rw [ex93]
                        exact aw_bd_a hs (hI63).1 (k := 5) (by decide) (by decide) rfl (by decide) rfl (by omega)
                      refine aw_c (tgt := 158) aj_d238 rfl rfl (fun q94 => ?_) (fun q94 => ?_)
                      · have q94 : x62.toInt ≥ x93.toInt := aw_t_ge (a := x62.toInt) (b := x93.toInt) rfl rfl q94
                        refine aw_l2 aj_d238 rfl rfl hlv61_0 ?_
                        refine aw_n aj_d238 rfl rfl ?_
                        have b95 : 0 ≤ (S.1 44).toInt ∧ (S.1 44).toInt ≤ 31 := aw_bd_f hs (hI15).1 (by decide) rfl
                        have c96 : (S19.1 44).toInt = (S.1 44).toInt := (congrArg Int32.toInt (fc19.1 44 (by decide)).1).trans rfl
                        have b97 : 0 ≤ (S19.1 44).toInt ∧ (S19.1 44).toInt ≤ 31 := aw_bd_f hs (hI26).1 (by decide) rfl
                        have c98 : (S34.1 44).toInt = (S.1 44).toInt := (congrArg Int32.toInt (fc34.1 44 (by decide)).1).trans c96
                        have b99 : 0 ≤ (S34.1 44).toInt ∧ (S34.1 44).toInt ≤ 31 := aw_bd_f hs (hI41).1 (by decide) rfl
                        have c100 : (S44.1 44).toInt = (S.1 44).toInt := (congrArg Int32.toInt (fc44.1 44 (by decide)).1).trans c98
                        have b101 : 0 ≤ (S44.1 44).toInt ∧ (S44.1 44).toInt ≤ 31 := aw_bd_f hs (hI51).1 (by decide) rfl
                        have c102 : (S60.1 44).toInt = (S.1 44).toInt := (congrArg Int32.toInt (fl65.1 44 (by decide)).1).trans c100
                        have b103 : 0 ≤ (S60.1 44).toInt ∧ (S60.1 44).toInt ≤ 31 := aw_bd_f hs (hI63).1 (by decide) rfl
                        refine aw_g hU.1 aj_d238 rfl rfl (by decide) (v := .int (S60.1 44)) rfl ?_
                        refine aw_n aj_d238 rfl rfl ?_
                        refine aw_add aj_d238 rfl (a := (S.1 44).toInt) (b := (1 : Int)) c102 rfl (by omega) (by omega) (fun x104 ex104 => ?_)
                        refine aw_p hU.1 aj_d238 rfl rfl (by decide) rfl ?_
                        have hI105 := aw_I_f (aw_UV hU aw_Gs_sm) (k := 44) (v := x104) hI63 (by decide) (by decide) rfl (aw_bp (a := x104.toInt) rfl (by omega) (by omega))
                        have fr106 := aw_fr_f (k := 44) (v := x104) (by decide) fr64
                        refine aw_n aj_d238 rfl rfl ?_
                        refine aw_e aj_d238 rfl rfl ?_
                        have b107 : 0 ≤ (S44.1 30).toInt ∧ (S44.1 30).toInt ≤ 1001 := aw_bd_f hs (hI51).1 (by decide) rfl
                        have c108 : (S60.1 30).toInt = (S44.1 30).toInt := (congrArg Int32.toInt (fl65.1 30 (by decide)).1).trans rfl
                        have b109 : 0 ≤ (S60.1 30).toInt ∧ (S60.1 30).toInt ≤ 1001 := aw_bd_f hs (hI63).1 (by decide) rfl
                        exact ⟨(hI105).1, fr106, Or.inr ⟨_, rfl, rfl, (aw_G_sm hI105.2 hG44), (show _ + 1 ≤ ((S60.1 30)).toInt by omega), (show (x104).toInt = _ by omega)⟩⟩
                      · have q94 : x62.toInt < x93.toInt := aw_t_ge (a := x62.toInt) (b := x93.toInt) rfl rfl q94
                        refine aw_l2 aj_d238 rfl rfl hlv61_0 ?_
                        refine aw_g hU.1 aj_d238 rfl rfl (by decide) (v := .ref 137) rfl ?_
                        refine aw_l2 aj_d238 rfl rfl hlv61_0 ?_
                        have b110 : 0 ≤ (S.1 44).toInt ∧ (S.1 44).toInt ≤ 31 := aw_bd_f hs (hI15).1 (by decide) rfl
                        have c111 : (S19.1 44).toInt = (S.1 44).toInt := (congrArg Int32.toInt (fc19.1 44 (by decide)).1).trans rfl
                        have b112 : 0 ≤ (S19.1 44).toInt ∧ (S19.1 44).toInt ≤ 31 := aw_bd_f hs (hI26).1 (by decide) rfl
                        have c113 : (S34.1 44).toInt = (S.1 44).toInt := (congrArg Int32.toInt (fc34.1 44 (by decide)).1).trans c111
                        have b114 : 0 ≤ (S34.1 44).toInt ∧ (S34.1 44).toInt ≤ 31 := aw_bd_f hs (hI41).1 (by decide) rfl
                        have c115 : (S44.1 44).toInt = (S.1 44).toInt := (congrArg Int32.toInt (fc44.1 44 (by decide)).1).trans c113
                        have b116 : 0 ≤ (S44.1 44).toInt ∧ (S44.1 44).toInt ≤ 31 := aw_bd_f hs (hI51).1 (by decide) rfl
                        have c117 : (S60.1 44).toInt = (S.1 44).toInt := (congrArg Int32.toInt (fl65.1 44 (by decide)).1).trans c115
                        have b118 : 0 ≤ (S60.1 44).toInt ∧ (S60.1 44).toInt ≤ 31 := aw_bd_f hs (hI63).1 (by decide) rfl
                        refine aw_g hU.1 aj_d238 rfl rfl (by decide) (v := .int (S60.1 44)) rfl ?_
                        refine aw_n aj_d238 rfl rfl ?_
                        refine aw_mul aj_d238 rfl (a := (S.1 44).toInt) (b := (32 : Int)) c117 rfl (by omega) (by omega) (fun x119 ex119 => ?_)
                        refine aw_l0 aj_d238 rfl rfl hlv61_4 ?_
                        refine aw_l0 aj_d238 rfl rfl hlv61_3 ?_
                        refine aw_l2 aj_d238 rfl rfl hlv61_0 ?_
                        refine aw_l2 aj_d238 rfl rfl hlv61_0 ?_
                        refine aw_g hU.1 aj_d238 rfl rfl (by decide) (v := .int (S60.1 37)) rfl ?_
                        refine aw_l0 aj_d238 rfl rfl hlv61_1 ?_
                        refine aw_l0 aj_d238 rfl rfl hlv61_2 ?_
                        refine aw_l0 aj_d238 rfl rfl hlv61_4 ?_
                        refine aw_k hU.1 aj_d238 rfl rfl [_, _, _, _] rfl rfl rfl (Nat.le_of_ble_eq_true rfl) (ar_valued hU (hI63).1 (by omega) (k := (S19.1 38)) (v := (S19.1 39)) (x := x62) (by omega) (by intro z; have z : ((S19.1 38)).toInt = 1 := z; show 0 ≤ ((S19.1 39)).toInt ∧ ((S19.1 39)).toInt ≤ 7; have ya := tvA (by omega); have yb := tvB (by omega); first | omega | (have yc := ya (by omega); omega) | (have yc := yb (by omega); omega)) (by omega)) ?_
                        rintro _ zb120 ⟨fb120, b120, rfl⟩
                        rw [fb120]
                        show aw_W _ _ _ _ 128 lv61 [.int b120, .int (S34.1 40), .int x62, .int x119, .ref 137] _ _
                        refine aw_l2 aj_d238 rfl rfl hlv61_0 ?_
                        refine aw_l2 aj_d238 rfl rfl hlv61_0 ?_
                        refine aw_g hU.1 aj_d238 rfl rfl (by decide) (v := .int (S60.1 37)) rfl ?_
                        refine aw_l2 aj_d238 rfl rfl hlv61_0 ?_
                        have c121 : (S60.1 38).toInt = (S44.1 38).toInt := (congrArg Int32.toInt (fl65.1 38 (by decide)).1).trans rfl
                        have b122 : 0 ≤ (S60.1 38).toInt ∧ (S60.1 38).toInt ≤ 1 := aw_bd_f hs (hI63).1 (by decide) rfl
                        refine aw_g hU.1 aj_d238 rfl rfl (by decide) (v := .int (S60.1 38)) rfl ?_
                        refine aw_l2 aj_d238 rfl rfl hlv61_0 ?_
                        have c123 : (S60.1 39).toInt = (S44.1 39).toInt := (congrArg Int32.toInt (fl65.1 39 (by decide)).1).trans rfl
                        refine aw_g hU.1 aj_d238 rfl rfl (by decide) (v := .int (S60.1 39)) rfl ?_
                        refine aw_l0 aj_d238 rfl rfl hlv61_4 ?_
                        refine aw_k hU.1 aj_d238 rfl rfl [_, _, _, _] rfl rfl rfl (Nat.le_of_ble_eq_true rfl) (ar_valued hU (hI63).1 (by omega) (k := (S60.1 38)) (v := (S60.1 39)) (x := x62) (by omega) (by intro z; have z : ((S60.1 38)).toInt = 1 := z; show 0 ≤ ((S60.1 39)).toInt ∧ ((S60.1 39)).toInt ≤ 7; have ya := tvA (by omega); have yb := tvB (by omega); first | omega | (have yc := ya (by omega); omega) | (have yc := yb (by omega); omega)) (by omega)) ?_
                        rintro _ zb124 ⟨fb124, b124, rfl⟩
                        rw [fb124]
                        show aw_W _ _ _ _ 146 lv61 [.int b124, .int b120, .int (S34.1 40), .int x62, .int x119, .ref 137] _ _
                        have b125 : 0 ≤ (S44.1 30).toInt ∧ (S44.1 30).toInt ≤ 1001 := aw_bd_f hs (hI51).1 (by decide) rfl
                        have c126 : (S60.1 30).toInt = (S44.1 30).toInt := (congrArg Int32.toInt (fl65.1 30 (by decide)).1).trans rfl
                        have b127 : 0 ≤ (S60.1 30).toInt ∧ (S60.1 30).toInt ≤ 1001 := aw_bd_f hs (hI63).1 (by decide) rfl
                        refine aw_ks aj_d238 rfl rfl rfl [_, _, _] rfl rfl (Nat.le_of_ble_eq_true rfl) (aw_toK hU aw_Gs_sm (con := ac_c242) (by omega) (ar_242 hU.2.1 (aw_SPc hU.2.2 aw_Gs_sm) aw_kpc) ⟨(hI63).1, aw_sm_rf⟩ ⟨(cw_full _), (cw_full _), (cw_full _), trivial⟩ (fun e he => nomatch he)) ?_
                        rintro r128 S128 ⟨hr128, hJ128, fc128, po128, -⟩
                        have hT128 := hJ128.1
                        replace fc128 := aw_fr_sub (F' := []) (A' := []) (by decide) (by decide) fc128
                        have fr129 := aw_fr_tr fr64 (aw_fr_sub (F := []) (A := []) (by decide) (by decide) fc128)
                        have fl130 := aw_fr_tr fl65 (aw_fr_sub (F := []) (A := []) (by decide) (by decide) fc128)
                        have hI131 : aw_I s h (aw_sm S44) S128 := ⟨hT128, aw_sm_tr hI63.2 (aw_fr_sm (by decide) (by decide) (by decide) (F := []) (A := []) fc128)⟩
                        obtain ⟨b128, rfl, bb128⟩ := cw_rI hr128
                        show aw_W _ _ _ _ 149 lv61 [.int b128, .int x62, .int x119, .ref 137] _ _
                        refine aw_ks aj_d238 rfl rfl rfl [_, _, _, _] rfl rfl (Nat.le_of_ble_eq_true rfl) (ar_put hU (hI131).1 (by omega) (k := 20) (n := 1024) (by decide) (by decide) rfl rfl (a := x119.toInt) (b := x62.toInt) rfl rfl (by omega) (by omega) (by omega) (by decide)) ?_
                        rintro _ S132 ⟨hT132, fc132, rfl, pe132⟩
                        have fr133 := aw_fr_tr fr129 (aw_fr_sub (F := []) (A := [20]) (by decide) (by decide) fc132)
                        have fl134 := aw_fr_tr fl130 (aw_fr_sub (F := []) (A := [20]) (by decide) (by decide) fc132)
                        have hI135 : aw_I s h (aw_sm S44) S132 := ⟨hT132, aw_sm_tr hI131.2 (aw_fr_sm (by decide) (by decide) (by decide) (F := []) (A := [20]) fc132)⟩
                        show aw_W _ _ _ _ 152 lv61 [] _ _
                        refine aw_inc aj_d238 rfl hlv61_4 (a := x62.toInt) rfl (by omega) (by omega) (by decide) (by decide) (fun x136 ex136 => ?_)
                        obtain ⟨lv137, elv137⟩ : ∃ l, l = aj_set1 lv61 4 (.int x136) := ⟨_, rfl⟩
                        rw [← elv137]
                        have hlv137_0 : aj_lv lv137 0 = some (.ref 117) := cw_e1 elv137 hlv61_0 (by decide) (Or.inl (by decide))
                        have hlv137_1 : aj_lv lv137 1 = some (.int (S19.1 38)) := cw_e1 elv137 hlv61_1 (by decide) (Or.inl (by decide))
                        have hlv137_2 : aj_lv lv137 2 = some (.int (S19.1 39)) := cw_e1 elv137 hlv61_2 (by decide) (Or.inl (by decide))
                        have hlv137_3 : aj_lv lv137 3 = some (.int (S34.1 40)) := cw_e1 elv137 hlv61_3 (by decide) (Or.inr rfl)
                        have hlv137_4 : aj_lv lv137 4 = some (.int x136) := by rw [elv137]; exact ak_set1_eq _ _ _
                        show aw_W _ _ _ _ 155 lv137 [] _ _
                        refine aw_n aj_d238 rfl rfl ?_
                        exact ihL81_58 S132 lv137 (x136) hlv137_0 hlv137_1 hlv137_2 hlv137_3 hlv137_4 hI135 fr133 fl134 (by omega) (by first | omega | (simp only [] at *; omega))
                exact L81_58 _ S44 lv58 ((Int32.ofInt 0)) hlv58_0 hlv58_1 hlv58_2 hlv58_3 hlv58_4 hI51 fr50 (aw_fr_rf : aw_fr [] [20] S44 S44) (by first | omega | decide) (Nat.lt_succ_self _)
              · have q52 : (1 : Int) = (0 : Int) := aw_t_ne (a := (1 : Int)) (b := (0 : Int)) hb44 rfl q52
                exfalso
                omega
          · have q42 : (1 : Int) = (0 : Int) := aw_t_ne (a := (1 : Int)) (b := (0 : Int)) hb34 rfl q42
            exfalso
            omega
      · have q27 : (1 : Int) = (0 : Int) := aw_t_ne (a := (1 : Int)) (b := (0 : Int)) hb19 rfl q27
        exfalso
        omega
  · have q18 : (S.1 26).toInt ≠ (2 : Int) := aw_t_eq (a := (S.1 26).toInt) (b := (2 : Int)) rfl rfl q18
    refine aw_l2 aj_d238 rfl rfl hlv14_0 ?_
    refine aw_n aj_d238 rfl rfl ?_
    refine aw_k hU.1 aj_d238 rfl rfl [_] rfl rfl rfl (Nat.le_of_ble_eq_true rfl) (ar_isSign hU (by omega) (b := (45 : Int)) rfl) ?_
    rintro _ S139 ⟨eS139, b138, rfl, kb138⟩
    rw [eS139]
    rcases kb138 with ⟨hb138, pb138, qb138⟩ | ⟨hb138, pb138⟩
    · skip
      have pb138 : ((S.1 26)).toInt = 3 := pb138
      have qb138 : ((S.1 29)).toInt = (45 : Int) := qb138
      show aw_W _ _ _ _ 14 lv14 [.int b138] _ _
      refine aw_z (tgt := 36) aj_d238 rfl rfl (fun q140 => ?_) (fun q140 => ?_)
      · have q140 : (1 : Int) ≠ (0 : Int) := aw_t_ne (a := (1 : Int)) (b := (0 : Int)) hb138 rfl q140
        refine aw_l2 aj_d238 rfl rfl hlv14_0 ?_
        have b142 : 0 ≤ (S.1 30).toInt ∧ (S.1 30).toInt ≤ 1001 := aw_bd_f hs (hI15).1 (by decide) rfl
        refine aw_k hU.1 aj_d238 rfl rfl [] rfl rfl rfl (Nat.le_of_ble_eq_true rfl) (ar_term hU (hI15).1 hG (by omega)) ?_
        rintro _ S141 ⟨hT141, fc141, ⟨b141, rfl, hb141, hG141, ck141⟩ | ⟨b141, rfl, hb141, hG141, ck141, tv141⟩⟩
        · skip
          have ck141 : ((S.1 30)).toInt ≤ (S141.1 30).toInt := ck141
          have fr143 := aw_fr_tr fr16 (aw_fr_sub (F := [24, 25, 26, 27, 28, 29, 30, 31, 33, 34, 35, 36, 38, 39]) (A := []) (by decide) (by decide) fc141)
          have hI144 : aw_I s h (aw_sm S141) S141 := ⟨hT141, aw_sm_rf⟩
          show aw_W _ _ _ _ 40 lv14 [.int b141] _ _
          refine aw_z (tgt := 45) aj_d238 rfl rfl (fun q145 => ?_) (fun q145 => ?_)
          · have q145 : (0 : Int) ≠ (0 : Int) := aw_t_ne (a := (0 : Int)) (b := (0 : Int)) hb141 rfl q145
            exfalso
            omega
          · have q145 : (0 : Int) = (0 : Int) := aw_t_ne (a := (0 : Int)) (b := (0 : Int)) hb141 rfl q145
            refine aw_n aj_d238 rfl rfl ?_
            refine aw_e aj_d238 rfl rfl ?_
            have b146 : 0 ≤ (S141.1 30).toInt ∧ (S141.1 30).toInt ≤ 1001 := aw_bd_f hs (hI144).1 (by decide) rfl
            exact ⟨(hI144).1, fr143, Or.inl ⟨_, rfl, rfl, hG141, (show _ ≤ ((S141.1 30)).toInt by omega)⟩⟩
        · skip
          have ck141 : ((S.1 30)).toInt + 1 ≤ (S141.1 30).toInt := ck141
          have fr147 := aw_fr_tr fr16 (aw_fr_sub (F := [24, 25, 26, 27, 28, 29, 30, 31, 33, 34, 35, 36, 38, 39]) (A := []) (by decide) (by decide) fc141)
          have hI148 : aw_I s h (aw_sm S141) S141 := ⟨hT141, aw_sm_rf⟩
          show aw_W _ _ _ _ 40 lv14 [.int b141] _ _
          refine aw_z (tgt := 45) aj_d238 rfl rfl (fun q149 => ?_) (fun q149 => ?_)
          · have q149 : (1 : Int) ≠ (0 : Int) := aw_t_ne (a := (1 : Int)) (b := (0 : Int)) hb141 rfl q149
            have b150 : 0 ≤ (S.1 32).toInt ∧ (S.1 32).toInt ≤ 1 := aw_bd_f hs (hI15).1 (by decide) rfl
            have c151 : (S141.1 32).toInt = (S.1 32).toInt := (congrArg Int32.toInt (fc141.1 32 (by decide)).1).trans rfl
            have b152 : 0 ≤ (S141.1 32).toInt ∧ (S141.1 32).toInt ≤ 1 := aw_bd_f hs (hI148).1 (by decide) rfl
            have b153 : 0 ≤ (S141.1 38).toInt ∧ (S141.1 38).toInt ≤ 1 := aw_bd_f hs (hI148).1 (by decide) rfl
            have tvA : ((S141.1 32)).toInt ≠ 0 → ((S141.1 38)).toInt = 1 → 0 ≤ ((S141.1 39)).toInt ∧ ((S141.1 39)).toInt ≤ 7 := tv141
            refine aw_l2 aj_d238 rfl rfl hlv14_0 ?_
            refine aw_g hU.1 aj_d238 rfl rfl (by decide) (v := .int (S141.1 38)) rfl ?_
            refine aw_t0 (j := 1) aj_d238 rfl (by decide) rfl ?_
            obtain ⟨lv154, elv154⟩ : ∃ l, l = aj_set1 lv14 1 (.int (S141.1 38)) := ⟨_, rfl⟩
            rw [← elv154]
            have hlv154_0 : aj_lv lv154 0 = some (.ref 117) := cw_e1 elv154 hlv14_0 (by decide) (Or.inr rfl)
            have hlv154_1 : aj_lv lv154 1 = some (.int (S141.1 38)) := by rw [elv154]; exact ak_set1_eq _ _ _
            show aw_W _ _ _ _ 50 lv154 [] _ _
            refine aw_l2 aj_d238 rfl rfl hlv154_0 ?_
            refine aw_g hU.1 aj_d238 rfl rfl (by decide) (v := .int (S141.1 39)) rfl ?_
            refine aw_t0 (j := 2) aj_d238 rfl (by decide) rfl ?_
            obtain ⟨lv155, elv155⟩ : ∃ l, l = aj_set1 lv154 2 (.int (S141.1 39)) := ⟨_, rfl⟩
            rw [← elv155]
            have hlv155_0 : aj_lv lv155 0 = some (.ref 117) := cw_e1 elv155 hlv154_0 (by decide) (Or.inl (by decide))
            have hlv155_1 : aj_lv lv155 1 = some (.int (S141.1 38)) := cw_e1 elv155 hlv154_1 (by decide) (Or.inr rfl)
            have hlv155_2 : aj_lv lv155 2 = some (.int (S141.1 39)) := by rw [elv155]; exact ak_set1_eq _ _ _
            show aw_W _ _ _ _ 55 lv155 [] _ _
            refine aw_l2 aj_d238 rfl rfl hlv155_0 ?_
            have b157 : 0 ≤ (S141.1 30).toInt ∧ (S141.1 30).toInt ≤ 1001 := aw_bd_f hs (hI148).1 (by decide) rfl
            refine aw_k hU.1 aj_d238 rfl rfl [] rfl rfl rfl (Nat.le_of_ble_eq_true rfl) (ar_relation hU (hI148).1 hG141 (by omega)) ?_
            rintro _ S156 ⟨hT156, fc156, ⟨b156, rfl, hb156, hG156, ck156⟩ | ⟨b156, rfl, hb156, hG156, ck156, ex156⟩⟩
            · skip
              have ck156 : ((S141.1 30)).toInt ≤ (S156.1 30).toInt := ck156
              have fr158 := aw_fr_tr fr147 (aw_fr_sub (F := [24, 25, 26, 27, 28, 29, 30, 31, 40]) (A := []) (by decide) (by decide) fc156)
              have hI159 : aw_I s h (aw_sm S156) S156 := ⟨hT156, aw_sm_rf⟩
              show aw_W _ _ _ _ 59 lv155 [.int b156] _ _
              refine aw_z (tgt := 64) aj_d238 rfl rfl (fun q160 => ?_) (fun q160 => ?_)
              · have q160 : (0 : Int) ≠ (0 : Int) := aw_t_ne (a := (0 : Int)) (b := (0 : Int)) hb156 rfl q160
                exfalso
                omega
              · have q160 : (0 : Int) = (0 : Int) := aw_t_ne (a := (0 : Int)) (b := (0 : Int)) hb156 rfl q160
                refine aw_n aj_d238 rfl rfl ?_
                refine aw_e aj_d238 rfl rfl ?_
                have b161 : 0 ≤ (S156.1 30).toInt ∧ (S156.1 30).toInt ≤ 1001 := aw_bd_f hs (hI159).1 (by decide) rfl
                exact ⟨(hI159).1, fr158, Or.inl ⟨_, rfl, rfl, hG156, (show _ ≤ ((S156.1 30)).toInt by omega)⟩⟩
            · skip
              have ck156 : ((S141.1 30)).toInt + 1 ≤ (S156.1 30).toInt := ck156
              have fr162 := aw_fr_tr fr147 (aw_fr_sub (F := [24, 25, 26, 27, 28, 29, 30, 31, 40]) (A := []) (by decide) (by decide) fc156)
              have hI163 : aw_I s h (aw_sm S156) S156 := ⟨hT156, aw_sm_rf⟩
              show aw_W _ _ _ _ 59 lv155 [.int b156] _ _
              refine aw_z (tgt := 64) aj_d238 rfl rfl (fun q164 => ?_) (fun q164 => ?_)
              · have q164 : (1 : Int) ≠ (0 : Int) := aw_t_ne (a := (1 : Int)) (b := (0 : Int)) hb156 rfl q164
                refine aw_l2 aj_d238 rfl rfl hlv155_0 ?_
                refine aw_g hU.1 aj_d238 rfl rfl (by decide) (v := .int (S156.1 40)) rfl ?_
                refine aw_t0 (j := 3) aj_d238 rfl (by decide) rfl ?_
                obtain ⟨lv165, elv165⟩ : ∃ l, l = aj_set1 lv155 3 (.int (S156.1 40)) := ⟨_, rfl⟩
                rw [← elv165]
                have hlv165_0 : aj_lv lv165 0 = some (.ref 117) := cw_e1 elv165 hlv155_0 (by decide) (Or.inl (by decide))
                have hlv165_1 : aj_lv lv165 1 = some (.int (S141.1 38)) := cw_e1 elv165 hlv155_1 (by decide) (Or.inl (by decide))
                have hlv165_2 : aj_lv lv165 2 = some (.int (S141.1 39)) := cw_e1 elv165 hlv155_2 (by decide) (Or.inr rfl)
                have hlv165_3 : aj_lv lv165 3 = some (.int (S156.1 40)) := by rw [elv165]; exact ak_set1_eq _ _ _
                show aw_W _ _ _ _ 69 lv165 [] _ _
                refine aw_l2 aj_d238 rfl rfl hlv165_0 ?_
                have b167 : 0 ≤ (S156.1 30).toInt ∧ (S156.1 30).toInt ≤ 1001 := aw_bd_f hs (hI163).1 (by decide) rfl
                refine aw_k hU.1 aj_d238 rfl rfl [] rfl rfl rfl (Nat.le_of_ble_eq_true rfl) (ar_term hU (hI163).1 hG156 (by omega)) ?_
                rintro _ S166 ⟨hT166, fc166, ⟨b166, rfl, hb166, hG166, ck166⟩ | ⟨b166, rfl, hb166, hG166, ck166, tv166⟩⟩
                · skip
                  have ck166 : ((S156.1 30)).toInt ≤ (S166.1 30).toInt := ck166
                  have fr168 := aw_fr_tr fr162 (aw_fr_sub (F := [24, 25, 26, 27, 28, 29, 30, 31, 33, 34, 35, 36, 38, 39]) (A := []) (by decide) (by decide) fc166)
                  have hI169 : aw_I s h (aw_sm S166) S166 := ⟨hT166, aw_sm_rf⟩
                  show aw_W _ _ _ _ 73 lv165 [.int b166] _ _
                  refine aw_z (tgt := 78) aj_d238 rfl rfl (fun q170 => ?_) (fun q170 => ?_)
                  · have q170 : (0 : Int) ≠ (0 : Int) := aw_t_ne (a := (0 : Int)) (b := (0 : Int)) hb166 rfl q170
                    exfalso
                    omega
                  · have q170 : (0 : Int) = (0 : Int) := aw_t_ne (a := (0 : Int)) (b := (0 : Int)) hb166 rfl q170
                    refine aw_n aj_d238 rfl rfl ?_
                    refine aw_e aj_d238 rfl rfl ?_
                    have b171 : 0 ≤ (S166.1 30).toInt ∧ (S166.1 30).toInt ≤ 1001 := aw_bd_f hs (hI169).1 (by decide) rfl
                    exact ⟨(hI169).1, fr168, Or.inl ⟨_, rfl, rfl, hG166, (show _ ≤ ((S166.1 30)).toInt by omega)⟩⟩
                · skip
                  have ck166 : ((S156.1 30)).toInt + 1 ≤ (S166.1 30).toInt := ck166
                  have fr172 := aw_fr_tr fr162 (aw_fr_sub (F := [24, 25, 26, 27, 28, 29, 30, 31, 33, 34, 35, 36, 38, 39]) (A := []) (by decide) (by decide) fc166)
                  have hI173 : aw_I s h (aw_sm S166) S166 := ⟨hT166, aw_sm_rf⟩
                  show aw_W _ _ _ _ 73 lv165 [.int b166] _ _
                  refine aw_z (tgt := 78) aj_d238 rfl rfl (fun q174 => ?_) (fun q174 => ?_)
                  · have q174 : (1 : Int) ≠ (0 : Int) := aw_t_ne (a := (1 : Int)) (b := (0 : Int)) hb166 rfl q174
                    have c175 : (S156.1 32).toInt = (S.1 32).toInt := (congrArg Int32.toInt (fc156.1 32 (by decide)).1).trans c151
                    have b176 : 0 ≤ (S156.1 32).toInt ∧ (S156.1 32).toInt ≤ 1 := aw_bd_f hs (hI163).1 (by decide) rfl
                    have c177 : (S166.1 32).toInt = (S.1 32).toInt := (congrArg Int32.toInt (fc166.1 32 (by decide)).1).trans c175
                    have b178 : 0 ≤ (S166.1 32).toInt ∧ (S166.1 32).toInt ≤ 1 := aw_bd_f hs (hI173).1 (by decide) rfl
                    have b179 : 0 ≤ (S166.1 38).toInt ∧ (S166.1 38).toInt ≤ 1 := aw_bd_f hs (hI173).1 (by decide) rfl
                    have tvB : ((S166.1 32)).toInt ≠ 0 → ((S166.1 38)).toInt = 1 → 0 ≤ ((S166.1 39)).toInt ∧ ((S166.1 39)).toInt ≤ 7 := tv166
                    refine aw_n aj_d238 rfl rfl ?_
                    refine aw_t0 (j := 4) aj_d238 rfl (by decide) rfl ?_
                    obtain ⟨lv180, elv180⟩ : ∃ l, l = aj_set1 lv165 4 (.int (Int32.ofInt 0)) := ⟨_, rfl⟩
                    rw [← elv180]
                    have hlv180_0 : aj_lv lv180 0 = some (.ref 117) := cw_e1 elv180 hlv165_0 (by decide) (Or.inl (by decide))
                    have hlv180_1 : aj_lv lv180 1 = some (.int (S141.1 38)) := cw_e1 elv180 hlv165_1 (by decide) (Or.inl (by decide))
                    have hlv180_2 : aj_lv lv180 2 = some (.int (S141.1 39)) := cw_e1 elv180 hlv165_2 (by decide) (Or.inl (by decide))
                    have hlv180_3 : aj_lv lv180 3 = some (.int (S156.1 40)) := cw_e1 elv180 hlv165_3 (by decide) (Or.inr rfl)
                    have hlv180_4 : aj_lv lv180 4 = some (.int (Int32.ofInt 0)) := by rw [elv180]; exact ak_set1_eq _ _ _
                    show aw_W _ _ _ _ 81 lv180 [] _ _
                    have L81_180 : ∀ (N : Nat) (S182 : aj_S) (lv183 : aj_V) (x184 : Int32), (aj_lv lv183 0 = some (.ref 117)) → (aj_lv lv183 1 = some (.int (S141.1 38))) → (aj_lv lv183 2 = some (.int (S141.1 39))) → (aj_lv lv183 3 = some (.int (S156.1 40))) → (aj_lv lv183 4 = some (.int x184)) → (aw_I s h (aw_sm S166) S182) → (aw_fr [24, 25, 26, 27, 28, 29, 30, 31, 33, 34, 35, 36, 38, 39, 40, 44] [20] S S182) → (aw_fr [] [20] S166 S182) → (0 ≤ x184.toInt ∧ x184.toInt ≤ 1024) → (1024 - x184.toInt).toNat < N → aw_W tb h d aj_m238 81 lv183 [] S182 ((ar_QT s h (nm, fl, la, 0, 0, ht) [24, 25, 26, 27, 28, 29, 30, 31, 33, 34, 35, 36, 38, 39, 40, 44] [20] S (fun S' => (S'.1 44).toInt = (S.1 44).toInt + 1))) := by
                      intro N
                      induction N with
                      | zero =>
                        intro S182 lv183 x184 hlv183_0 hlv183_1 hlv183_2 hlv183_3 hlv183_4 hI185 fr186 fl187 bx184 hm
                        omega
                      | succ N ihL81_180 =>
                        intro S182 lv183 x184 hlv183_0 hlv183_1 hlv183_2 hlv183_3 hlv183_4 hI185 fr186 fl187 bx184 hm
                        refine aw_l2 aj_d238 rfl rfl hlv183_0 ?_
                        have c188 : (S182.1 32).toInt = (S.1 32).toInt := (congrArg Int32.toInt (fl187.1 32 (by decide)).1).trans c177
                        have b189 : 0 ≤ (S182.1 32).toInt ∧ (S182.1 32).toInt ≤ 1 := aw_bd_f hs (hI185).1 (by decide) rfl
                        refine aw_g hU.1 aj_d238 rfl rfl (by decide) (v := .int (S182.1 32)) rfl ?_
                        refine aw_z (tgt := 158) aj_d238 rfl rfl (fun q190 => ?_) (fun q190 => ?_)
                        · have q190 : (S.1 32).toInt = (0 : Int) := aw_t_eq (a := (S.1 32).toInt) (b := (0 : Int)) c188 rfl q190
                          refine aw_l2 aj_d238 rfl rfl hlv183_0 ?_
                          refine aw_n aj_d238 rfl rfl ?_
                          have b191 : 0 ≤ (S.1 44).toInt ∧ (S.1 44).toInt ≤ 31 := aw_bd_f hs (hI15).1 (by decide) rfl
                          have c192 : (S141.1 44).toInt = (S.1 44).toInt := (congrArg Int32.toInt (fc141.1 44 (by decide)).1).trans rfl
                          have b193 : 0 ≤ (S141.1 44).toInt ∧ (S141.1 44).toInt ≤ 31 := aw_bd_f hs (hI148).1 (by decide) rfl
                          have c194 : (S156.1 44).toInt = (S.1 44).toInt := (congrArg Int32.toInt (fc156.1 44 (by decide)).1).trans c192
                          have b195 : 0 ≤ (S156.1 44).toInt ∧ (S156.1 44).toInt ≤ 31 := aw_bd_f hs (hI163).1 (by decide) rfl
                          have c196 : (S166.1 44).toInt = (S.1 44).toInt := (congrArg Int32.toInt (fc166.1 44 (by decide)).1).trans c194
                          have b197 : 0 ≤ (S166.1 44).toInt ∧ (S166.1 44).toInt ≤ 31 := aw_bd_f hs (hI173).1 (by decide) rfl
                          have c198 : (S182.1 44).toInt = (S.1 44).toInt := (congrArg Int32.toInt (fl187.1 44 (by decide)).1).trans c196
                          have b199 : 0 ≤ (S182.1 44).toInt ∧ (S182.1 44).toInt ≤ 31 := aw_bd_f hs (hI185).1 (by decide) rfl
                          refine aw_g hU.1 aj_d238 rfl rfl (by decide) (v := .int (S182.1 44)) rfl ?_
                          refine aw_n aj_d238 rfl rfl ?_
                          refine aw_add aj_d238 rfl (a := (S.1 44).toInt) (b := (1 : Int)) c198 rfl (by omega) (by omega) (fun x200 ex200 => ?_)
                          refine aw_p hU.1 aj_d238 rfl rfl (by decide) rfl ?_
                          have hI201 := aw_I_f (aw_UV hU aw_Gs_sm) (k := 44) (v := x200) hI185 (by decide) (by decide) rfl (aw_bp (a := x200.toInt) rfl (by omega) (by omega))
                          have fr202 := aw_fr_f (k := 44) (v := x200) (by decide) fr186
                          refine aw_n aj_d238 rfl rfl ?_
                          refine aw_e aj_d238 rfl rfl ?_
                          have b203 : 0 ≤ (S166.1 30).toInt ∧ (S166.1 30).toInt ≤ 1001 := aw_bd_f hs (hI173).1 (by decide) rfl
                          have c204 : (S182.1 30).toInt = (S166.1 30).toInt := (congrArg Int32.toInt (fl187.1 30 (by decide)).1).trans rfl
                          have b205 : 0 ≤ (S182.1 30).toInt ∧ (S182.1 30).toInt ≤ 1001 := aw_bd_f hs (hI185).1 (by decide) rfl
                          exact ⟨(hI201).1, fr202, Or.inr ⟨_, rfl, rfl, (aw_G_sm hI201.2 hG166), (show _ + 1 ≤ ((S182.1 30)).toInt by omega), (show (x200).toInt = _ by omega)⟩⟩
                        · have q190 : (S.1 32).toInt ≠ (0 : Int) := aw_t_eq (a := (S.1 32).toInt) (b := (0 : Int)) c188 rfl q190
                          refine aw_l0 aj_d238 rfl rfl hlv183_4 ?_
                          refine aw_l2 aj_d238 rfl rfl hlv183_0 ?_
                          refine aw_g hU.1 aj_d238 rfl rfl (by decide) (v := .ref 122) rfl ?_
                          refine aw_l2 aj_d238 rfl rfl hlv183_0 ?_
                          have b206 : 0 ≤ (S.1 37).toInt ∧ (S.1 37).toInt ≤ 1 := aw_bd_f hs (hI15).1 (by decide) rfl
                          have c207 : (S141.1 37).toInt = (S.1 37).toInt := (congrArg Int32.toInt (fc141.1 37 (by decide)).1).trans rfl
                          have b208 : 0 ≤ (S141.1 37).toInt ∧ (S141.1 37).toInt ≤ 1 := aw_bd_f hs (hI148).1 (by decide) rfl
                          have c209 : (S156.1 37).toInt = (S.1 37).toInt := (congrArg Int32.toInt (fc156.1 37 (by decide)).1).trans c207
                          have b210 : 0 ≤ (S156.1 37).toInt ∧ (S156.1 37).toInt ≤ 1 := aw_bd_f hs (hI163).1 (by decide) rfl
                          have c211 : (S166.1 37).toInt = (S.1 37).toInt := (congrArg Int32.toInt (fc166.1 37 (by decide)).1).trans c209
                          have b212 : 0 ≤ (S166.1 37).toInt ∧ (S166.1 37).toInt ≤ 1 := aw_bd_f hs (hI173).1 (by decide) rfl
                          have c213 : (S182.1 37).toInt = (S.1 37).toInt := (congrArg Int32.toInt (fl187.1 37 (by decide)).1).trans c211
                          have b214 : 0 ≤ (S182.1 37).toInt ∧ (S182.1 37).toInt ≤ 1 := aw_bd_f hs (hI185).1 (by decide) rfl
                          refine aw_g hU.1 aj_d238 rfl rfl (by decide) (v := .int (S182.1 37)) rfl ?_
                          refine aw_ld (k := 5) hU.1 aj_d238 (Or.inl ⟨rfl, rfl⟩) rfl (by decide) (by decide) rfl (a := (S.1 37).toInt) c213 (by omega) (by omega) (fun x215 ex215 => ?_)
                          have bx215 : 0 ≤ x215.toInt ∧ x215.toInt ≤ 1024 := by
                            rw [ex215]
                            exact aw_bd_a hs (hI185).1 (k := 5) (by decide) (by decide) rfl (by decide) rfl (by omega)
                          refine aw_c (tgt := 158) aj_d238 rfl rfl (fun q216 => ?_) (fun q216 => ?_)
                          · have q216 : x184.toInt ≥ x215.toInt := aw_t_ge (a := x184.toInt) (b := x215.toInt) rfl rfl q216
                            refine aw_l2 aj_d238 rfl rfl hlv183_0 ?_
                            refine aw_n aj_d238 rfl rfl ?_
                            have b217 : 0 ≤ (S.1 44).toInt ∧ (S.1 44).toInt ≤ 31 := aw_bd_f hs (hI15).1 (by decide) rfl
                            have c218 : (S141.1 44).toInt = (S.1 44).toInt := (congrArg Int32.toInt (fc141.1 44 (by decide)).1).trans rfl
                            have b219 : 0 ≤ (S141.1 44).toInt ∧ (S141.1 44).toInt ≤ 31 := aw_bd_f hs (hI148).1 (by decide) rfl
                            have c220 : (S156.1 44).toInt = (S.1 44).toInt := (congrArg Int32.toInt (fc156.1 44 (by decide)).1).trans c218
                            have b221 : 0 ≤ (S156.1 44).toInt ∧ (S156.1 44).toInt ≤ 31 := aw_bd_f hs (hI163).1 (by decide) rfl
                            have c222 : (S166.1 44).toInt = (S.1 44).toInt := (congrArg Int32.toInt (fc166.1 44 (by decide)).1).trans c220
                            have b223 : 0 ≤ (S166.1 44).toInt ∧ (S166.1 44).toInt ≤ 31 := aw_bd_f hs (hI173).1 (by decide) rfl
                            have c224 : (S182.1 44).toInt = (S.1 44).toInt := (congrArg Int32.toInt (fl187.1 44 (by decide)).1).trans c222
                            have b225 : 0 ≤ (S182.1 44).toInt ∧ (S182.1 44).toInt ≤ 31 := aw_bd_f hs (hI185).1 (by decide) rfl
                            refine aw_g hU.1 aj_d238 rfl rfl (by decide) (v := .int (S182.1 44)) rfl ?_
                            refine aw_n aj_d238 rfl rfl ?_
                            refine aw_add aj_d238 rfl (a := (S.1 44).toInt) (b := (1 : Int)) c224 rfl (by omega) (by omega) (fun x226 ex226 => ?_)
                            refine aw_p hU.1 aj_d238 rfl rfl (by decide) rfl ?_
                            have hI227 := aw_I_f (aw_UV hU aw_Gs_sm) (k := 44) (v := x226) hI185 (by decide) (by decide) rfl (aw_bp (a := x226.toInt) rfl (by omega) (by omega))
                            have fr228 := aw_fr_f (k := 44) (v := x226) (by decide) fr186
                            refine aw_n aj_d238 rfl rfl ?_
                            refine aw_e aj_d238 rfl rfl ?_
                            have b229 : 0 ≤ (S166.1 30).toInt ∧ (S166.1 30).toInt ≤ 1001 := aw_bd_f hs (hI173).1 (by decide) rfl
                            have c230 : (S182.1 30).toInt = (S166.1 30).toInt := (congrArg Int32.toInt (fl187.1 30 (by decide)).1).trans rfl
                            have b231 : 0 ≤ (S182.1 30).toInt ∧ (S182.1 30).toInt ≤ 1001 := aw_bd_f hs (hI185).1 (by decide) rfl
                            exact ⟨(hI227).1, fr228, Or.inr ⟨_, rfl, rfl, (aw_G_sm hI227.2 hG166), (show _ + 1 ≤ ((S182.1 30)).toInt by omega), (show (x226).toInt = _ by omega)⟩⟩
                          · have q216 : x184.toInt < x215.toInt := aw_t_ge (a := x184.toInt) (b := x215.toInt) rfl rfl q216
                            refine aw_l2 aj_d238 rfl rfl hlv183_0 ?_
                            refine aw_g hU.1 aj_d238 rfl rfl (by decide) (v := .ref 137) rfl ?_
                            refine aw_l2 aj_d238 rfl rfl hlv183_0 ?_
                            have b232 : 0 ≤ (S.1 44).toInt ∧ (S.1 44).toInt ≤ 31 := aw_bd_f hs (hI15).1 (by decide) rfl
                            have c233 : (S141.1 44).toInt = (S.1 44).toInt := (congrArg Int32.toInt (fc141.1 44 (by decide)).1).trans rfl
                            have b234 : 0 ≤ (S141.1 44).toInt ∧ (S141.1 44).toInt ≤ 31 := aw_bd_f hs (hI148).1 (by decide) rfl
                            have c235 : (S156.1 44).toInt = (S.1 44).toInt := (congrArg Int32.toInt (fc156.1 44 (by decide)).1).trans c233
                            have b236 : 0 ≤ (S156.1 44).toInt ∧ (S156.1 44).toInt ≤ 31 := aw_bd_f hs (hI163).1 (by decide) rfl
                            have c237 : (S166.1 44).toInt = (S.1 44).toInt := (congrArg Int32.toInt (fc166.1 44 (by decide)).1).trans c235
                            have b238 : 0 ≤ (S166.1 44).toInt ∧ (S166.1 44).toInt ≤ 31 := aw_bd_f hs (hI173).1 (by decide) rfl
                            have c239 : (S182.1 44).toInt = (S.1 44).toInt := (congrArg Int32.toInt (fl187.1 44 (by decide)).1).trans c237
                            have b240 : 0 ≤ (S182.1 44).toInt ∧ (S182.1 44).toInt ≤ 31 := aw_bd_f hs (hI185).1 (by decide) rfl
                            refine aw_g hU.1 aj_d238 rfl rfl (by decide) (v := .int (S182.1 44)) rfl ?_
                            refine aw_n aj_d238 rfl rfl ?_
                            refine aw_mul aj_d238 rfl (a := (S.1 44).toInt) (b := (32 : Int)) c239 rfl (by omega) (by omega) (fun x241 ex241 => ?_)
                            refine aw_l0 aj_d238 rfl rfl hlv183_4 ?_
                            refine aw_l0 aj_d238 rfl rfl hlv183_3 ?_
                            refine aw_l2 aj_d238 rfl rfl hlv183_0 ?_
                            refine aw_l2 aj_d238 rfl rfl hlv183_0 ?_
                            refine aw_g hU.1 aj_d238 rfl rfl (by decide) (v := .int (S182.1 37)) rfl ?_
                            refine aw_l0 aj_d238 rfl rfl hlv183_1 ?_
                            refine aw_l0 aj_d238 rfl rfl hlv183_2 ?_
                            refine aw_l0 aj_d238 rfl rfl hlv183_4 ?_
                            refine aw_k hU.1 aj_d238 rfl rfl [_, _, _, _] rfl rfl rfl (Nat.le_of_ble_eq_true rfl) (ar_valued hU (hI185).1 (by omega) (k := (S141.1 38)) (v := (S141.1 39)) (x := x184) (by omega) (by intro z; have z : ((S141.1 38)).toInt = 1 := z; show 0 ≤ ((S141.1 39)).toInt ∧ ((S141.1 39)).toInt ≤ 7; have ya := tvA (by omega); have yb := tvB (by omega); first | omega | (have yc := ya (by omega); omega) | (have yc := yb (by omega); omega)) (by omega)) ?_
                            rintro _ zb242 ⟨fb242, b242, rfl⟩
                            rw [fb242]
                            show aw_W _ _ _ _ 128 lv183 [.int b242, .int (S156.1 40), .int x184, .int x241, .ref 137] _ _
                            refine aw_l2 aj_d238 rfl rfl hlv183_0 ?_
                            refine aw_l2 aj_d238 rfl rfl hlv183_0 ?_
                            refine aw_g hU.1 aj_d238 rfl rfl (by decide) (v := .int (S182.1 37)) rfl ?_
                            refine aw_l2 aj_d238 rfl rfl hlv183_0 ?_
                            have c243 : (S182.1 38).toInt = (S166.1 38).toInt := (congrArg Int32.toInt (fl187.1 38 (by decide)).1).trans rfl
                            have b244 : 0 ≤ (S182.1 38).toInt ∧ (S182.1 38).toInt ≤ 1 := aw_bd_f hs (hI185).1 (by decide) rfl
                            refine aw_g hU.1 aj_d238 rfl rfl (by decide) (v := .int (S182.1 38)) rfl ?_
                            refine aw_l2 aj_d238 rfl rfl hlv183_0 ?_
                            have c245 : (S182.1 39).toInt = (S166.1 39).toInt := (congrArg Int32.toInt (fl187.1 39 (by decide)).1).trans rfl
                            refine aw_g hU.1 aj_d238 rfl rfl (by decide) (v := .int (S182.1 39)) rfl ?_
                            refine aw_l0 aj_d238 rfl rfl hlv183_4 ?_
                            refine aw_k hU.1 aj_d238 rfl rfl [_, _, _, _] rfl rfl rfl (Nat.le_of_ble_eq_true rfl) (ar_valued hU (hI185).1 (by omega) (k := (S182.1 38)) (v := (S182.1 39)) (x := x184) (by omega) (by intro z; have z : ((S182.1 38)).toInt = 1 := z; show 0 ≤ ((S182.1 39)).toInt ∧ ((S182.1 39)).toInt ≤ 7; have ya := tvA (by omega); have yb := tvB (by omega); first | omega | (have yc := ya (by omega); omega) | (have yc := yb (by omega); omega)) (by omega)) ?_
                            rintro _ zb246 ⟨fb246, b246, rfl⟩
                            rw [fb246]
                            show aw_W _ _ _ _ 146 lv183 [.int b246, .int b242, .int (S156.1 40), .int x184, .int x241, .ref 137] _ _
                            have b247 : 0 ≤ (S166.1 30).toInt ∧ (S166.1 30).toInt ≤ 1001 := aw_bd_f hs (hI173).1 (by decide) rfl
                            have c248 : (S182.1 30).toInt = (S166.1 30).toInt := (congrArg Int32.toInt (fl187.1 30 (by decide)).1).trans rfl
                            have b249 : 0 ≤ (S182.1 30).toInt ∧ (S182.1 30).toInt ≤ 1001 := aw_bd_f hs (hI185).1 (by decide) rfl
                            refine aw_ks aj_d238 rfl rfl rfl [_, _, _] rfl rfl (Nat.le_of_ble_eq_true rfl) (aw_toK hU aw_Gs_sm (con := ac_c242) (by omega) (ar_242 hU.2.1 (aw_SPc hU.2.2 aw_Gs_sm) aw_kpc) ⟨(hI185).1, aw_sm_rf⟩ ⟨(cw_full _), (cw_full _), (cw_full _), trivial⟩ (fun e he => nomatch he)) ?_
                            rintro r250 S250 ⟨hr250, hJ250, fc250, po250, -⟩
                            have hT250 := hJ250.1
                            replace fc250 := aw_fr_sub (F' := []) (A' := []) (by decide) (by decide) fc250
                            have fr251 := aw_fr_tr fr186 (aw_fr_sub (F := []) (A := []) (by decide) (by decide) fc250)
                            have fl252 := aw_fr_tr fl187 (aw_fr_sub (F := []) (A := []) (by decide) (by decide) fc250)
                            have hI253 : aw_I s h (aw_sm S166) S250 := ⟨hT250, aw_sm_tr hI185.2 (aw_fr_sm (by decide) (by decide) (by decide) (F := []) (A := []) fc250)⟩
                            obtain ⟨b250, rfl, bb250⟩ := cw_rI hr250
                            show aw_W _ _ _ _ 149 lv183 [.int b250, .int x184, .int x241, .ref 137] _ _
                            refine aw_ks aj_d238 rfl rfl rfl [_, _, _, _] rfl rfl (Nat.le_of_ble_eq_true rfl) (ar_put hU (hI253).1 (by omega) (k := 20) (n := 1024) (by decide) (by decide) rfl rfl (a := x241.toInt) (b := x184.toInt) rfl rfl (by omega) (by omega) (by omega) (by decide)) ?_
                            rintro _ S254 ⟨hT254, fc254, rfl, pe254⟩
                            have fr255 := aw_fr_tr fr251 (aw_fr_sub (F := []) (A := [20]) (by decide) (by decide) fc254)
                            have fl256 := aw_fr_tr fl252 (aw_fr_sub (F := []) (A := [20]) (by decide) (by decide) fc254)
                            have hI257 : aw_I s h (aw_sm S166) S254 := ⟨hT254, aw_sm_tr hI253.2 (aw_fr_sm (by decide) (by decide) (by decide) (F := []) (A := [20]) fc254)⟩
                            show aw_W _ _ _ _ 152 lv183 [] _ _
                            refine aw_inc aj_d238 rfl hlv183_4 (a := x184.toInt) rfl (by omega) (by omega) (by decide) (by decide) (fun x258 ex258 => ?_)
                            obtain ⟨lv259, elv259⟩ : ∃ l, l = aj_set1 lv183 4 (.int x258) := ⟨_, rfl⟩
                            rw [← elv259]
                            have hlv259_0 : aj_lv lv259 0 = some (.ref 117) := cw_e1 elv259 hlv183_0 (by decide) (Or.inl (by decide))
                            have hlv259_1 : aj_lv lv259 1 = some (.int (S141.1 38)) := cw_e1 elv259 hlv183_1 (by decide) (Or.inl (by decide))
                            have hlv259_2 : aj_lv lv259 2 = some (.int (S141.1 39)) := cw_e1 elv259 hlv183_2 (by decide) (Or.inl (by decide))
                            have hlv259_3 : aj_lv lv259 3 = some (.int (S156.1 40)) := cw_e1 elv259 hlv183_3 (by decide) (Or.inr rfl)
                            have hlv259_4 : aj_lv lv259 4 = some (.int x258) := by rw [elv259]; exact ak_set1_eq _ _ _
                            show aw_W _ _ _ _ 155 lv259 [] _ _
                            refine aw_n aj_d238 rfl rfl ?_
                            exact ihL81_180 S254 lv259 (x258) hlv259_0 hlv259_1 hlv259_2 hlv259_3 hlv259_4 hI257 fr255 fl256 (by omega) (by first | omega | (simp only [] at *; omega))
                    exact L81_180 _ S166 lv180 ((Int32.ofInt 0)) hlv180_0 hlv180_1 hlv180_2 hlv180_3 hlv180_4 hI173 fr172 (aw_fr_rf : aw_fr [] [20] S166 S166) (by first | omega | decide) (Nat.lt_succ_self _)
                  · have q174 : (1 : Int) = (0 : Int) := aw_t_ne (a := (1 : Int)) (b := (0 : Int)) hb166 rfl q174
                    exfalso
                    omega
              · have q164 : (1 : Int) = (0 : Int) := aw_t_ne (a := (1 : Int)) (b := (0 : Int)) hb156 rfl q164
                exfalso
                omega
          · have q149 : (1 : Int) = (0 : Int) := aw_t_ne (a := (1 : Int)) (b := (0 : Int)) hb141 rfl q149
            exfalso
            omega
      · have q140 : (1 : Int) = (0 : Int) := aw_t_ne (a := (1 : Int)) (b := (0 : Int)) hb138 rfl q140
        exfalso
        omega
    · skip
      have pb138 : ¬ (((S.1 26)).toInt = 3 ∧ ((S.1 29)).toInt = (45 : Int)) := pb138
      show aw_W _ _ _ _ 14 lv14 [.int b138] _ _
      refine aw_z (tgt := 36) aj_d238 rfl rfl (fun q260 => ?_) (fun q260 => ?_)
      · have q260 : (0 : Int) ≠ (0 : Int) := aw_t_ne (a := (0 : Int)) (b := (0 : Int)) hb138 rfl q260
        exfalso
        omega
      · have q260 : (0 : Int) = (0 : Int) := aw_t_ne (a := (0 : Int)) (b := (0 : Int)) hb138 rfl q260
        refine aw_l2 aj_d238 rfl rfl hlv14_0 ?_
        refine aw_n aj_d238 rfl rfl ?_
        refine aw_k hU.1 aj_d238 rfl rfl [_] rfl rfl rfl (Nat.le_of_ble_eq_true rfl) (ar_isSign hU (by omega) (b := (63 : Int)) rfl) ?_
        rintro _ S262 ⟨eS262, b261, rfl, kb261⟩
        rw [eS262]
        rcases kb261 with ⟨hb261, pb261, qb261⟩ | ⟨hb261, pb261⟩
        · skip
          have pb261 : ((S.1 26)).toInt = 3 := pb261
          have qb261 : ((S.1 29)).toInt = (63 : Int) := qb261
          show aw_W _ _ _ _ 23 lv14 [.int b261] _ _
          refine aw_z (tgt := 36) aj_d238 rfl rfl (fun q263 => ?_) (fun q263 => ?_)
          · have q263 : (1 : Int) ≠ (0 : Int) := aw_t_ne (a := (1 : Int)) (b := (0 : Int)) hb261 rfl q263
            refine aw_l2 aj_d238 rfl rfl hlv14_0 ?_
            have b265 : 0 ≤ (S.1 30).toInt ∧ (S.1 30).toInt ≤ 1001 := aw_bd_f hs (hI15).1 (by decide) rfl
            refine aw_k hU.1 aj_d238 rfl rfl [] rfl rfl rfl (Nat.le_of_ble_eq_true rfl) (ar_term hU (hI15).1 hG (by omega)) ?_
            rintro _ S264 ⟨hT264, fc264, ⟨b264, rfl, hb264, hG264, ck264⟩ | ⟨b264, rfl, hb264, hG264, ck264, tv264⟩⟩
            · skip
              have ck264 : ((S.1 30)).toInt ≤ (S264.1 30).toInt := ck264
              have fr266 := aw_fr_tr fr16 (aw_fr_sub (F := [24, 25, 26, 27, 28, 29, 30, 31, 33, 34, 35, 36, 38, 39]) (A := []) (by decide) (by decide) fc264)
              have hI267 : aw_I s h (aw_sm S264) S264 := ⟨hT264, aw_sm_rf⟩
              show aw_W _ _ _ _ 40 lv14 [.int b264] _ _
              refine aw_z (tgt := 45) aj_d238 rfl rfl (fun q268 => ?_) (fun q268 => ?_)
              · have q268 : (0 : Int) ≠ (0 : Int) := aw_t_ne (a := (0 : Int)) (b := (0 : Int)) hb264 rfl q268
                exfalso
                omega
              · have q268 : (0 : Int) = (0 : Int) := aw_t_ne (a := (0 : Int)) (b := (0 : Int)) hb264 rfl q268
                refine aw_n aj_d238 rfl rfl ?_
                refine aw_e aj_d238 rfl rfl ?_
                have b269 : 0 ≤ (S264.1 30).toInt ∧ (S264.1 30).toInt ≤ 1001 := aw_bd_f hs (hI267).1 (by decide) rfl
                exact ⟨(hI267).1, fr266, Or.inl ⟨_, rfl, rfl, hG264, (show _ ≤ ((S264.1 30)).toInt by omega)⟩⟩
            · skip
              have ck264 : ((S.1 30)).toInt + 1 ≤ (S264.1 30).toInt := ck264
              have fr270 := aw_fr_tr fr16 (aw_fr_sub (F := [24, 25, 26, 27, 28, 29, 30, 31, 33, 34, 35, 36, 38, 39]) (A := []) (by decide) (by decide) fc264)
              have hI271 : aw_I s h (aw_sm S264) S264 := ⟨hT264, aw_sm_rf⟩
              show aw_W _ _ _ _ 40 lv14 [.int b264] _ _
              refine aw_z (tgt := 45) aj_d238 rfl rfl (fun q272 => ?_) (fun q272 => ?_)
              · have q272 : (1 : Int) ≠ (0 : Int) := aw_t_ne (a := (1 : Int)) (b := (0 : Int)) hb264 rfl q272
                have b273 : 0 ≤ (S.1 32).toInt ∧ (S.1 32).toInt ≤ 1 := aw_bd_f hs (hI15).1 (by decide) rfl
                have c274 : (S264.1 32).toInt = (S.1 32).toInt := (congrArg Int32.toInt (fc264.1 32 (by decide)).1).trans rfl
                have b275 : 0 ≤ (S264.1 32).toInt ∧ (S264.1 32).toInt ≤ 1 := aw_bd_f hs (hI271).1 (by decide) rfl
                have b276 : 0 ≤ (S264.1 38).toInt ∧ (S264.1 38).toInt ≤ 1 := aw_bd_f hs (hI271).1 (by decide) rfl
                have tvA : ((S264.1 32)).toInt ≠ 0 → ((S264.1 38)).toInt = 1 → 0 ≤ ((S264.1 39)).toInt ∧ ((S264.1 39)).toInt ≤ 7 := tv264
                refine aw_l2 aj_d238 rfl rfl hlv14_0 ?_
                refine aw_g hU.1 aj_d238 rfl rfl (by decide) (v := .int (S264.1 38)) rfl ?_
                refine aw_t0 (j := 1) aj_d238 rfl (by decide) rfl ?_
                obtain ⟨lv277, elv277⟩ : ∃ l, l = aj_set1 lv14 1 (.int (S264.1 38)) := ⟨_, rfl⟩
                rw [← elv277]
                have hlv277_0 : aj_lv lv277 0 = some (.ref 117) := cw_e1 elv277 hlv14_0 (by decide) (Or.inr rfl)
                have hlv277_1 : aj_lv lv277 1 = some (.int (S264.1 38)) := by rw [elv277]; exact ak_set1_eq _ _ _
                show aw_W _ _ _ _ 50 lv277 [] _ _
                refine aw_l2 aj_d238 rfl rfl hlv277_0 ?_
                refine aw_g hU.1 aj_d238 rfl rfl (by decide) (v := .int (S264.1 39)) rfl ?_
                refine aw_t0 (j := 2) aj_d238 rfl (by decide) rfl ?_
                obtain ⟨lv278, elv278⟩ : ∃ l, l = aj_set1 lv277 2 (.int (S264.1 39)) := ⟨_, rfl⟩
                rw [← elv278]
                have hlv278_0 : aj_lv lv278 0 = some (.ref 117) := cw_e1 elv278 hlv277_0 (by decide) (Or.inl (by decide))
                have hlv278_1 : aj_lv lv278 1 = some (.int (S264.1 38)) := cw_e1 elv278 hlv277_1 (by decide) (Or.inr rfl)
                have hlv278_2 : aj_lv lv278 2 = some (.int (S264.1 39)) := by rw [elv278]; exact ak_set1_eq _ _ _
                show aw_W _ _ _ _ 55 lv278 [] _ _
                refine aw_l2 aj_d238 rfl rfl hlv278_0 ?_
                have b280 : 0 ≤ (S264.1 30).toInt ∧ (S264.1 30).toInt ≤ 1001 := aw_bd_f hs (hI271).1 (by decide) rfl
                refine aw_k hU.1 aj_d238 rfl rfl [] rfl rfl rfl (Nat.le_of_ble_eq_true rfl) (ar_relation hU (hI271).1 hG264 (by omega)) ?_
                rintro _ S279 ⟨hT279, fc279, ⟨b279, rfl, hb279, hG279, ck279⟩ | ⟨b279, rfl, hb279, hG279, ck279, ex279⟩⟩
                · skip
                  have ck279 : ((S264.1 30)).toInt ≤ (S279.1 30).toInt := ck279
                  have fr281 := aw_fr_tr fr270 (aw_fr_sub (F := [24, 25, 26, 27, 28, 29, 30, 31, 40]) (A := []) (by decide) (by decide) fc279)
                  have hI282 : aw_I s h (aw_sm S279) S279 := ⟨hT279, aw_sm_rf⟩
                  show aw_W _ _ _ _ 59 lv278 [.int b279] _ _
                  refine aw_z (tgt := 64) aj_d238 rfl rfl (fun q283 => ?_) (fun q283 => ?_)
                  · have q283 : (0 : Int) ≠ (0 : Int) := aw_t_ne (a := (0 : Int)) (b := (0 : Int)) hb279 rfl q283
                    exfalso
                    omega
                  · have q283 : (0 : Int) = (0 : Int) := aw_t_ne (a := (0 : Int)) (b := (0 : Int)) hb279 rfl q283
                    refine aw_n aj_d238 rfl rfl ?_
                    refine aw_e aj_d238 rfl rfl ?_
                    have b284 : 0 ≤ (S279.1 30).toInt ∧ (S279.1 30).toInt ≤ 1001 := aw_bd_f hs (hI282).1 (by decide) rfl
                    exact ⟨(hI282).1, fr281, Or.inl ⟨_, rfl, rfl, hG279, (show _ ≤ ((S279.1 30)).toInt by omega)⟩⟩
                · skip
                  have ck279 : ((S264.1 30)).toInt + 1 ≤ (S279.1 30).toInt := ck279
                  have fr285 := aw_fr_tr fr270 (aw_fr_sub (F := [24, 25, 26, 27, 28, 29, 30, 31, 40]) (A := []) (by decide) (by decide) fc279)
                  have hI286 : aw_I s h (aw_sm S279) S279 := ⟨hT279, aw_sm_rf⟩
                  show aw_W _ _ _ _ 59 lv278 [.int b279] _ _
                  refine aw_z (tgt := 64) aj_d238 rfl rfl (fun q287 => ?_) (fun q287 => ?_)
                  · have q287 : (1 : Int) ≠ (0 : Int) := aw_t_ne (a := (1 : Int)) (b := (0 : Int)) hb279 rfl q287
                    refine aw_l2 aj_d238 rfl rfl hlv278_0 ?_
                    refine aw_g hU.1 aj_d238 rfl rfl (by decide) (v := .int (S279.1 40)) rfl ?_
                    refine aw_t0 (j := 3) aj_d238 rfl (by decide) rfl ?_
                    obtain ⟨lv288, elv288⟩ : ∃ l, l = aj_set1 lv278 3 (.int (S279.1 40)) := ⟨_, rfl⟩
                    rw [← elv288]
                    have hlv288_0 : aj_lv lv288 0 = some (.ref 117) := cw_e1 elv288 hlv278_0 (by decide) (Or.inl (by decide))
                    have hlv288_1 : aj_lv lv288 1 = some (.int (S264.1 38)) := cw_e1 elv288 hlv278_1 (by decide) (Or.inl (by decide))
                    have hlv288_2 : aj_lv lv288 2 = some (.int (S264.1 39)) := cw_e1 elv288 hlv278_2 (by decide) (Or.inr rfl)
                    have hlv288_3 : aj_lv lv288 3 = some (.int (S279.1 40)) := by rw [elv288]; exact ak_set1_eq _ _ _
                    show aw_W _ _ _ _ 69 lv288 [] _ _
                    refine aw_l2 aj_d238 rfl rfl hlv288_0 ?_
                    have b290 : 0 ≤ (S279.1 30).toInt ∧ (S279.1 30).toInt ≤ 1001 := aw_bd_f hs (hI286).1 (by decide) rfl
                    refine aw_k hU.1 aj_d238 rfl rfl [] rfl rfl rfl (Nat.le_of_ble_eq_true rfl) (ar_term hU (hI286).1 hG279 (by omega)) ?_
                    rintro _ S289 ⟨hT289, fc289, ⟨b289, rfl, hb289, hG289, ck289⟩ | ⟨b289, rfl, hb289, hG289, ck289, tv289⟩⟩
                    · skip
                      have ck289 : ((S279.1 30)).toInt ≤ (S289.1 30).toInt := ck289
                      have fr291 := aw_fr_tr fr285 (aw_fr_sub (F := [24, 25, 26, 27, 28, 29, 30, 31, 33, 34, 35, 36, 38, 39]) (A := []) (by decide) (by decide) fc289)
                      have hI292 : aw_I s h (aw_sm S289) S289 := ⟨hT289, aw_sm_rf⟩
                      show aw_W _ _ _ _ 73 lv288 [.int b289] _ _
                      refine aw_z (tgt := 78) aj_d238 rfl rfl (fun q293 => ?_) (fun q293 => ?_)
                      · have q293 : (0 : Int) ≠ (0 : Int) := aw_t_ne (a := (0 : Int)) (b := (0 : Int)) hb289 rfl q293
                        exfalso
                        omega
                      · have q293 : (0 : Int) = (0 : Int) := aw_t_ne (a := (0 : Int)) (b := (0 : Int)) hb289 rfl q293
                        refine aw_n aj_d238 rfl rfl ?_
                        refine aw_e aj_d238 rfl rfl ?_
                        have b294 : 0 ≤ (S289.1 30).toInt ∧ (S289.1 30).toInt ≤ 1001 := aw_bd_f hs (hI292).1 (by decide) rfl
                        exact ⟨(hI292).1, fr291, Or.inl ⟨_, rfl, rfl, hG289, (show _ ≤ ((S289.1 30)).toInt by omega)⟩⟩
                    · skip
                      have ck289 : ((S279.1 30)).toInt + 1 ≤ (S289.1 30).toInt := ck289
                      have fr295 := aw_fr_tr fr285 (aw_fr_sub (F := [24, 25, 26, 27, 28, 29, 30, 31, 33, 34, 35, 36, 38, 39]) (A := []) (by decide) (by decide) fc289)
                      have hI296 : aw_I s h (aw_sm S289) S289 := ⟨hT289, aw_sm_rf⟩
                      show aw_W _ _ _ _ 73 lv288 [.int b289] _ _
                      refine aw_z (tgt := 78) aj_d238 rfl rfl (fun q297 => ?_) (fun q297 => ?_)
                      · have q297 : (1 : Int) ≠ (0 : Int) := aw_t_ne (a := (1 : Int)) (b := (0 : Int)) hb289 rfl q297
                        have c298 : (S279.1 32).toInt = (S.1 32).toInt := (congrArg Int32.toInt (fc279.1 32 (by decide)).1).trans c274
                        have b299 : 0 ≤ (S279.1 32).toInt ∧ (S279.1 32).toInt ≤ 1 := aw_bd_f hs (hI286).1 (by decide) rfl
                        have c300 : (S289.1 32).toInt = (S.1 32).toInt := (congrArg Int32.toInt (fc289.1 32 (by decide)).1).trans c298
                        have b301 : 0 ≤ (S289.1 32).toInt ∧ (S289.1 32).toInt ≤ 1 := aw_bd_f hs (hI296).1 (by decide) rfl
                        have b302 : 0 ≤ (S289.1 38).toInt ∧ (S289.1 38).toInt ≤ 1 := aw_bd_f hs (hI296).1 (by decide) rfl
                        have tvB : ((S289.1 32)).toInt ≠ 0 → ((S289.1 38)).toInt = 1 → 0 ≤ ((S289.1 39)).toInt ∧ ((S289.1 39)).toInt ≤ 7 := tv289
                        refine aw_n aj_d238 rfl rfl ?_
                        refine aw_t0 (j := 4) aj_d238 rfl (by decide) rfl ?_
                        obtain ⟨lv303, elv303⟩ : ∃ l, l = aj_set1 lv288 4 (.int (Int32.ofInt 0)) := ⟨_, rfl⟩
                        rw [← elv303]
                        have hlv303_0 : aj_lv lv303 0 = some (.ref 117) := cw_e1 elv303 hlv288_0 (by decide) (Or.inl (by decide))
                        have hlv303_1 : aj_lv lv303 1 = some (.int (S264.1 38)) := cw_e1 elv303 hlv288_1 (by decide) (Or.inl (by decide))
                        have hlv303_2 : aj_lv lv303 2 = some (.int (S264.1 39)) := cw_e1 elv303 hlv288_2 (by decide) (Or.inl (by decide))
                        have hlv303_3 : aj_lv lv303 3 = some (.int (S279.1 40)) := cw_e1 elv303 hlv288_3 (by decide) (Or.inr rfl)
                        have hlv303_4 : aj_lv lv303 4 = some (.int (Int32.ofInt 0)) := by rw [elv303]; exact ak_set1_eq _ _ _
                        show aw_W _ _ _ _ 81 lv303 [] _ _
                        have L81_303 : ∀ (N : Nat) (S305 : aj_S) (lv306 : aj_V) (x307 : Int32), (aj_lv lv306 0 = some (.ref 117)) → (aj_lv lv306 1 = some (.int (S264.1 38))) → (aj_lv lv306 2 = some (.int (S264.1 39))) → (aj_lv lv306 3 = some (.int (S279.1 40))) → (aj_lv lv306 4 = some (.int x307)) → (aw_I s h (aw_sm S289) S305) → (aw_fr [24, 25, 26, 27, 28, 29, 30, 31, 33, 34, 35, 36, 38, 39, 40, 44] [20] S S305) → (aw_fr [] [20] S289 S305) → (0 ≤ x307.toInt ∧ x307.toInt ≤ 1024) → (1024 - x307.toInt).toNat < N → aw_W tb h d aj_m238 81 lv306 [] S305 ((ar_QT s h (nm, fl, la, 0, 0, ht) [24, 25, 26, 27, 28, 29, 30, 31, 33, 34, 35, 36, 38, 39, 40, 44] [20] S (fun S' => (S'.1 44).toInt = (S.1 44).toInt + 1))) := by
                          intro N
                          induction N with
                          | zero =>
                            intro S305 lv306 x307 hlv306_0 hlv306_1 hlv306_2 hlv306_3 hlv306_4 hI308 fr309 fl310 bx307 hm
                            omega
                          | succ N ihL81_303 =>
                            intro S305 lv306 x307 hlv306_0 hlv306_1 hlv306_2 hlv306_3 hlv306_4 hI308 fr309 fl310 bx307 hm
                            refine aw_l2 aj_d238 rfl rfl hlv306_0 ?_
                            have c311 : (S305.1 32).toInt = (S.1 32).toInt := (congrArg Int32.toInt (fl310.1 32 (by decide)).1).trans c300
                            have b312 : 0 ≤ (S305.1 32).toInt ∧ (S305.1 32).toInt ≤ 1 := aw_bd_f hs (hI308).1 (by decide) rfl
                            refine aw_g hU.1 aj_d238 rfl rfl (by decide) (v := .int (S305.1 32)) rfl ?_
                            refine aw_z (tgt := 158) aj_d238 rfl rfl (fun q313 => ?_) (fun q313 => ?_)
                            · have q313 : (S.1 32).toInt = (0 : Int) := aw_t_eq (a := (S.1 32).toInt) (b := (0 : Int)) c311 rfl q313
                              refine aw_l2 aj_d238 rfl rfl hlv306_0 ?_
                              refine aw_n aj_d238 rfl rfl ?_
                              have b314 : 0 ≤ (S.1 44).toInt ∧ (S.1 44).toInt ≤ 31 := aw_bd_f hs (hI15).1 (by decide) rfl
                              have c315 : (S264.1 44).toInt = (S.1 44).toInt := (congrArg Int32.toInt (fc264.1 44 (by decide)).1).trans rfl
                              have b316 : 0 ≤ (S264.1 44).toInt ∧ (S264.1 44).toInt ≤ 31 := aw_bd_f hs (hI271).1 (by decide) rfl
                              have c317 : (S279.1 44).toInt = (S.1 44).toInt := (congrArg Int32.toInt (fc279.1 44 (by decide)).1).trans c315
                              have b318 : 0 ≤ (S279.1 44).toInt ∧ (S279.1 44).toInt ≤ 31 := aw_bd_f hs (hI286).1 (by decide) rfl
                              have c319 : (S289.1 44).toInt = (S.1 44).toInt := (congrArg Int32.toInt (fc289.1 44 (by decide)).1).trans c317
                              have b320 : 0 ≤ (S289.1 44).toInt ∧ (S289.1 44).toInt ≤ 31 := aw_bd_f hs (hI296).1 (by decide) rfl
                              have c321 : (S305.1 44).toInt = (S.1 44).toInt := (congrArg Int32.toInt (fl310.1 44 (by decide)).1).trans c319
                              have b322 : 0 ≤ (S305.1 44).toInt ∧ (S305.1 44).toInt ≤ 31 := aw_bd_f hs (hI308).1 (by decide) rfl
                              refine aw_g hU.1 aj_d238 rfl rfl (by decide) (v := .int (S305.1 44)) rfl ?_
                              refine aw_n aj_d238 rfl rfl ?_
                              refine aw_add aj_d238 rfl (a := (S.1 44).toInt) (b := (1 : Int)) c321 rfl (by omega) (by omega) (fun x323 ex323 => ?_)
                              refine aw_p hU.1 aj_d238 rfl rfl (by decide) rfl ?_
                              have hI324 := aw_I_f (aw_UV hU aw_Gs_sm) (k := 44) (v := x323) hI308 (by decide) (by decide) rfl (aw_bp (a := x323.toInt) rfl (by omega) (by omega))
                              have fr325 := aw_fr_f (k := 44) (v := x323) (by decide) fr309
                              refine aw_n aj_d238 rfl rfl ?_
                              refine aw_e aj_d238 rfl rfl ?_
                              have b326 : 0 ≤ (S289.1 30).toInt ∧ (S289.1 30).toInt ≤ 1001 := aw_bd_f hs (hI296).1 (by decide) rfl
                              have c327 : (S305.1 30).toInt = (S289.1 30).toInt := (congrArg Int32.toInt (fl310.1 30 (by decide)).1).trans rfl
                              have b328 : 0 ≤ (S305.1 30).toInt ∧ (S305.1 30).toInt ≤ 1001 := aw_bd_f hs (hI308).1 (by decide) rfl
                              exact ⟨(hI324).1, fr325, Or.inr ⟨_, rfl, rfl, (aw_G_sm hI324.2 hG289), (show _ + 1 ≤ ((S305.1 30)).toInt by omega), (show (x323).toInt = _ by omega)⟩⟩
                            · have q313 : (S.1 32).toInt ≠ (0 : Int) := aw_t_eq (a := (S.1 32).toInt) (b := (0 : Int)) c311 rfl q313
                              refine aw_l0 aj_d238 rfl rfl hlv306_4 ?_
                              refine aw_l2 aj_d238 rfl rfl hlv306_0 ?_
                              refine aw_g hU.1 aj_d238 rfl rfl (by decide) (v := .ref 122) rfl ?_
                              refine aw_l2 aj_d238 rfl rfl hlv306_0 ?_
                              have b329 : 0 ≤ (S.1 37).toInt ∧ (S.1 37).toInt ≤ 1 := aw_bd_f hs (hI15).1 (by decide) rfl
                              have c330 : (S264.1 37).toInt = (S.1 37).toInt := (congrArg Int32.toInt (fc264.1 37 (by decide)).1).trans rfl
                              have b331 : 0 ≤ (S264.1 37).toInt ∧ (S264.1 37).toInt ≤ 1 := aw_bd_f hs (hI271).1 (by decide) rfl
                              have c332 : (S279.1 37).toInt = (S.1 37).toInt := (congrArg Int32.toInt (fc279.1 37 (by decide)).1).trans c330
                              have b333 : 0 ≤ (S279.1 37).toInt ∧ (S279.1 37).toInt ≤ 1 := aw_bd_f hs (hI286).1 (by decide) rfl
                              have c334 : (S289.1 37).toInt = (S.1 37).toInt := (congrArg Int32.toInt (fc289.1 37 (by decide)).1).trans c332
                              have b335 : 0 ≤ (S289.1 37).toInt ∧ (S289.1 37).toInt ≤ 1 := aw_bd_f hs (hI296).1 (by decide) rfl
                              have c336 : (S305.1 37).toInt = (S.1 37).toInt := (congrArg Int32.toInt (fl310.1 37 (by decide)).1).trans c334
                              have b337 : 0 ≤ (S305.1 37).toInt ∧ (S305.1 37).toInt ≤ 1 := aw_bd_f hs (hI308).1 (by decide) rfl
                              refine aw_g hU.1 aj_d238 rfl rfl (by decide) (v := .int (S305.1 37)) rfl ?_
                              refine aw_ld (k := 5) hU.1 aj_d238 (Or.inl ⟨rfl, rfl⟩) rfl (by decide) (by decide) rfl (a := (S.1 37).toInt) c336 (by omega) (by omega) (fun x338 ex338 => ?_)
                              have bx338 : 0 ≤ x338.toInt ∧ x338.toInt ≤ 1024 := by
                                rw [ex338]
                                exact aw_bd_a hs (hI308).1 (k := 5) (by decide) (by decide) rfl (by decide) rfl (by omega)
                              refine aw_c (tgt := 158) aj_d238 rfl rfl (fun q339 => ?_) (fun q339 => ?_)
                              · have q339 : x307.toInt ≥ x338.toInt := aw_t_ge (a := x307.toInt) (b := x338.toInt) rfl rfl q339
                                refine aw_l2 aj_d238 rfl rfl hlv306_0 ?_
                                refine aw_n aj_d238 rfl rfl ?_
                                have b340 : 0 ≤ (S.1 44).toInt ∧ (S.1 44).toInt ≤ 31 := aw_bd_f hs (hI15).1 (by decide) rfl
                                have c341 : (S264.1 44).toInt = (S.1 44).toInt := (congrArg Int32.toInt (fc264.1 44 (by decide)).1).trans rfl
                                have b342 : 0 ≤ (S264.1 44).toInt ∧ (S264.1 44).toInt ≤ 31 := aw_bd_f hs (hI271).1 (by decide) rfl
                                have c343 : (S279.1 44).toInt = (S.1 44).toInt := (congrArg Int32.toInt (fc279.1 44 (by decide)).1).trans c341
                                have b344 : 0 ≤ (S279.1 44).toInt ∧ (S279.1 44).toInt ≤ 31 := aw_bd_f hs (hI286).1 (by decide) rfl
                                have c345 : (S289.1 44).toInt = (S.1 44).toInt := (congrArg Int32.toInt (fc289.1 44 (by decide)).1).trans c343
                                have b346 : 0 ≤ (S289.1 44).toInt ∧ (S289.1 44).toInt ≤ 31 := aw_bd_f hs (hI296).1 (by decide) rfl
                                have c347 : (S305.1 44).toInt = (S.1 44).toInt := (congrArg Int32.toInt (fl310.1 44 (by decide)).1).trans c345
                                have b348 : 0 ≤ (S305.1 44).toInt ∧ (S305.1 44).toInt ≤ 31 := aw_bd_f hs (hI308).1 (by decide) rfl
                                refine aw_g hU.1 aj_d238 rfl rfl (by decide) (v := .int (S305.1 44)) rfl ?_
                                refine aw_n aj_d238 rfl rfl ?_
                                refine aw_add aj_d238 rfl (a := (S.1 44).toInt) (b := (1 : Int)) c347 rfl (by omega) (by omega) (fun x349 ex349 => ?_)
                                refine aw_p hU.1 aj_d238 rfl rfl (by decide) rfl ?_
                                have hI350 := aw_I_f (aw_UV hU aw_Gs_sm) (k := 44) (v := x349) hI308 (by decide) (by decide) rfl (aw_bp (a := x349.toInt) rfl (by omega) (by omega))
                                have fr351 := aw_fr_f (k := 44) (v := x349) (by decide) fr309
                                refine aw_n aj_d238 rfl rfl ?_
                                refine aw_e aj_d238 rfl rfl ?_
                                have b352 : 0 ≤ (S289.1 30).toInt ∧ (S289.1 30).toInt ≤ 1001 := aw_bd_f hs (hI296).1 (by decide) rfl
                                have c353 : (S305.1 30).toInt = (S289.1 30).toInt := (congrArg Int32.toInt (fl310.1 30 (by decide)).1).trans rfl
                                have b354 : 0 ≤ (S305.1 30).toInt ∧ (S305.1 30).toInt ≤ 1001 := aw_bd_f hs (hI308).1 (by decide) rfl
                                exact ⟨(hI350).1, fr351, Or.inr ⟨_, rfl, rfl, (aw_G_sm hI350.2 hG289), (show _ + 1 ≤ ((S305.1 30)).toInt by omega), (show (x349).toInt = _ by omega)⟩⟩
                              · have q339 : x307.toInt < x338.toInt := aw_t_ge (a := x307.toInt) (b := x338.toInt) rfl rfl q339
                                refine aw_l2 aj_d238 rfl rfl hlv306_0 ?_
                                refine aw_g hU.1 aj_d238 rfl rfl (by decide) (v := .ref 137) rfl ?_
                                refine aw_l2 aj_d238 rfl rfl hlv306_0 ?_
                                have b355 : 0 ≤ (S.1 44).toInt ∧ (S.1 44).toInt ≤ 31 := aw_bd_f hs (hI15).1 (by decide) rfl
                                have c356 : (S264.1 44).toInt = (S.1 44).toInt := (congrArg Int32.toInt (fc264.1 44 (by decide)).1).trans rfl
                                have b357 : 0 ≤ (S264.1 44).toInt ∧ (S264.1 44).toInt ≤ 31 := aw_bd_f hs (hI271).1 (by decide) rfl
                                have c358 : (S279.1 44).toInt = (S.1 44).toInt := (congrArg Int32.toInt (fc279.1 44 (by decide)).1).trans c356
                                have b359 : 0 ≤ (S279.1 44).toInt ∧ (S279.1 44).toInt ≤ 31 := aw_bd_f hs (hI286).1 (by decide) rfl
                                have c360 : (S289.1 44).toInt = (S.1 44).toInt := (congrArg Int32.toInt (fc289.1 44 (by decide)).1).trans c358
                                have b361 : 0 ≤ (S289.1 44).toInt ∧ (S289.1 44).toInt ≤ 31 := aw_bd_f hs (hI296).1 (by decide) rfl
                                have c362 : (S305.1 44).toInt = (S.1 44).toInt := (congrArg Int32.toInt (fl310.1 44 (by decide)).1).trans c360
                                have b363 : 0 ≤ (S305.1 44).toInt ∧ (S305.1 44).toInt ≤ 31 := aw_bd_f hs (hI308).1 (by decide) rfl
                                refine aw_g hU.1 aj_d238 rfl rfl (by decide) (v := .int (S305.1 44)) rfl ?_
                                refine aw_n aj_d238 rfl rfl ?_
                                refine aw_mul aj_d238 rfl (a := (S.1 44).toInt) (b := (32 : Int)) c362 rfl (by omega) (by omega) (fun x364 ex364 => ?_)
                                refine aw_l0 aj_d238 rfl rfl hlv306_4 ?_
                                refine aw_l0 aj_d238 rfl rfl hlv306_3 ?_
                                refine aw_l2 aj_d238 rfl rfl hlv306_0 ?_
                                refine aw_l2 aj_d238 rfl rfl hlv306_0 ?_
                                refine aw_g hU.1 aj_d238 rfl rfl (by decide) (v := .int (S305.1 37)) rfl ?_
                                refine aw_l0 aj_d238 rfl rfl hlv306_1 ?_
                                refine aw_l0 aj_d238 rfl rfl hlv306_2 ?_
                                refine aw_l0 aj_d238 rfl rfl hlv306_4 ?_
                                refine aw_k hU.1 aj_d238 rfl rfl [_, _, _, _] rfl rfl rfl (Nat.le_of_ble_eq_true rfl) (ar_valued hU (hI308).1 (by omega) (k := (S264.1 38)) (v := (S264.1 39)) (x := x307) (by omega) (by intro z; have z : ((S264.1 38)).toInt = 1 := z; show 0 ≤ ((S264.1 39)).toInt ∧ ((S264.1 39)).toInt ≤ 7; have ya := tvA (by omega); have yb := tvB (by omega); first | omega | (have yc := ya (by omega); omega) | (have yc := yb (by omega); omega)) (by omega)) ?_
                                rintro _ zb365 ⟨fb365, b365, rfl⟩
                                rw [fb365]
                                show aw_W _ _ _ _ 128 lv306 [.int b365, .int (S279.1 40), .int x307, .int x364, .ref 137] _ _
                                refine aw_l2 aj_d238 rfl rfl hlv306_0 ?_
                                refine aw_l2 aj_d238 rfl rfl hlv306_0 ?_
                                refine aw_g hU.1 aj_d238 rfl rfl (by decide) (v := .int (S305.1 37)) rfl ?_
                                refine aw_l2 aj_d238 rfl rfl hlv306_0 ?_
                                have c366 : (S305.1 38).toInt = (S289.1 38).toInt := (congrArg Int32.toInt (fl310.1 38 (by decide)).1).trans rfl
                                have b367 : 0 ≤ (S305.1 38).toInt ∧ (S305.1 38).toInt ≤ 1 := aw_bd_f hs (hI308).1 (by decide) rfl
                                refine aw_g hU.1 aj_d238 rfl rfl (by decide) (v := .int (S305.1 38)) rfl ?_
                                refine aw_l2 aj_d238 rfl rfl hlv306_0 ?_
                                have c368 : (S305.1 39).toInt = (S289.1 39).toInt := (congrArg Int32.toInt (fl310.1 39 (by decide)).1).trans rfl
                                refine aw_g hU.1 aj_d238 rfl rfl (by decide) (v := .int (S305.1 39)) rfl ?_
                                refine aw_l0 aj_d238 rfl rfl hlv306_4 ?_
                                refine aw_k hU.1 aj_d238 rfl rfl [_, _, _, _] rfl rfl rfl (Nat.le_of_ble_eq_true rfl) (ar_valued hU (hI308).1 (by omega) (k := (S305.1 38)) (v := (S305.1 39)) (x := x307) (by omega) (by intro z; have z : ((S305.1 38)).toInt = 1 := z; show 0 ≤ ((S305.1 39)).toInt ∧ ((S305.1 39)).toInt ≤ 7; have ya := tvA (by omega); have yb := tvB (by omega); first | omega | (have yc := ya (by omega); omega) | (have yc := yb (by omega); omega)) (by omega)) ?_
                                rintro _ zb369 ⟨fb369, b369, rfl⟩
                                rw [fb369]
                                show aw_W _ _ _ _ 146 lv306 [.int b369, .int b365, .int (S279.1 40), .int x307, .int x364, .ref 137] _ _
                                have b370 : 0 ≤ (S289.1 30).toInt ∧ (S289.1 30).toInt ≤ 1001 := aw_bd_f hs (hI296).1 (by decide) rfl
                                have c371 : (S305.1 30).toInt = (S289.1 30).toInt := (congrArg Int32.toInt (fl310.1 30 (by decide)).1).trans rfl
                                have b372 : 0 ≤ (S305.1 30).toInt ∧ (S305.1 30).toInt ≤ 1001 := aw_bd_f hs (hI308).1 (by decide) rfl
                                refine aw_ks aj_d238 rfl rfl rfl [_, _, _] rfl rfl (Nat.le_of_ble_eq_true rfl) (aw_toK hU aw_Gs_sm (con := ac_c242) (by omega) (ar_242 hU.2.1 (aw_SPc hU.2.2 aw_Gs_sm) aw_kpc) ⟨(hI308).1, aw_sm_rf⟩ ⟨(cw_full _), (cw_full _), (cw_full _), trivial⟩ (fun e he => nomatch he)) ?_
                                rintro r373 S373 ⟨hr373, hJ373, fc373, po373, -⟩
                                have hT373 := hJ373.1
                                replace fc373 := aw_fr_sub (F' := []) (A' := []) (by decide) (by decide) fc373
                                have fr374 := aw_fr_tr fr309 (aw_fr_sub (F := []) (A := []) (by decide) (by decide) fc373)
                                have fl375 := aw_fr_tr fl310 (aw_fr_sub (F := []) (A := []) (by decide) (by decide) fc373)
                                have hI376 : aw_I s h (aw_sm S289) S373 := ⟨hT373, aw_sm_tr hI308.2 (aw_fr_sm (by decide) (by decide) (by decide) (F := []) (A := []) fc373)⟩
                                obtain ⟨b373, rfl, bb373⟩ := cw_rI hr373
                                show aw_W _ _ _ _ 149 lv306 [.int b373, .int x307, .int x364, .ref 137] _ _
                                refine aw_ks aj_d238 rfl rfl rfl [_, _, _, _] rfl rfl (Nat.le_of_ble_eq_true rfl) (ar_put hU (hI376).1 (by omega) (k := 20) (n := 1024) (by decide) (by decide) rfl rfl (a := x364.toInt) (b := x307.toInt) rfl rfl (by omega) (by omega) (by omega) (by decide)) ?_
                                rintro _ S377 ⟨hT377, fc377, rfl, pe377⟩
                                have fr378 := aw_fr_tr fr374 (aw_fr_sub (F := []) (A := [20]) (by decide) (by decide) fc377)
                                have fl379 := aw_fr_tr fl375 (aw_fr_sub (F := []) (A := [20]) (by decide) (by decide) fc377)
                                have hI380 : aw_I s h (aw_sm S289) S377 := ⟨hT377, aw_sm_tr hI376.2 (aw_fr_sm (by decide) (by decide) (by decide) (F := []) (A := [20]) fc377)⟩
                                show aw_W _ _ _ _ 152 lv306 [] _ _
                                refine aw_inc aj_d238 rfl hlv306_4 (a := x307.toInt) rfl (by omega) (by omega) (by decide) (by decide) (fun x381 ex381 => ?_)
                                obtain ⟨lv382, elv382⟩ : ∃ l, l = aj_set1 lv306 4 (.int x381) := ⟨_, rfl⟩
                                rw [← elv382]
                                have hlv382_0 : aj_lv lv382 0 = some (.ref 117) := cw_e1 elv382 hlv306_0 (by decide) (Or.inl (by decide))
                                have hlv382_1 : aj_lv lv382 1 = some (.int (S264.1 38)) := cw_e1 elv382 hlv306_1 (by decide) (Or.inl (by decide))
                                have hlv382_2 : aj_lv lv382 2 = some (.int (S264.1 39)) := cw_e1 elv382 hlv306_2 (by decide) (Or.inl (by decide))
                                have hlv382_3 : aj_lv lv382 3 = some (.int (S279.1 40)) := cw_e1 elv382 hlv306_3 (by decide) (Or.inr rfl)
                                have hlv382_4 : aj_lv lv382 4 = some (.int x381) := by rw [elv382]; exact ak_set1_eq _ _ _
                                show aw_W _ _ _ _ 155 lv382 [] _ _
                                refine aw_n aj_d238 rfl rfl ?_
                                exact ihL81_303 S377 lv382 (x381) hlv382_0 hlv382_1 hlv382_2 hlv382_3 hlv382_4 hI380 fr378 fl379 (by omega) (by first | omega | (simp only [] at *; omega))
                        exact L81_303 _ S289 lv303 ((Int32.ofInt 0)) hlv303_0 hlv303_1 hlv303_2 hlv303_3 hlv303_4 hI296 fr295 (aw_fr_rf : aw_fr [] [20] S289 S289) (by first | omega | decide) (Nat.lt_succ_self _)
                      · have q297 : (1 : Int) = (0 : Int) := aw_t_ne (a := (1 : Int)) (b := (0 : Int)) hb289 rfl q297
                        exfalso
                        omega
                  · have q287 : (1 : Int) = (0 : Int) := aw_t_ne (a := (1 : Int)) (b := (0 : Int)) hb279 rfl q287
                    exfalso
                    omega
              · have q272 : (1 : Int) = (0 : Int) := aw_t_ne (a := (1 : Int)) (b := (0 : Int)) hb264 rfl q272
                exfalso
                omega
          · have q263 : (1 : Int) = (0 : Int) := aw_t_ne (a := (1 : Int)) (b := (0 : Int)) hb261 rfl q263
            exfalso
            omega
        · skip
          have pb261 : ¬ (((S.1 26)).toInt = 3 ∧ ((S.1 29)).toInt = (63 : Int)) := pb261
          show aw_W _ _ _ _ 23 lv14 [.int b261] _ _
          refine aw_z (tgt := 36) aj_d238 rfl rfl (fun q383 => ?_) (fun q383 => ?_)
          · have q383 : (0 : Int) ≠ (0 : Int) := aw_t_ne (a := (0 : Int)) (b := (0 : Int)) hb261 rfl q383
            exfalso
            omega
          · have q383 : (0 : Int) = (0 : Int) := aw_t_ne (a := (0 : Int)) (b := (0 : Int)) hb261 rfl q383
            refine aw_l2 aj_d238 rfl rfl hlv14_0 ?_
            refine aw_n aj_d238 rfl rfl ?_
            refine aw_l2 aj_d238 rfl rfl hlv14_0 ?_
            have b384 : 0 ≤ (S.1 27).toInt ∧ (S.1 27).toInt ≤ 4000 := aw_bd_f hs (hI15).1 (by decide) rfl
            refine aw_g hU.1 aj_d238 rfl rfl (by decide) (v := .int (S.1 27)) rfl ?_
            refine aw_k hU.1 aj_d238 rfl rfl [_, _] rfl rfl rfl (Nat.le_of_ble_eq_true rfl) (ar_stop hU (hI15).1 (by omega) (a := (1 : Int)) rfl) ?_
            rintro _ S385 ⟨hT385, fc385, rfl, hz385⟩
            have hG385 := aw_G_stop hG fc385 (by omega)
            have fr386 := aw_fr_tr fr16 (aw_fr_sub (F := [24, 25, 31]) (A := []) (by decide) (by decide) fc385)
            have hI387 : aw_I s h (aw_sm S385) S385 := ⟨hT385, aw_sm_rf⟩
            show aw_W _ _ _ _ 35 lv14 [.int (Int32.ofInt 0)] _ _
            refine aw_e aj_d238 rfl rfl ?_
            have b388 : 0 ≤ (S.1 30).toInt ∧ (S.1 30).toInt ≤ 1001 := aw_bd_f hs (hI15).1 (by decide) rfl
            have c389 : (S385.1 30).toInt = (S.1 30).toInt := (congrArg Int32.toInt (fc385.1 30 (by decide)).1).trans rfl
            have b390 : 0 ≤ (S385.1 30).toInt ∧ (S385.1 30).toInt ≤ 1001 := aw_bd_f hs (hI387).1 (by decide) rfl
            exact ⟨(hI387).1, fr386, Or.inl ⟨_, rfl, rfl, hG385, (show _ ≤ ((S385.1 30)).toInt by omega)⟩⟩
theorem ar_isWaiting (hU : aw_U tb s h) (hT : ak_Ty ak_TN s (aj_mh h S)) (hd : 1 ≤ d) {c : Int32} : aw_K tb h d 243 [.ref 117, .int c] S (fun r S' => S' = S ∧ ∃ b : Int32, r = some (.int b) ∧ ((b.toInt = 1 ∧ 1 ≤ (S.1 43).toInt ∧ (S.2.2.1 22 ((S.1 43).toInt - 1).toNat).toInt = c.toInt) ∨ (b.toInt = 0 ∧ ¬ (1 ≤ (S.1 43).toInt ∧ (S.2.2.1 22 ((S.1 43).toInt - 1).toNat).toInt = c.toInt)))) := by
  obtain ⟨d, rfl⟩ : ∃ e, d = e + 1 := ⟨d - 1, by omega⟩
  have hs : aw_sT s := aw_hy_sT hU.2.2
  refine aw_m aj_m243_at rfl (Nat.le_of_ble_eq_true rfl) ?_
  show aw_W _ _ _ _ 0 [(0, .ref 117), (1, .int c)] [] _ _
  obtain ⟨lv391, elv391⟩ : ∃ l : aj_V, l = [(0, .ref 117), (1, .int c)] := ⟨_, rfl⟩
  rw [← elv391]
  have hlv391_0 : aj_lv lv391 0 = some (.ref 117) := by rw [elv391]; rfl
  have hlv391_1 : aj_lv lv391 1 = some (.int c) := by rw [elv391]; rfl
  have hI392 : aw_I s h (aw_sm S) S := ⟨hT, aw_sm_rf⟩
  have fr393 : aw_fr [] [] S S := aw_fr_rf
  refine aw_l2 aj_d243 rfl rfl hlv391_0 ?_
  have b394 : 0 ≤ (S.1 43).toInt ∧ (S.1 43).toInt ≤ 39 := aw_bd_f hs (hI392).1 (by decide) rfl
  refine aw_g hU.1 aj_d243 rfl rfl (by decide) (v := .int (S.1 43)) rfl ?_
  refine aw_z (tgt := 26) aj_d243 rfl rfl (fun q395 => ?_) (fun q395 => ?_)
  · have q395 : (S.1 43).toInt ≤ (0 : Int) := aw_t_le (a := (S.1 43).toInt) (b := (0 : Int)) rfl rfl q395
    refine aw_n aj_d243 rfl rfl ?_
    refine aw_e aj_d243 rfl rfl ?_
    refine ⟨rfl, _, rfl, Or.inr ⟨rfl, fun z => ?_⟩⟩
    omega
  · have q395 : (S.1 43).toInt > (0 : Int) := aw_t_le (a := (S.1 43).toInt) (b := (0 : Int)) rfl rfl q395
    refine aw_l2 aj_d243 rfl rfl hlv391_0 ?_
    refine aw_g hU.1 aj_d243 rfl rfl (by decide) (v := .ref 139) rfl ?_
    refine aw_l2 aj_d243 rfl rfl hlv391_0 ?_
    refine aw_g hU.1 aj_d243 rfl rfl (by decide) (v := .int (S.1 43)) rfl ?_
    refine aw_n aj_d243 rfl rfl ?_
    refine aw_sub aj_d243 rfl (a := (S.1 43).toInt) (b := (1 : Int)) rfl rfl (by omega) (by omega) (fun x396 ex396 => ?_)
    refine aw_ld (k := 22) hU.1 aj_d243 (Or.inl ⟨rfl, rfl⟩) rfl (by decide) (by decide) rfl (a := x396.toInt) rfl (by omega) (by omega) (fun x397 ex397 => ?_)
    refine aw_l0 aj_d243 rfl rfl hlv391_1 ?_
    refine aw_c (tgt := 26) aj_d243 rfl rfl (fun q398 => ?_) (fun q398 => ?_)
    · have q398 : x397.toInt ≠ c.toInt := aw_t_ne (a := x397.toInt) (b := c.toInt) rfl rfl q398
      refine aw_n aj_d243 rfl rfl ?_
      refine aw_e aj_d243 rfl rfl ?_
      refine ⟨rfl, _, rfl, Or.inr ⟨rfl, fun z => ?_⟩⟩
      have e7 := congrArg Int32.toInt ex397
      rw [show (x396.toInt).toNat = ((S.1 43).toInt - 1).toNat by omega] at e7
      have z2 := z.2
      rw [← e7] at z2
      omega
    · have q398 : x397.toInt = c.toInt := aw_t_ne (a := x397.toInt) (b := c.toInt) rfl rfl q398
      refine aw_n aj_d243 rfl rfl ?_
      refine aw_n aj_d243 rfl rfl ?_
      refine aw_e aj_d243 rfl rfl ?_
      refine ⟨rfl, _, rfl, Or.inl ⟨rfl, by omega, ?_⟩⟩
      have e7 := congrArg Int32.toInt ex397
      rw [show (x396.toInt).toNat = ((S.1 43).toInt - 1).toNat by omega] at e7
      exact e7.symm.trans (by omega)
theorem ar_reduce (hU : aw_U tb s h) (hT : ak_Ty ak_TN s (aj_mh h S)) (hd : 3 ≤ d) (h43 : 1 ≤ (S.1 43).toInt) (h1 : (S.2.2.1 22 ((S.1 43).toInt - 1).toNat).toInt = 33 → 1 ≤ (S.1 41).toInt ∧ 1 ≤ (S.1 44).toInt) (h2 : (S.2.2.1 22 ((S.1 43).toInt - 1).toNat).toInt ≠ 33 → 2 ≤ (S.1 44).toInt) : aw_K tb h d 244 [.ref 117] S (fun r S' => ak_Ty ak_TN s (aj_mh h S') ∧ aw_fr [41, 43, 44] [20] S S' ∧ r = none ∧ (S'.1 43).toInt = (S.1 43).toInt - 1 ∧ ((S.2.2.1 22 ((S.1 43).toInt - 1).toNat).toInt = 33 → (S'.1 41).toInt = (S.1 41).toInt - 1 ∧ (S'.1 44).toInt = (S.1 44).toInt) ∧ ((S.2.2.1 22 ((S.1 43).toInt - 1).toNat).toInt ≠ 33 → (S'.1 41).toInt = (S.1 41).toInt ∧ (S'.1 44).toInt = (S.1 44).toInt - 1)) := by
  obtain ⟨d, rfl⟩ : ∃ e, d = e + 1 := ⟨d - 1, by omega⟩
  have hs : aw_sT s := aw_hy_sT hU.2.2
  refine aw_m aj_m244_at rfl (Nat.le_of_ble_eq_true rfl) ?_
  show aw_W _ _ _ _ 0 [(0, .ref 117)] [] _ _
  obtain ⟨lv399, elv399⟩ : ∃ l : aj_V, l = [(0, .ref 117)] := ⟨_, rfl⟩
  rw [← elv399]
  have hlv399_0 : aj_lv lv399 0 = some (.ref 117) := by rw [elv399]; rfl
  have hI400 : aw_I s h (aw_sm S) S := ⟨hT, aw_sm_rf⟩
  have fr401 : aw_fr [41, 43, 44] [20] S S := aw_fr_rf
  refine aw_l2 aj_d244 rfl rfl hlv399_0 ?_
  refine aw_n aj_d244 rfl rfl ?_
  have b402 : 0 ≤ (S.1 43).toInt ∧ (S.1 43).toInt ≤ 39 := aw_bd_f hs (hI400).1 (by decide) rfl
  refine aw_g hU.1 aj_d244 rfl rfl (by decide) (v := .int (S.1 43)) rfl ?_
  refine aw_n aj_d244 rfl rfl ?_
  refine aw_sub aj_d244 rfl (a := (S.1 43).toInt) (b := (1 : Int)) rfl rfl (by omega) (by omega) (fun x403 ex403 => ?_)
  refine aw_p hU.1 aj_d244 rfl rfl (by decide) rfl ?_
  have hI404 := aw_I_f (aw_UV hU aw_Gs_sm) (k := 43) (v := x403) hI400 (by decide) (by decide) rfl (aw_bp (a := x403.toInt) rfl (by omega) (by omega))
  have fr405 := aw_fr_f (k := 43) (v := x403) (by decide) fr401
  refine aw_l2 aj_d244 rfl rfl hlv399_0 ?_
  refine aw_g hU.1 aj_d244 rfl rfl (by decide) (v := .ref 139) rfl ?_
  refine aw_l2 aj_d244 rfl rfl hlv399_0 ?_
  refine aw_g hU.1 aj_d244 rfl rfl (by decide) (v := .int x403) rfl ?_
  refine aw_ld (k := 22) hU.1 aj_d244 (Or.inl ⟨rfl, rfl⟩) rfl (by decide) (by decide) rfl (a := x403.toInt) rfl (by omega) (by omega) (fun x406 ex406 => ?_)
  have e19 : x406.toInt = (S.2.2.1 22 ((S.1 43).toInt - 1).toNat).toInt := by
    rw [ex406]
    show (S.2.2.1 22 (x403.toInt).toNat).toInt = _
    rw [show (x403.toInt).toNat = ((S.1 43).toInt - 1).toNat by omega]
  refine aw_t0 (j := 1) aj_d244 rfl (by decide) rfl ?_
  obtain ⟨lv407, elv407⟩ : ∃ l, l = aj_set1 lv399 1 (.int x406) := ⟨_, rfl⟩
  rw [← elv407]
  have hlv407_0 : aj_lv lv407 0 = some (.ref 117) := cw_e1 elv407 hlv399_0 (by decide) (Or.inr rfl)
  have hlv407_1 : aj_lv lv407 1 = some (.int x406) := by rw [elv407]; exact ak_set1_eq _ _ _
  show aw_W _ _ _ _ 20 lv407 [] _ _
  refine aw_l0 aj_d244 rfl rfl hlv407_1 ?_
  refine aw_n aj_d244 rfl rfl ?_
  refine aw_c (tgt := 47) aj_d244 rfl rfl (fun q408 => ?_) (fun q408 => ?_)
  · have q408 : x406.toInt ≠ (33 : Int) := aw_t_ne (a := x406.toInt) (b := (33 : Int)) rfl rfl q408
    refine aw_l2 aj_d244 rfl rfl hlv407_0 ?_
    refine aw_n aj_d244 rfl rfl ?_
    have b409 : 0 ≤ (S.1 44).toInt ∧ (S.1 44).toInt ≤ 31 := aw_bd_f hs (hI400).1 (by decide) rfl
    refine aw_g hU.1 aj_d244 rfl rfl (by decide) (v := .int (S.1 44)) rfl ?_
    refine aw_n aj_d244 rfl rfl ?_
    refine aw_sub aj_d244 rfl (a := (S.1 44).toInt) (b := (1 : Int)) rfl rfl (by omega) (by omega) (fun x410 ex410 => ?_)
    refine aw_p hU.1 aj_d244 rfl rfl (by decide) rfl ?_
    have hI411 := aw_I_f (aw_UV hU aw_Gs_sm) (k := 44) (v := x410) hI404 (by decide) (by decide) rfl (aw_bp (a := x410.toInt) rfl (by omega) (by omega))
    have fr412 := aw_fr_f (k := 44) (v := x410) (by decide) fr405
    refine aw_l2 aj_d244 rfl rfl hlv407_0 ?_
    refine aw_g hU.1 aj_d244 rfl rfl (by decide) (v := .int x410) rfl ?_
    refine aw_n aj_d244 rfl rfl ?_
    refine aw_sub aj_d244 rfl (a := x410.toInt) (b := (1 : Int)) rfl rfl (by omega) (by omega) (fun x413 ex413 => ?_)
    refine aw_n aj_d244 rfl rfl ?_
    refine aw_mul aj_d244 rfl (a := x413.toInt) (b := (32 : Int)) rfl rfl (by omega) (by omega) (fun x414 ex414 => ?_)
    refine aw_t0 (j := 2) aj_d244 rfl (by decide) rfl ?_
    obtain ⟨lv415, elv415⟩ : ∃ l, l = aj_set1 lv407 2 (.int x414) := ⟨_, rfl⟩
    rw [← elv415]
    have hlv415_0 : aj_lv lv415 0 = some (.ref 117) := cw_e1 elv415 hlv407_0 (by decide) (Or.inl (by decide))
    have hlv415_1 : aj_lv lv415 1 = some (.int x406) := cw_e1 elv415 hlv407_1 (by decide) (Or.inr rfl)
    have hlv415_2 : aj_lv lv415 2 = some (.int x414) := by rw [elv415]; exact ak_set1_eq _ _ _
    show aw_W _ _ _ _ 67 lv415 [] _ _
    refine aw_l2 aj_d244 rfl rfl hlv415_0 ?_
    refine aw_g hU.1 aj_d244 rfl rfl (by decide) (v := .int x410) rfl ?_
    refine aw_n aj_d244 rfl rfl ?_
    refine aw_mul aj_d244 rfl (a := x410.toInt) (b := (32 : Int)) rfl rfl (by omega) (by omega) (fun x416 ex416 => ?_)
    refine aw_t0 (j := 3) aj_d244 rfl (by decide) rfl ?_
    obtain ⟨lv417, elv417⟩ : ∃ l, l = aj_set1 lv415 3 (.int x416) := ⟨_, rfl⟩
    rw [← elv417]
    have hlv417_0 : aj_lv lv417 0 = some (.ref 117) := cw_e1 elv417 hlv415_0 (by decide) (Or.inl (by decide))
    have hlv417_1 : aj_lv lv417 1 = some (.int x406) := cw_e1 elv417 hlv415_1 (by decide) (Or.inl (by decide))
    have hlv417_2 : aj_lv lv417 2 = some (.int x414) := cw_e1 elv417 hlv415_2 (by decide) (Or.inr rfl)
    have hlv417_3 : aj_lv lv417 3 = some (.int x416) := by rw [elv417]; exact ak_set1_eq _ _ _
    show aw_W _ _ _ _ 75 lv417 [] _ _
    refine aw_n aj_d244 rfl rfl ?_
    refine aw_t0 (j := 4) aj_d244 rfl (by decide) rfl ?_
    obtain ⟨lv418, elv418⟩ : ∃ l, l = aj_set1 lv417 4 (.int (Int32.ofInt 0)) := ⟨_, rfl⟩
    rw [← elv418]
    have hlv418_0 : aj_lv lv418 0 = some (.ref 117) := cw_e1 elv418 hlv417_0 (by decide) (Or.inl (by decide))
    have hlv418_1 : aj_lv lv418 1 = some (.int x406) := cw_e1 elv418 hlv417_1 (by decide) (Or.inl (by decide))
    have hlv418_2 : aj_lv lv418 2 = some (.int x414) := cw_e1 elv418 hlv417_2 (by decide) (Or.inl (by decide))
    have hlv418_3 : aj_lv lv418 3 = some (.int x416) := cw_e1 elv418 hlv417_3 (by decide) (Or.inr rfl)
    have hlv418_4 : aj_lv lv418 4 = some (.int (Int32.ofInt 0)) := by rw [elv418]; exact ak_set1_eq _ _ _
    show aw_W _ _ _ _ 78 lv418 [] _ _
    have L78_418 : ∀ (N : Nat) (S420 : aj_S) (lv421 : aj_V) (x422 : Int32), (aj_lv lv421 0 = some (.ref 117)) → (aj_lv lv421 1 = some (.int x406)) → (aj_lv lv421 2 = some (.int x414)) → (aj_lv lv421 3 = some (.int x416)) → (aj_lv lv421 4 = some (.int x422)) → (aw_I s h (aw_sm S) S420) → (aw_fr [41, 43, 44] [20] S S420) → (aw_fr [] [20] (aw_wf (aw_wf S 43 x403) 44 x410) S420) → (0 ≤ x422.toInt ∧ x422.toInt ≤ 1024) → (1024 - x422.toInt).toNat < N → aw_W tb h d aj_m244 78 lv421 [] S420 ((fun r S' => ak_Ty ak_TN s (aj_mh h S') ∧ aw_fr [41, 43, 44] [20] S S' ∧ r = none ∧ (S'.1 43).toInt = (S.1 43).toInt - 1 ∧ ((S.2.2.1 22 ((S.1 43).toInt - 1).toNat).toInt = 33 → (S'.1 41).toInt = (S.1 41).toInt - 1 ∧ (S'.1 44).toInt = (S.1 44).toInt) ∧ ((S.2.2.1 22 ((S.1 43).toInt - 1).toNat).toInt ≠ 33 → (S'.1 41).toInt = (S.1 41).toInt ∧ (S'.1 44).toInt = (S.1 44).toInt - 1))) := by
      intro N
      induction N with
      | zero =>
        intro S420 lv421 x422 hlv421_0 hlv421_1 hlv421_2 hlv421_3 hlv421_4 hI423 fr424 fl425 bx422 hm
        omega
      | succ N ihL78_418 =>
        intro S420 lv421 x422 hlv421_0 hlv421_1 hlv421_2 hlv421_3 hlv421_4 hI423 fr424 fl425 bx422 hm
        refine aw_l2 aj_d244 rfl rfl hlv421_0 ?_
        have b426 : 0 ≤ (S.1 32).toInt ∧ (S.1 32).toInt ≤ 1 := aw_bd_f hs (hI400).1 (by decide) rfl
        have c427 : (S420.1 32).toInt = (S.1 32).toInt := (congrArg Int32.toInt (fl425.1 32 (by decide)).1).trans rfl
        have b428 : 0 ≤ (S420.1 32).toInt ∧ (S420.1 32).toInt ≤ 1 := aw_bd_f hs (hI423).1 (by decide) rfl
        refine aw_g hU.1 aj_d244 rfl rfl (by decide) (v := .int (S420.1 32)) rfl ?_
        refine aw_z (tgt := 178) aj_d244 rfl rfl (fun q429 => ?_) (fun q429 => ?_)
        · have q429 : (S.1 32).toInt = (0 : Int) := aw_t_eq (a := (S.1 32).toInt) (b := (0 : Int)) c427 rfl q429
          refine aw_e aj_d244 rfl rfl ?_
          have c430 : (S420.1 43).toInt = x403.toInt := (congrArg Int32.toInt (fl425.1 43 (by decide)).1).trans rfl
          have b431 : 0 ≤ (S420.1 43).toInt ∧ (S420.1 43).toInt ≤ 39 := aw_bd_f hs (hI423).1 (by decide) rfl
          have c432 : (S420.1 44).toInt = x410.toInt := (congrArg Int32.toInt (fl425.1 44 (by decide)).1).trans rfl
          have b433 : 0 ≤ (S420.1 44).toInt ∧ (S420.1 44).toInt ≤ 31 := aw_bd_f hs (hI423).1 (by decide) rfl
          have b434 : 0 ≤ (S.1 41).toInt ∧ (S.1 41).toInt ≤ 8 := aw_bd_f hs (hI400).1 (by decide) rfl
          have c435 : (S420.1 41).toInt = (S.1 41).toInt := (congrArg Int32.toInt (fl425.1 41 (by decide)).1).trans rfl
          have b436 : 0 ≤ (S420.1 41).toInt ∧ (S420.1 41).toInt ≤ 8 := aw_bd_f hs (hI423).1 (by decide) rfl
          exact ⟨(hI423).1, fr424, rfl, (show ((S420.1 43)).toInt = _ by omega), (show _ → ((S420.1 41)).toInt = _ ∧ ((S420.1 44)).toInt = _ by omega), (show _ → ((S420.1 41)).toInt = _ ∧ ((S420.1 44)).toInt = _ by omega)⟩
        · have q429 : (S.1 32).toInt ≠ (0 : Int) := aw_t_eq (a := (S.1 32).toInt) (b := (0 : Int)) c427 rfl q429
          refine aw_l0 aj_d244 rfl rfl hlv421_4 ?_
          refine aw_l2 aj_d244 rfl rfl hlv421_0 ?_
          refine aw_g hU.1 aj_d244 rfl rfl (by decide) (v := .ref 122) rfl ?_
          refine aw_l2 aj_d244 rfl rfl hlv421_0 ?_
          have b437 : 0 ≤ (S.1 37).toInt ∧ (S.1 37).toInt ≤ 1 := aw_bd_f hs (hI400).1 (by decide) rfl
          have c438 : (S420.1 37).toInt = (S.1 37).toInt := (congrArg Int32.toInt (fl425.1 37 (by decide)).1).trans rfl
          have b439 : 0 ≤ (S420.1 37).toInt ∧ (S420.1 37).toInt ≤ 1 := aw_bd_f hs (hI423).1 (by decide) rfl
          refine aw_g hU.1 aj_d244 rfl rfl (by decide) (v := .int (S420.1 37)) rfl ?_
          refine aw_ld (k := 5) hU.1 aj_d244 (Or.inl ⟨rfl, rfl⟩) rfl (by decide) (by decide) rfl (a := (S.1 37).toInt) c438 (by omega) (by omega) (fun x440 ex440 => ?_)
          have bx440 : 0 ≤ x440.toInt ∧ x440.toInt ≤ 1024 := by
            rw [ex440]
            exact aw_bd_a hs (hI423).1 (k := 5) (by decide) (by decide) rfl (by decide) rfl (by omega)
          refine aw_c (tgt := 178) aj_d244 rfl rfl (fun q441 => ?_) (fun q441 => ?_)
          · have q441 : x422.toInt ≥ x440.toInt := aw_t_ge (a := x422.toInt) (b := x440.toInt) rfl rfl q441
            refine aw_e aj_d244 rfl rfl ?_
            have c442 : (S420.1 43).toInt = x403.toInt := (congrArg Int32.toInt (fl425.1 43 (by decide)).1).trans rfl
            have b443 : 0 ≤ (S420.1 43).toInt ∧ (S420.1 43).toInt ≤ 39 := aw_bd_f hs (hI423).1 (by decide) rfl
            have c444 : (S420.1 44).toInt = x410.toInt := (congrArg Int32.toInt (fl425.1 44 (by decide)).1).trans rfl
            have b445 : 0 ≤ (S420.1 44).toInt ∧ (S420.1 44).toInt ≤ 31 := aw_bd_f hs (hI423).1 (by decide) rfl
            have b446 : 0 ≤ (S.1 41).toInt ∧ (S.1 41).toInt ≤ 8 := aw_bd_f hs (hI400).1 (by decide) rfl
            have c447 : (S420.1 41).toInt = (S.1 41).toInt := (congrArg Int32.toInt (fl425.1 41 (by decide)).1).trans rfl
            have b448 : 0 ≤ (S420.1 41).toInt ∧ (S420.1 41).toInt ≤ 8 := aw_bd_f hs (hI423).1 (by decide) rfl
            exact ⟨(hI423).1, fr424, rfl, (show ((S420.1 43)).toInt = _ by omega), (show _ → ((S420.1 41)).toInt = _ ∧ ((S420.1 44)).toInt = _ by omega), (show _ → ((S420.1 41)).toInt = _ ∧ ((S420.1 44)).toInt = _ by omega)⟩
          · have q441 : x422.toInt < x440.toInt := aw_t_ge (a := x422.toInt) (b := x440.toInt) rfl rfl q441
            refine aw_l2 aj_d244 rfl rfl hlv421_0 ?_
            refine aw_g hU.1 aj_d244 rfl rfl (by decide) (v := .ref 137) rfl ?_
            refine aw_l0 aj_d244 rfl rfl hlv421_2 ?_
            refine aw_l0 aj_d244 rfl rfl hlv421_4 ?_
            refine aw_ks aj_d244 rfl rfl rfl [_, _, _] rfl rfl (Nat.le_of_ble_eq_true rfl) (ar_bit hU (by omega) (k := 20) (n := 1024) (by decide) (by decide) rfl (a := x414.toInt) (b := x422.toInt) rfl rfl (by omega) (by omega) (by omega) (by decide)) ?_
            rintro _ zx449 ⟨fx449, x449, rfl, hx449, ex449⟩
            rw [fx449]
            show aw_W _ _ _ _ 109 lv421 [.int x449] _ _
            refine aw_t0 (j := 5) aj_d244 rfl (by decide) rfl ?_
            obtain ⟨lv450, elv450⟩ : ∃ l, l = aj_set1 lv421 5 (.int x449) := ⟨_, rfl⟩
            rw [← elv450]
            have hlv450_0 : aj_lv lv450 0 = some (.ref 117) := cw_e1 elv450 hlv421_0 (by decide) (Or.inl (by decide))
            have hlv450_1 : aj_lv lv450 1 = some (.int x406) := cw_e1 elv450 hlv421_1 (by decide) (Or.inl (by decide))
            have hlv450_2 : aj_lv lv450 2 = some (.int x414) := cw_e1 elv450 hlv421_2 (by decide) (Or.inl (by decide))
            have hlv450_3 : aj_lv lv450 3 = some (.int x416) := cw_e1 elv450 hlv421_3 (by decide) (Or.inl (by decide))
            have hlv450_4 : aj_lv lv450 4 = some (.int x422) := cw_e1 elv450 hlv421_4 (by decide) (Or.inr rfl)
            have hlv450_5 : aj_lv lv450 5 = some (.int x449) := by rw [elv450]; exact ak_set1_eq _ _ _
            show aw_W _ _ _ _ 111 lv450 [] _ _
            refine aw_l2 aj_d244 rfl rfl hlv450_0 ?_
            refine aw_g hU.1 aj_d244 rfl rfl (by decide) (v := .ref 137) rfl ?_
            refine aw_l0 aj_d244 rfl rfl hlv450_3 ?_
            refine aw_l0 aj_d244 rfl rfl hlv450_4 ?_
            refine aw_ks aj_d244 rfl rfl rfl [_, _, _] rfl rfl (Nat.le_of_ble_eq_true rfl) (ar_bit hU (by omega) (k := 20) (n := 1024) (by decide) (by decide) rfl (a := x416.toInt) (b := x422.toInt) rfl rfl (by omega) (by omega) (by omega) (by decide)) ?_
            rintro _ zx451 ⟨fx451, x451, rfl, hx451, ex451⟩
            rw [fx451]
            show aw_W _ _ _ _ 121 lv450 [.int x451] _ _
            refine aw_t0 (j := 6) aj_d244 rfl (by decide) rfl ?_
            obtain ⟨lv452, elv452⟩ : ∃ l, l = aj_set1 lv450 6 (.int x451) := ⟨_, rfl⟩
            rw [← elv452]
            have hlv452_0 : aj_lv lv452 0 = some (.ref 117) := cw_e1 elv452 hlv450_0 (by decide) (Or.inl (by decide))
            have hlv452_1 : aj_lv lv452 1 = some (.int x406) := cw_e1 elv452 hlv450_1 (by decide) (Or.inl (by decide))
            have hlv452_2 : aj_lv lv452 2 = some (.int x414) := cw_e1 elv452 hlv450_2 (by decide) (Or.inl (by decide))
            have hlv452_3 : aj_lv lv452 3 = some (.int x416) := cw_e1 elv452 hlv450_3 (by decide) (Or.inl (by decide))
            have hlv452_4 : aj_lv lv452 4 = some (.int x422) := cw_e1 elv452 hlv450_4 (by decide) (Or.inl (by decide))
            have hlv452_5 : aj_lv lv452 5 = some (.int x449) := cw_e1 elv452 hlv450_5 (by decide) (Or.inr rfl)
            have hlv452_6 : aj_lv lv452 6 = some (.int x451) := by rw [elv452]; exact ak_set1_eq _ _ _
            show aw_W _ _ _ _ 123 lv452 [] _ _
            refine aw_l2 aj_d244 rfl rfl hlv452_0 ?_
            refine aw_g hU.1 aj_d244 rfl rfl (by decide) (v := .ref 137) rfl ?_
            refine aw_l0 aj_d244 rfl rfl hlv452_2 ?_
            refine aw_l0 aj_d244 rfl rfl hlv452_4 ?_
            refine aw_l0 aj_d244 rfl rfl hlv452_1 ?_
            refine aw_n aj_d244 rfl rfl ?_
            refine aw_c (tgt := 154) aj_d244 rfl rfl (fun q453 => ?_) (fun q453 => ?_)
            · have q453 : x406.toInt ≠ (124 : Int) := aw_t_ne (a := x406.toInt) (b := (124 : Int)) rfl rfl q453
              refine aw_l0 aj_d244 rfl rfl hlv452_5 ?_
              refine aw_z (tgt := 168) aj_d244 rfl rfl (fun q454 => ?_) (fun q454 => ?_)
              · have q454 : x449.toInt = (0 : Int) := aw_t_eq (a := x449.toInt) (b := (0 : Int)) rfl rfl q454
                refine aw_n aj_d244 rfl rfl ?_
                refine aw_ks aj_d244 rfl rfl rfl [_, _, _, _] rfl rfl (Nat.le_of_ble_eq_true rfl) (ar_put hU (hI423).1 (by omega) (k := 20) (n := 1024) (by decide) (by decide) rfl rfl (a := x414.toInt) (b := x422.toInt) rfl rfl (by omega) (by omega) (by omega) (by decide)) ?_
                rintro _ S455 ⟨hT455, fc455, rfl, pe455⟩
                have fr456 := aw_fr_tr fr424 (aw_fr_sub (F := []) (A := [20]) (by decide) (by decide) fc455)
                have fl457 := aw_fr_tr fl425 (aw_fr_sub (F := []) (A := [20]) (by decide) (by decide) fc455)
                have hI458 : aw_I s h (aw_sm S) S455 := ⟨hT455, aw_sm_tr hI423.2 (aw_fr_sm (by decide) (by decide) (by decide) (F := []) (A := [20]) fc455)⟩
                show aw_W _ _ _ _ 172 lv452 [] _ _
                refine aw_inc aj_d244 rfl hlv452_4 (a := x422.toInt) rfl (by omega) (by omega) (by decide) (by decide) (fun x459 ex459 => ?_)
                obtain ⟨lv460, elv460⟩ : ∃ l, l = aj_set1 lv452 4 (.int x459) := ⟨_, rfl⟩
                rw [← elv460]
                have hlv460_0 : aj_lv lv460 0 = some (.ref 117) := cw_e1 elv460 hlv452_0 (by decide) (Or.inl (by decide))
                have hlv460_1 : aj_lv lv460 1 = some (.int x406) := cw_e1 elv460 hlv452_1 (by decide) (Or.inl (by decide))
                have hlv460_2 : aj_lv lv460 2 = some (.int x414) := cw_e1 elv460 hlv452_2 (by decide) (Or.inl (by decide))
                have hlv460_3 : aj_lv lv460 3 = some (.int x416) := cw_e1 elv460 hlv452_3 (by decide) (Or.inr rfl)
                have hlv460_4 : aj_lv lv460 4 = some (.int x459) := by rw [elv460]; exact ak_set1_eq _ _ _
                show aw_W _ _ _ _ 175 lv460 [] _ _
                refine aw_n aj_d244 rfl rfl ?_
                exact ihL78_418 S455 lv460 (x459) hlv460_0 hlv460_1 hlv460_2 hlv460_3 hlv460_4 hI458 fr456 fl457 (by omega) (by first | omega | (simp only [] at *; omega))
              · have q454 : x449.toInt ≠ (0 : Int) := aw_t_eq (a := x449.toInt) (b := (0 : Int)) rfl rfl q454
                refine aw_l0 aj_d244 rfl rfl hlv452_6 ?_
                refine aw_z (tgt := 168) aj_d244 rfl rfl (fun q461 => ?_) (fun q461 => ?_)
                · have q461 : x451.toInt = (0 : Int) := aw_t_eq (a := x451.toInt) (b := (0 : Int)) rfl rfl q461
                  refine aw_n aj_d244 rfl rfl ?_
                  refine aw_ks aj_d244 rfl rfl rfl [_, _, _, _] rfl rfl (Nat.le_of_ble_eq_true rfl) (ar_put hU (hI423).1 (by omega) (k := 20) (n := 1024) (by decide) (by decide) rfl rfl (a := x414.toInt) (b := x422.toInt) rfl rfl (by omega) (by omega) (by omega) (by decide)) ?_
                  rintro _ S462 ⟨hT462, fc462, rfl, pe462⟩
                  have fr463 := aw_fr_tr fr424 (aw_fr_sub (F := []) (A := [20]) (by decide) (by decide) fc462)
                  have fl464 := aw_fr_tr fl425 (aw_fr_sub (F := []) (A := [20]) (by decide) (by decide) fc462)
                  have hI465 : aw_I s h (aw_sm S) S462 := ⟨hT462, aw_sm_tr hI423.2 (aw_fr_sm (by decide) (by decide) (by decide) (F := []) (A := [20]) fc462)⟩
                  show aw_W _ _ _ _ 172 lv452 [] _ _
                  refine aw_inc aj_d244 rfl hlv452_4 (a := x422.toInt) rfl (by omega) (by omega) (by decide) (by decide) (fun x466 ex466 => ?_)
                  obtain ⟨lv467, elv467⟩ : ∃ l, l = aj_set1 lv452 4 (.int x466) := ⟨_, rfl⟩
                  rw [← elv467]
                  have hlv467_0 : aj_lv lv467 0 = some (.ref 117) := cw_e1 elv467 hlv452_0 (by decide) (Or.inl (by decide))
                  have hlv467_1 : aj_lv lv467 1 = some (.int x406) := cw_e1 elv467 hlv452_1 (by decide) (Or.inl (by decide))
                  have hlv467_2 : aj_lv lv467 2 = some (.int x414) := cw_e1 elv467 hlv452_2 (by decide) (Or.inl (by decide))
                  have hlv467_3 : aj_lv lv467 3 = some (.int x416) := cw_e1 elv467 hlv452_3 (by decide) (Or.inr rfl)
                  have hlv467_4 : aj_lv lv467 4 = some (.int x466) := by rw [elv467]; exact ak_set1_eq _ _ _
                  show aw_W _ _ _ _ 175 lv467 [] _ _
                  refine aw_n aj_d244 rfl rfl ?_
                  exact ihL78_418 S462 lv467 (x466) hlv467_0 hlv467_1 hlv467_2 hlv467_3 hlv467_4 hI465 fr463 fl464 (by omega) (by first | omega | (simp only [] at *; omega))
                · have q461 : x451.toInt ≠ (0 : Int) := aw_t_eq (a := x451.toInt) (b := (0 : Int)) rfl rfl q461
                  refine aw_n aj_d244 rfl rfl ?_
                  refine aw_n aj_d244 rfl rfl ?_
                  refine aw_ks aj_d244 rfl rfl rfl [_, _, _, _] rfl rfl (Nat.le_of_ble_eq_true rfl) (ar_put hU (hI423).1 (by omega) (k := 20) (n := 1024) (by decide) (by decide) rfl rfl (a := x414.toInt) (b := x422.toInt) rfl rfl (by omega) (by omega) (by omega) (by decide)) ?_
                  rintro _ S468 ⟨hT468, fc468, rfl, pe468⟩
                  have fr469 := aw_fr_tr fr424 (aw_fr_sub (F := []) (A := [20]) (by decide) (by decide) fc468)
                  have fl470 := aw_fr_tr fl425 (aw_fr_sub (F := []) (A := [20]) (by decide) (by decide) fc468)
                  have hI471 : aw_I s h (aw_sm S) S468 := ⟨hT468, aw_sm_tr hI423.2 (aw_fr_sm (by decide) (by decide) (by decide) (F := []) (A := [20]) fc468)⟩
                  show aw_W _ _ _ _ 172 lv452 [] _ _
                  refine aw_inc aj_d244 rfl hlv452_4 (a := x422.toInt) rfl (by omega) (by omega) (by decide) (by decide) (fun x472 ex472 => ?_)
                  obtain ⟨lv473, elv473⟩ : ∃ l, l = aj_set1 lv452 4 (.int x472) := ⟨_, rfl⟩
                  rw [← elv473]
                  have hlv473_0 : aj_lv lv473 0 = some (.ref 117) := cw_e1 elv473 hlv452_0 (by decide) (Or.inl (by decide))
                  have hlv473_1 : aj_lv lv473 1 = some (.int x406) := cw_e1 elv473 hlv452_1 (by decide) (Or.inl (by decide))
                  have hlv473_2 : aj_lv lv473 2 = some (.int x414) := cw_e1 elv473 hlv452_2 (by decide) (Or.inl (by decide))
                  have hlv473_3 : aj_lv lv473 3 = some (.int x416) := cw_e1 elv473 hlv452_3 (by decide) (Or.inr rfl)
                  have hlv473_4 : aj_lv lv473 4 = some (.int x472) := by rw [elv473]; exact ak_set1_eq _ _ _
                  show aw_W _ _ _ _ 175 lv473 [] _ _
                  refine aw_n aj_d244 rfl rfl ?_
                  exact ihL78_418 S468 lv473 (x472) hlv473_0 hlv473_1 hlv473_2 hlv473_3 hlv473_4 hI471 fr469 fl470 (by omega) (by first | omega | (simp only [] at *; omega))
            · have q453 : x406.toInt = (124 : Int) := aw_t_ne (a := x406.toInt) (b := (124 : Int)) rfl rfl q453
              refine aw_l0 aj_d244 rfl rfl hlv452_5 ?_
              refine aw_z (tgt := 146) aj_d244 rfl rfl (fun q474 => ?_) (fun q474 => ?_)
              · have q474 : x449.toInt ≠ (0 : Int) := aw_t_ne (a := x449.toInt) (b := (0 : Int)) rfl rfl q474
                refine aw_n aj_d244 rfl rfl ?_
                refine aw_n aj_d244 rfl rfl ?_
                refine aw_ks aj_d244 rfl rfl rfl [_, _, _, _] rfl rfl (Nat.le_of_ble_eq_true rfl) (ar_put hU (hI423).1 (by omega) (k := 20) (n := 1024) (by decide) (by decide) rfl rfl (a := x414.toInt) (b := x422.toInt) rfl rfl (by omega) (by omega) (by omega) (by decide)) ?_
                rintro _ S475 ⟨hT475, fc475, rfl, pe475⟩
                have fr476 := aw_fr_tr fr424 (aw_fr_sub (F := []) (A := [20]) (by decide) (by decide) fc475)
                have fl477 := aw_fr_tr fl425 (aw_fr_sub (F := []) (A := [20]) (by decide) (by decide) fc475)
                have hI478 : aw_I s h (aw_sm S) S475 := ⟨hT475, aw_sm_tr hI423.2 (aw_fr_sm (by decide) (by decide) (by decide) (F := []) (A := [20]) fc475)⟩
                show aw_W _ _ _ _ 172 lv452 [] _ _
                refine aw_inc aj_d244 rfl hlv452_4 (a := x422.toInt) rfl (by omega) (by omega) (by decide) (by decide) (fun x479 ex479 => ?_)
                obtain ⟨lv480, elv480⟩ : ∃ l, l = aj_set1 lv452 4 (.int x479) := ⟨_, rfl⟩
                rw [← elv480]
                have hlv480_0 : aj_lv lv480 0 = some (.ref 117) := cw_e1 elv480 hlv452_0 (by decide) (Or.inl (by decide))
                have hlv480_1 : aj_lv lv480 1 = some (.int x406) := cw_e1 elv480 hlv452_1 (by decide) (Or.inl (by decide))
                have hlv480_2 : aj_lv lv480 2 = some (.int x414) := cw_e1 elv480 hlv452_2 (by decide) (Or.inl (by decide))
                have hlv480_3 : aj_lv lv480 3 = some (.int x416) := cw_e1 elv480 hlv452_3 (by decide) (Or.inr rfl)
                have hlv480_4 : aj_lv lv480 4 = some (.int x479) := by rw [elv480]; exact ak_set1_eq _ _ _
                show aw_W _ _ _ _ 175 lv480 [] _ _
                refine aw_n aj_d244 rfl rfl ?_
                exact ihL78_418 S475 lv480 (x479) hlv480_0 hlv480_1 hlv480_2 hlv480_3 hlv480_4 hI478 fr476 fl477 (by omega) (by first | omega | (simp only [] at *; omega))
              · have q474 : x449.toInt = (0 : Int) := aw_t_ne (a := x449.toInt) (b := (0 : Int)) rfl rfl q474
                refine aw_l0 aj_d244 rfl rfl hlv452_6 ?_
                refine aw_z (tgt := 150) aj_d244 rfl rfl (fun q481 => ?_) (fun q481 => ?_)
                · have q481 : x451.toInt = (0 : Int) := aw_t_eq (a := x451.toInt) (b := (0 : Int)) rfl rfl q481
                  refine aw_n aj_d244 rfl rfl ?_
                  refine aw_n aj_d244 rfl rfl ?_
                  refine aw_ks aj_d244 rfl rfl rfl [_, _, _, _] rfl rfl (Nat.le_of_ble_eq_true rfl) (ar_put hU (hI423).1 (by omega) (k := 20) (n := 1024) (by decide) (by decide) rfl rfl (a := x414.toInt) (b := x422.toInt) rfl rfl (by omega) (by omega) (by omega) (by decide)) ?_
                  rintro _ S482 ⟨hT482, fc482, rfl, pe482⟩
                  have fr483 := aw_fr_tr fr424 (aw_fr_sub (F := []) (A := [20]) (by decide) (by decide) fc482)
                  have fl484 := aw_fr_tr fl425 (aw_fr_sub (F := []) (A := [20]) (by decide) (by decide) fc482)
                  have hI485 : aw_I s h (aw_sm S) S482 := ⟨hT482, aw_sm_tr hI423.2 (aw_fr_sm (by decide) (by decide) (by decide) (F := []) (A := [20]) fc482)⟩
                  show aw_W _ _ _ _ 172 lv452 [] _ _
                  refine aw_inc aj_d244 rfl hlv452_4 (a := x422.toInt) rfl (by omega) (by omega) (by decide) (by decide) (fun x486 ex486 => ?_)
                  obtain ⟨lv487, elv487⟩ : ∃ l, l = aj_set1 lv452 4 (.int x486) := ⟨_, rfl⟩
                  rw [← elv487]
                  have hlv487_0 : aj_lv lv487 0 = some (.ref 117) := cw_e1 elv487 hlv452_0 (by decide) (Or.inl (by decide))
                  have hlv487_1 : aj_lv lv487 1 = some (.int x406) := cw_e1 elv487 hlv452_1 (by decide) (Or.inl (by decide))
                  have hlv487_2 : aj_lv lv487 2 = some (.int x414) := cw_e1 elv487 hlv452_2 (by decide) (Or.inl (by decide))
                  have hlv487_3 : aj_lv lv487 3 = some (.int x416) := cw_e1 elv487 hlv452_3 (by decide) (Or.inr rfl)
                  have hlv487_4 : aj_lv lv487 4 = some (.int x486) := by rw [elv487]; exact ak_set1_eq _ _ _
                  show aw_W _ _ _ _ 175 lv487 [] _ _
                  refine aw_n aj_d244 rfl rfl ?_
                  exact ihL78_418 S482 lv487 (x486) hlv487_0 hlv487_1 hlv487_2 hlv487_3 hlv487_4 hI485 fr483 fl484 (by omega) (by first | omega | (simp only [] at *; omega))
                · have q481 : x451.toInt ≠ (0 : Int) := aw_t_eq (a := x451.toInt) (b := (0 : Int)) rfl rfl q481
                  refine aw_n aj_d244 rfl rfl ?_
                  refine aw_n aj_d244 rfl rfl ?_
                  refine aw_ks aj_d244 rfl rfl rfl [_, _, _, _] rfl rfl (Nat.le_of_ble_eq_true rfl) (ar_put hU (hI423).1 (by omega) (k := 20) (n := 1024) (by decide) (by decide) rfl rfl (a := x414.toInt) (b := x422.toInt) rfl rfl (by omega) (by omega) (by omega) (by decide)) ?_
                  rintro _ S488 ⟨hT488, fc488, rfl, pe488⟩
                  have fr489 := aw_fr_tr fr424 (aw_fr_sub (F := []) (A := [20]) (by decide) (by decide) fc488)
                  have fl490 := aw_fr_tr fl425 (aw_fr_sub (F := []) (A := [20]) (by decide) (by decide) fc488)
                  have hI491 : aw_I s h (aw_sm S) S488 := ⟨hT488, aw_sm_tr hI423.2 (aw_fr_sm (by decide) (by decide) (by decide) (F := []) (A := [20]) fc488)⟩
                  show aw_W _ _ _ _ 172 lv452 [] _ _
                  refine aw_inc aj_d244 rfl hlv452_4 (a := x422.toInt) rfl (by omega) (by omega) (by decide) (by decide) (fun x492 ex492 => ?_)
                  obtain ⟨lv493, elv493⟩ : ∃ l, l = aj_set1 lv452 4 (.int x492) := ⟨_, rfl⟩
                  rw [← elv493]
                  have hlv493_0 : aj_lv lv493 0 = some (.ref 117) := cw_e1 elv493 hlv452_0 (by decide) (Or.inl (by decide))
                  have hlv493_1 : aj_lv lv493 1 = some (.int x406) := cw_e1 elv493 hlv452_1 (by decide) (Or.inl (by decide))
                  have hlv493_2 : aj_lv lv493 2 = some (.int x414) := cw_e1 elv493 hlv452_2 (by decide) (Or.inl (by decide))
                  have hlv493_3 : aj_lv lv493 3 = some (.int x416) := cw_e1 elv493 hlv452_3 (by decide) (Or.inr rfl)
                  have hlv493_4 : aj_lv lv493 4 = some (.int x492) := by rw [elv493]; exact ak_set1_eq _ _ _
                  show aw_W _ _ _ _ 175 lv493 [] _ _
                  refine aw_n aj_d244 rfl rfl ?_
                  exact ihL78_418 S488 lv493 (x492) hlv493_0 hlv493_1 hlv493_2 hlv493_3 hlv493_4 hI491 fr489 fl490 (by omega) (by first | omega | (simp only [] at *; omega))
    exact L78_418 _ (aw_wf (aw_wf S 43 x403) 44 x410) lv418 ((Int32.ofInt 0)) hlv418_0 hlv418_1 hlv418_2 hlv418_3 hlv418_4 hI411 fr412 (aw_fr_rf : aw_fr [] [20] (aw_wf (aw_wf S 43 x403) 44 x410) (aw_wf (aw_wf S 43 x403) 44 x410)) (by first | omega | decide) (Nat.lt_succ_self _)
  · have q408 : x406.toInt = (33 : Int) := aw_t_ne (a := x406.toInt) (b := (33 : Int)) rfl rfl q408
    refine aw_l2 aj_d244 rfl rfl hlv407_0 ?_
    refine aw_n aj_d244 rfl rfl ?_
    have b494 : 0 ≤ (S.1 41).toInt ∧ (S.1 41).toInt ≤ 8 := aw_bd_f hs (hI400).1 (by decide) rfl
    refine aw_g hU.1 aj_d244 rfl rfl (by decide) (v := .int (S.1 41)) rfl ?_
    refine aw_n aj_d244 rfl rfl ?_
    refine aw_sub aj_d244 rfl (a := (S.1 41).toInt) (b := (1 : Int)) rfl rfl (by omega) (by omega) (fun x495 ex495 => ?_)
    refine aw_p hU.1 aj_d244 rfl rfl (by decide) rfl ?_
    have hI496 := aw_I_f (aw_UV hU aw_Gs_sm) (k := 41) (v := x495) hI404 (by decide) (by decide) rfl (aw_bp (a := x495.toInt) rfl (by omega) (by omega))
    have fr497 := aw_fr_f (k := 41) (v := x495) (by decide) fr405
    refine aw_l2 aj_d244 rfl rfl hlv407_0 ?_
    refine aw_l2 aj_d244 rfl rfl hlv407_0 ?_
    have b498 : 0 ≤ (S.1 44).toInt ∧ (S.1 44).toInt ≤ 31 := aw_bd_f hs (hI400).1 (by decide) rfl
    refine aw_g hU.1 aj_d244 rfl rfl (by decide) (v := .int (S.1 44)) rfl ?_
    refine aw_n aj_d244 rfl rfl ?_
    refine aw_sub aj_d244 rfl (a := (S.1 44).toInt) (b := (1 : Int)) rfl rfl (by omega) (by omega) (fun x499 ex499 => ?_)
    have b500 : 0 ≤ (S.1 30).toInt ∧ (S.1 30).toInt ≤ 1001 := aw_bd_f hs (hI400).1 (by decide) rfl
    refine aw_k hU.1 aj_d244 rfl rfl [_] rfl rfl rfl (Nat.le_of_ble_eq_true rfl) (aw_toK hU aw_Gs_sm (con := ac_c245) (by omega) (ar_245 hU.2.1 (aw_SPc hU.2.2 aw_Gs_sm) aw_kpc) ⟨(hI496).1, aw_sm_rf⟩ ⟨(aw_g117 hU.2.2), (cw_gw (a := x499.toInt) rfl (by omega) (by omega)), trivial⟩ (fun e he => nomatch he)) ?_
    rintro r501 S501 ⟨hr501, hJ501, fc501, po501, -⟩
    have hT501 := hJ501.1
    replace fc501 := aw_fr_sub (F' := []) (A' := [20]) (by decide) (by decide) fc501
    have fr502 := aw_fr_tr fr497 (aw_fr_sub (F := []) (A := [20]) (by decide) (by decide) fc501)
    have hI503 : aw_I s h (aw_sm S) S501 := ⟨hT501, aw_sm_tr hI496.2 (aw_fr_sm (by decide) (by decide) (by decide) (F := []) (A := [20]) fc501)⟩
    obtain rfl := cw_rN hr501
    show aw_W _ _ _ _ 46 lv407 [] _ _
    refine aw_e aj_d244 rfl rfl ?_
    have c504 : (S501.1 43).toInt = x403.toInt := (congrArg Int32.toInt (fc501.1 43 (by decide)).1).trans rfl
    have b505 : 0 ≤ (S501.1 43).toInt ∧ (S501.1 43).toInt ≤ 39 := aw_bd_f hs (hI503).1 (by decide) rfl
    have c506 : (S501.1 44).toInt = (S.1 44).toInt := (congrArg Int32.toInt (fc501.1 44 (by decide)).1).trans rfl
    have b507 : 0 ≤ (S501.1 44).toInt ∧ (S501.1 44).toInt ≤ 31 := aw_bd_f hs (hI503).1 (by decide) rfl
    have c508 : (S501.1 41).toInt = x495.toInt := (congrArg Int32.toInt (fc501.1 41 (by decide)).1).trans rfl
    have b509 : 0 ≤ (S501.1 41).toInt ∧ (S501.1 41).toInt ≤ 8 := aw_bd_f hs (hI503).1 (by decide) rfl
    exact ⟨(hI503).1, fr502, rfl, (show ((S501.1 43)).toInt = _ by omega), (show _ → ((S501.1 41)).toInt = _ ∧ ((S501.1 44)).toInt = _ by omega), (show _ → ((S501.1 41)).toInt = _ ∧ ((S501.1 44)).toInt = _ by omega)⟩
end ARA4
