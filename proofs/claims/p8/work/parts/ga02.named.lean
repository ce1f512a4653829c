/-! NAMES, NUMBERS, SIGNS (printed by wip/p2/ref/r02.py) -/
section ARA2
variable {tb : aj_T} {s : List Nat} {h : aj_H} {S S' S1 : aj_S} {d n : Nat} {g g' : aw_gh} {F A : List Nat} {G : aj_S → Prop}
theorem arc_215 (hU : aw_U tb s h) : ak_CT ak_TR (aw_SP s h (aw_G g)) aw_kap tb 1 ac_c215 := by
  refine ar_ofP (F := [24, 25, 31]) (A := []) hU aw_Gs_G ⟨rfl, rfl, rfl, rfl, rfl, rfl, rfl⟩ ⟨by decide, fun _ z => nomatch z⟩ (fun d hd S as hI hA hQ => ?_)
  obtain ⟨v0, as, rfl, g0, hA⟩ := cw_gAc hA
  obtain ⟨v1, as, rfl, g1, hA⟩ := cw_gAc hA
  obtain ⟨v2, as, rfl, g2, hA⟩ := cw_gAc hA
  cases cw_gAn hA
  obtain rfl := aw_117 hU.2.2 g0
  obtain ⟨x1, rfl, b1⟩ := ak_gi g1
  obtain ⟨x2, rfl, b2⟩ := ak_gi g2
  dsimp only [ak_win] at b1
  refine aw_mono ?_ (ar_stop hU hI.1 hd rfl)
  rintro r S' ⟨k1, k2, rfl, k3⟩
  exact ⟨k1, k2, (by decide : (0 : Int) ≤ 0 ∧ (0 : Int) ≤ 0), aw_G_stop hI.2 k2 (by omega), Int.le_of_eq (congrArg Int32.toInt (k2.1 30 (by decide)).1).symm⟩
theorem arc_218 (hU : aw_U tb s h) : ak_CT ak_TR (aw_SP s h (aw_G g)) aw_kap tb 1 ac_c218 := by
  refine ar_ofP (F := [24, 25]) (A := []) hU aw_Gs_G ⟨rfl, rfl, rfl, rfl, rfl, rfl, rfl⟩ ⟨by decide, fun _ z => nomatch z⟩ (fun d hd S as hI hA hQ => ?_)
  obtain ⟨v0, as, rfl, g0, hA⟩ := cw_gAc hA
  obtain ⟨v1, as, rfl, g1, hA⟩ := cw_gAc hA
  obtain ⟨v2, as, rfl, g2, hA⟩ := cw_gAc hA
  cases cw_gAn hA
  obtain rfl := aw_117 hU.2.2 g0
  obtain ⟨x1, rfl, b1⟩ := ak_gi g1
  obtain ⟨x2, rfl, b2⟩ := ak_gi g2
  dsimp only [ak_win] at b1
  refine aw_mono ?_ (ar_tell hU hI.1 hd rfl (by omega))
  rintro r S' ⟨k1, k2, rfl, k3, -⟩
  exact ⟨k1, k2, trivial, aw_G_tell hI.2 k2 k3, Int.le_of_eq (congrArg Int32.toInt (k2.1 30 (by decide)).1).symm⟩
theorem ar_packed0 (hU : aw_U tb s h) (hT : ak_Ty ak_TN s (aj_mh h S)) (hd : 1 ≤ d) {x y : Int32} (hxy : y.toInt ≤ x.toInt) : aw_K tb h d 210 [.ref 117, .int x, .int y] S (fun r S' => ∃ v : Int64, r = some (.long v) ∧ S' = S) := by
  obtain ⟨d, rfl⟩ : ∃ e, d = e + 1 := ⟨d - 1, by omega⟩
  have hs : aw_sT s := aw_hy_sT hU.2.2
  refine aw_m aj_m210_at rfl (Nat.le_of_ble_eq_true rfl) ?_
  show aw_W _ _ _ _ 0 [(0, .ref 117), (1, .int x), (2, .int y)] [] _ _
  obtain ⟨lv1, elv1⟩ : ∃ l : aj_V, l = [(0, .ref 117), (1, .int x), (2, .int y)] := ⟨_, rfl⟩
  rw [← elv1]
  have hlv1_0 : aj_lv lv1 0 = some (.ref 117) := by rw [elv1]; rfl
  have hlv1_1 : aj_lv lv1 1 = some (.int x) := by rw [elv1]; rfl
  have hlv1_2 : aj_lv lv1 2 = some (.int y) := by rw [elv1]; rfl
  have hI2 : aw_I s h (aw_sm S) S := ⟨hT, aw_sm_rf⟩
  have fr3 : aw_fr [] [] S S := aw_fr_rf
  refine aw_anyl aj_d210 rfl rfl (fun y4 ey4 => ?_)
  refine aw_t1 (j := 3) aj_d210 rfl (by decide) rfl ?_
  obtain ⟨lv5, elv5⟩ : ∃ l, l = aj_set2 lv1 3 (.long y4) := ⟨_, rfl⟩
  rw [← elv5]
  have hlv5_0 : aj_lv lv5 0 = some (.ref 117) := cw_e2 elv5 hlv1_0 (by decide) (by decide) (Or.inl (by decide))
  have hlv5_1 : aj_lv lv5 1 = some (.int x) := cw_e2 elv5 hlv1_1 (by decide) (by decide) (Or.inl (by decide))
  have hlv5_2 : aj_lv lv5 2 = some (.int y) := cw_e2 elv5 hlv1_2 (by decide) (by decide) (Or.inr rfl)
  have hlv5_3 : aj_lv lv5 3 = some (.long y4) := by rw [elv5]; exact ak_set2_eq _ _ _
  show aw_W _ _ _ _ 2 lv5 [] _ _
  refine aw_l0 aj_d210 rfl rfl hlv5_1 ?_
  refine aw_t0 (j := 5) aj_d210 rfl (by decide) rfl ?_
  obtain ⟨lv6, elv6⟩ : ∃ l, l = aj_set1 lv5 5 (.int x) := ⟨_, rfl⟩
  rw [← elv6]
  have hlv6_0 : aj_lv lv6 0 = some (.ref 117) := cw_e1 elv6 hlv5_0 (by decide) (Or.inl (by decide))
  have hlv6_2 : aj_lv lv6 2 = some (.int y) := cw_e1 elv6 hlv5_2 (by decide) (Or.inl (by decide))
  have hlv6_3 : aj_lv lv6 3 = some (.long y4) := cw_e1 elv6 hlv5_3 (by decide) (Or.inl (by decide))
  have hlv6_5 : aj_lv lv6 5 = some (.int x) := by rw [elv6]; exact ak_set1_eq _ _ _
  show aw_W _ _ _ _ 5 lv6 [] _ _
  refine aw_l0 aj_d210 rfl rfl hlv6_5 ?_
  refine aw_l0 aj_d210 rfl rfl hlv6_2 ?_
  refine aw_c (tgt := 31) aj_d210 rfl rfl (fun q7 => ?_) (fun q7 => ?_)
  · have q7 : x.toInt ≥ y.toInt := aw_t_ge (a := x.toInt) (b := y.toInt) rfl rfl q7
    refine aw_l1 aj_d210 rfl rfl hlv6_3 ?_
    refine aw_e aj_d210 rfl rfl ?_
    exact ⟨_, rfl, rfl⟩
  · have q7 : x.toInt < y.toInt := aw_t_ge (a := x.toInt) (b := y.toInt) rfl rfl q7
    exfalso
    omega
theorem arc_210 (hU : aw_U tb s h) (hG : aw_Gs G) : ak_CT ak_TR (aw_SP s h G) aw_kap tb 1 ac_c210 := by
  refine ar_ofP (F := []) (A := []) hU hG ⟨rfl, rfl, rfl, rfl, rfl, rfl, rfl⟩ ⟨(fun _ z => nomatch z), (fun _ z => nomatch z)⟩ (fun d hd S as hI hA hQ => ?_)
  obtain ⟨v0, as, rfl, g0, hA⟩ := cw_gAc hA
  obtain ⟨v1, as, rfl, g1, hA⟩ := cw_gAc hA
  obtain ⟨v2, as, rfl, g2, hA⟩ := cw_gAc hA
  cases cw_gAn hA
  obtain rfl := aw_117 hU.2.2 g0
  obtain ⟨x1, rfl, b1⟩ := ak_gi g1
  obtain ⟨x2, rfl, b2⟩ := ak_gi g2
  dsimp only [ak_win] at b1 b2
  have fin : ∀ r S', (∃ v : Int64, r = some (.long v) ∧ S' = S) → ak_Ty ak_TN s (aj_mh h S') ∧ aw_fr [] [] S S' ∧ ak_gR s ac_c210.2.2.1 r ∧ G S' ∧ (S.1 30).toInt ≤ (S'.1 30).toInt := by
    rintro r S' ⟨v, rfl, rfl⟩
    exact ⟨hI.1, aw_fr_rf, trivial, hI.2, Int.le_refl _⟩
  by_cases hx : x2.toInt ≤ x1.toInt
  · exact aw_mono fin (ar_packed0 hU hI.1 hd hx)
  · refine aw_mono (fun r S' hh => fin r S' ?_) (aw_packedK (aw_UV hU (fun _ _ _ q => q)) hd (x := x1) (y := x2) (a := x1.toInt.toNat) (b := x2.toInt.toNat) (by omega) (by omega) (by omega) (by omega))
    obtain ⟨v, e1, e2, -⟩ := hh
    exact ⟨v, e1, e2⟩
theorem ar_named (hU : aw_U tb s h) (hT : ak_Ty ak_TN s (aj_mh h S)) (hG : aw_G g S) (hd : 5 ≤ d) : aw_K tb h d 216 [.ref 117] S (ar_QB s h [24, 25, 26, 27, 28, 29, 30, 31, 33, 34] [] S (fun S' => aw_G g S' ∧ (S.1 30).toInt ≤ (S'.1 30).toInt ∧ (S'.1 24).toInt ≠ 0) (fun S' => aw_G g S' ∧ (S.1 30).toInt + 1 ≤ (S'.1 30).toInt ∧ (S'.1 30).toInt = (S.1 30).toInt + 1 ∧ (S.1 26).toInt = 1 ∧ S'.2.1 33 = aw_nm (aw_tF S) (aw_tT S) (aw_tJ S))) := by
  obtain ⟨d, rfl⟩ : ∃ e, d = e + 1 := ⟨d - 1, by omega⟩
  have hs : aw_sT s := aw_hy_sT hU.2.2
  refine aw_m aj_m216_at rfl (Nat.le_of_ble_eq_true rfl) ?_
  show aw_W _ _ _ _ 0 [(0, .ref 117)] [] _ _
  obtain ⟨lv8, elv8⟩ : ∃ l : aj_V, l = [(0, .ref 117)] := ⟨_, rfl⟩
  rw [← elv8]
  have hlv8_0 : aj_lv lv8 0 = some (.ref 117) := by rw [elv8]; rfl
  have hI9 : aw_I s h (aw_sm S) S := ⟨hT, aw_sm_rf⟩
  have fr10 : aw_fr [24, 25, 26, 27, 28, 29, 30, 31, 33, 34] [] S S := aw_fr_rf
  refine aw_l2 aj_d216 rfl rfl hlv8_0 ?_
  have b11 : 0 ≤ (S.1 26).toInt ∧ (S.1 26).toInt ≤ 5 := aw_bd_f hs (hI9).1 (by decide) rfl
  refine aw_g hU.1 aj_d216 rfl rfl (by decide) (v := .int (S.1 26)) rfl ?_
  refine aw_n aj_d216 rfl rfl ?_
  refine aw_c (tgt := 18) aj_d216 rfl rfl (fun q12 => ?_) (fun q12 => ?_)
  · have q12 : (S.1 26).toInt = (1 : Int) := aw_t_eq (a := (S.1 26).toInt) (b := (1 : Int)) rfl rfl q12
    refine aw_l2 aj_d216 rfl rfl hlv8_0 ?_
    refine aw_l2 aj_d216 rfl rfl hlv8_0 ?_
    refine aw_l2 aj_d216 rfl rfl hlv8_0 ?_
    have b13 : 0 ≤ (S.1 27).toInt ∧ (S.1 27).toInt ≤ 4000 := aw_bd_f hs (hI9).1 (by decide) rfl
    refine aw_g hU.1 aj_d216 rfl rfl (by decide) (v := .int (S.1 27)) rfl ?_
    refine aw_l2 aj_d216 rfl rfl hlv8_0 ?_
    have b14 : 0 ≤ (S.1 28).toInt ∧ (S.1 28).toInt ≤ 4000 := aw_bd_f hs (hI9).1 (by decide) rfl
    refine aw_g hU.1 aj_d216 rfl rfl (by decide) (v := .int (S.1 28)) rfl ?_
    have tk := aw_GA_tok hG.1 (by omega)
    have bN : aw_tN S ≤ 4000 := by
      have bb := aw_bd_f hs hT (k := 23) (lo := 0) (hi := 4000) (by decide) rfl
      unfold aw_tN
      omega
    refine aw_k hU.1 aj_d216 rfl rfl [_, _] rfl rfl rfl (Nat.le_of_ble_eq_true rfl) (aw_packedK (aw_UV hU (fun _ _ _ q => q)) (by omega) tk.1 tk.2.1 (by omega) (by omega)) ?_
    rintro _ zy15 ⟨y15, rfl, fy15, ey15⟩
    rw [fy15]
    show aw_W _ _ _ _ 31 lv8 [.long y15, .ref 117] _ _
    refine aw_pl hU.1 aj_d216 rfl rfl (by decide) rfl ?_
    have hI16 := aw_I_l (aw_UV hU aw_Gs_sm) (k := 33) (v := y15) hI9 (by decide)
    have fr17 := aw_fr_l (k := 33) (v := y15) (by decide) fr10
    refine aw_l2 aj_d216 rfl rfl hlv8_0 ?_
    refine aw_l2 aj_d216 rfl rfl hlv8_0 ?_
    refine aw_g hU.1 aj_d216 rfl rfl (by decide) (v := .int (S.1 27)) rfl ?_
    refine aw_p hU.1 aj_d216 rfl rfl (by decide) rfl ?_
    have hI18 := aw_I_f (aw_UV hU aw_Gs_sm) (k := 34) (v := (S.1 27)) hI16 (by decide) (by decide) rfl (aw_full _)
    have fr19 := aw_fr_f (k := 34) (v := (S.1 27)) (by decide) fr17
    refine aw_l2 aj_d216 rfl rfl hlv8_0 ?_
    have b20 : 0 ≤ (S.1 30).toInt ∧ (S.1 30).toInt ≤ 1001 := aw_bd_f hs (hI9).1 (by decide) rfl
    refine aw_k hU.1 aj_d216 rfl rfl [] rfl rfl rfl (Nat.le_of_ble_eq_true rfl) (ar_pass hU (hI18).1 (aw_G_sm hI18.2 hG) (by omega) (show ((S.1 26)).toInt ≠ 0 by omega) (show ¬ (((S.1 26)).toInt = 3 ∧ ((S.1 29)).toInt = 63) by omega) (show ((S.1 26)).toInt = 4 → ((S.1 29)).toInt = 3 ∨ 6 ≤ ((S.1 29)).toInt by omega)) ?_
    rintro _ S21 ⟨hT21, fc21, ⟨b21, rfl, hb21, hG21, fd21, hz21⟩ | ⟨b21, rfl, hb21, hG21, ck21, fd21, cj21⟩⟩
    · skip
      have fr22 := aw_fr_tr fr19 (aw_fr_sub (F := [24, 25, 31]) (A := []) (by decide) (by decide) fd21)
      have hI23 : aw_I s h (aw_sm S21) S21 := ⟨hT21, aw_sm_rf⟩
      show aw_W _ _ _ _ 46 lv8 [.int b21] _ _
      refine aw_e aj_d216 rfl (cw_irb rfl (by omega)) ?_
      have c24 : (S21.1 30).toInt = (S.1 30).toInt := (congrArg Int32.toInt (fd21.1 30 (by decide)).1).trans rfl
      have b25 : 0 ≤ (S21.1 30).toInt ∧ (S21.1 30).toInt ≤ 1001 := aw_bd_f hs (hI23).1 (by decide) rfl
      exact ⟨(hI23).1, fr22, Or.inl ⟨_, rfl, hb21, hG21, (show _ ≤ ((S21.1 30)).toInt by omega), (show (S21.1 24).toInt ≠ 0 by omega)⟩⟩
    · skip
      have cj21 : (S21.1 30).toInt = ((S.1 30)).toInt + 1 := cj21
      have fr26 := aw_fr_tr fr19 (aw_fr_sub (F := [26, 27, 28, 29, 30]) (A := []) (by decide) (by decide) fd21)
      have hI27 : aw_I s h (aw_sm S21) S21 := ⟨hT21, aw_sm_rf⟩
      show aw_W _ _ _ _ 46 lv8 [.int b21] _ _
      refine aw_e aj_d216 rfl (cw_irb rfl (by omega)) ?_
      have b28 : 0 ≤ (S21.1 30).toInt ∧ (S21.1 30).toInt ≤ 1001 := aw_bd_f hs (hI27).1 (by decide) rfl
      exact ⟨(hI27).1, fr26, Or.inr ⟨_, rfl, hb21, hG21, (show _ + 1 ≤ ((S21.1 30)).toInt by omega), (show ((S21.1 30)).toInt = _ by omega), by omega, (((fd21.1 33 (by decide)).2.trans rfl)).trans ey15⟩⟩
  · have q12 : (S.1 26).toInt ≠ (1 : Int) := aw_t_eq (a := (S.1 26).toInt) (b := (1 : Int)) rfl rfl q12
    refine aw_l2 aj_d216 rfl rfl hlv8_0 ?_
    refine aw_n aj_d216 rfl rfl ?_
    refine aw_l2 aj_d216 rfl rfl hlv8_0 ?_
    have b29 : 0 ≤ (S.1 27).toInt ∧ (S.1 27).toInt ≤ 4000 := aw_bd_f hs (hI9).1 (by decide) rfl
    refine aw_g hU.1 aj_d216 rfl rfl (by decide) (v := .int (S.1 27)) rfl ?_
    refine aw_k hU.1 aj_d216 rfl rfl [_, _] rfl rfl rfl (Nat.le_of_ble_eq_true rfl) (ar_stop hU (hI9).1 (by omega) (a := (1 : Int)) rfl) ?_
    rintro _ S30 ⟨hT30, fc30, rfl, hz30⟩
    have hG30 := aw_G_stop hG fc30 (by omega)
    have fr31 := aw_fr_tr fr10 (aw_fr_sub (F := [24, 25, 31]) (A := []) (by decide) (by decide) fc30)
    have hI32 : aw_I s h (aw_sm S30) S30 := ⟨hT30, aw_sm_rf⟩
    show aw_W _ _ _ _ 17 lv8 [.int (Int32.ofInt 0)] _ _
    refine aw_e aj_d216 rfl rfl ?_
    have b33 : 0 ≤ (S.1 30).toInt ∧ (S.1 30).toInt ≤ 1001 := aw_bd_f hs (hI9).1 (by decide) rfl
    have c34 : (S30.1 30).toInt = (S.1 30).toInt := (congrArg Int32.toInt (fc30.1 30 (by decide)).1).trans rfl
    have b35 : 0 ≤ (S30.1 30).toInt ∧ (S30.1 30).toInt ≤ 1001 := aw_bd_f hs (hI32).1 (by decide) rfl
    exact ⟨(hI32).1, fr31, Or.inl ⟨_, rfl, rfl, hG30, (show _ ≤ ((S30.1 30)).toInt by omega), (show (S30.1 24).toInt ≠ 0 by omega)⟩⟩
theorem ar_relation (hU : aw_U tb s h) (hT : ak_Ty ak_TN s (aj_mh h S)) (hG : aw_G g S) (hd : 5 ≤ d) : aw_K tb h d 239 [.ref 117] S (ar_QT s h g [24, 25, 26, 27, 28, 29, 30, 31, 40] [] S (fun _ => True)) := by
  obtain ⟨d, rfl⟩ : ∃ e, d = e + 1 := ⟨d - 1, by omega⟩
  have hs : aw_sT s := aw_hy_sT hU.2.2
  refine aw_m aj_m239_at rfl (Nat.le_of_ble_eq_true rfl) ?_
  show aw_W _ _ _ _ 0 [(0, .ref 117)] [] _ _
  obtain ⟨lv36, elv36⟩ : ∃ l : aj_V, l = [(0, .ref 117)] := ⟨_, rfl⟩
  rw [← elv36]
  have hlv36_0 : aj_lv lv36 0 = some (.ref 117) := by rw [elv36]; rfl
  have hI37 : aw_I s h (aw_sm S) S := ⟨hT, aw_sm_rf⟩
  have fr38 : aw_fr [24, 25, 26, 27, 28, 29, 30, 31, 40] [] S S := aw_fr_rf
  refine aw_l2 aj_d239 rfl rfl hlv36_0 ?_
  have b39 : 0 ≤ (S.1 26).toInt ∧ (S.1 26).toInt ≤ 5 := aw_bd_f hs (hI37).1 (by decide) rfl
  refine aw_g hU.1 aj_d239 rfl rfl (by decide) (v := .int (S.1 26)) rfl ?_
  refine aw_n aj_d239 rfl rfl ?_
  refine aw_c (tgt := 46) aj_d239 rfl rfl (fun q40 => ?_) (fun q40 => ?_)
  · have q40 : (S.1 26).toInt ≠ (3 : Int) := aw_t_ne (a := (S.1 26).toInt) (b := (3 : Int)) rfl rfl q40
    refine aw_l2 aj_d239 rfl rfl hlv36_0 ?_
    refine aw_n aj_d239 rfl rfl ?_
    refine aw_l2 aj_d239 rfl rfl hlv36_0 ?_
    have b41 : 0 ≤ (S.1 27).toInt ∧ (S.1 27).toInt ≤ 4000 := aw_bd_f hs (hI37).1 (by decide) rfl
    refine aw_g hU.1 aj_d239 rfl rfl (by decide) (v := .int (S.1 27)) rfl ?_
    refine aw_k hU.1 aj_d239 rfl rfl [_, _] rfl rfl rfl (Nat.le_of_ble_eq_true rfl) (ar_stop hU (hI37).1 (by omega) (a := (1 : Int)) rfl) ?_
    rintro _ S42 ⟨hT42, fc42, rfl, hz42⟩
    have hG42 := aw_G_stop hG fc42 (by omega)
    have fr43 := aw_fr_tr fr38 (aw_fr_sub (F := [24, 25, 31]) (A := []) (by decide) (by decide) fc42)
    have hI44 : aw_I s h (aw_sm S42) S42 := ⟨hT42, aw_sm_rf⟩
    show aw_W _ _ _ _ 55 lv36 [.int (Int32.ofInt 0)] _ _
    refine aw_e aj_d239 rfl rfl ?_
    have b45 : 0 ≤ (S.1 30).toInt ∧ (S.1 30).toInt ≤ 1001 := aw_bd_f hs (hI37).1 (by decide) rfl
    have c46 : (S42.1 30).toInt = (S.1 30).toInt := (congrArg Int32.toInt (fc42.1 30 (by decide)).1).trans rfl
    have b47 : 0 ≤ (S42.1 30).toInt ∧ (S42.1 30).toInt ≤ 1001 := aw_bd_f hs (hI44).1 (by decide) rfl
    exact ⟨(hI44).1, fr43, Or.inl ⟨_, rfl, rfl, hG42, (show _ ≤ ((S42.1 30)).toInt by omega)⟩⟩
  · have q40 : (S.1 26).toInt = (3 : Int) := aw_t_ne (a := (S.1 26).toInt) (b := (3 : Int)) rfl rfl q40
    refine aw_l2 aj_d239 rfl rfl hlv36_0 ?_
    refine aw_g hU.1 aj_d239 rfl rfl (by decide) (v := .int (S.1 29)) rfl ?_
    refine aw_n aj_d239 rfl rfl ?_
    refine aw_c (tgt := 56) aj_d239 rfl rfl (fun q48 => ?_) (fun q48 => ?_)
    · have q48 : (S.1 29).toInt = (61 : Int) := aw_t_eq (a := (S.1 29).toInt) (b := (61 : Int)) rfl rfl q48
      refine aw_l2 aj_d239 rfl rfl hlv36_0 ?_
      refine aw_l2 aj_d239 rfl rfl hlv36_0 ?_
      refine aw_g hU.1 aj_d239 rfl rfl (by decide) (v := .int (S.1 29)) rfl ?_
      refine aw_p hU.1 aj_d239 rfl rfl (by decide) rfl ?_
      have hI49 := aw_I_f (aw_UV hU aw_Gs_sm) (k := 40) (v := (S.1 29)) hI37 (by decide) (by decide) rfl (aw_full _)
      have fr50 := aw_fr_f (k := 40) (v := (S.1 29)) (by decide) fr38
      refine aw_l2 aj_d239 rfl rfl hlv36_0 ?_
      have b51 : 0 ≤ (S.1 30).toInt ∧ (S.1 30).toInt ≤ 1001 := aw_bd_f hs (hI37).1 (by decide) rfl
      refine aw_k hU.1 aj_d239 rfl rfl [] rfl rfl rfl (Nat.le_of_ble_eq_true rfl) (ar_pass hU (hI49).1 (aw_G_sm hI49.2 hG) (by omega) (show ((S.1 26)).toInt ≠ 0 by omega) (show ¬ (((S.1 26)).toInt = 3 ∧ ((S.1 29)).toInt = 63) by omega) (show ((S.1 26)).toInt = 4 → ((S.1 29)).toInt = 3 ∨ 6 ≤ ((S.1 29)).toInt by omega)) ?_
      rintro _ S52 ⟨hT52, fc52, ⟨b52, rfl, hb52, hG52, fd52, hz52⟩ | ⟨b52, rfl, hb52, hG52, ck52, fd52, cj52⟩⟩
      · skip
        have fr53 := aw_fr_tr fr50 (aw_fr_sub (F := [24, 25, 31]) (A := []) (by decide) (by decide) fd52)
        have hI54 : aw_I s h (aw_sm S52) S52 := ⟨hT52, aw_sm_rf⟩
        show aw_W _ _ _ _ 68 lv36 [.int b52] _ _
        refine aw_e aj_d239 rfl (cw_irb rfl (by omega)) ?_
        have c55 : (S52.1 30).toInt = (S.1 30).toInt := (congrArg Int32.toInt (fd52.1 30 (by decide)).1).trans rfl
        have b56 : 0 ≤ (S52.1 30).toInt ∧ (S52.1 30).toInt ≤ 1001 := aw_bd_f hs (hI54).1 (by decide) rfl
        exact ⟨(hI54).1, fr53, Or.inl ⟨_, rfl, hb52, hG52, (show _ ≤ ((S52.1 30)).toInt by omega)⟩⟩
      · skip
        have cj52 : (S52.1 30).toInt = ((S.1 30)).toInt + 1 := cj52
        have fr57 := aw_fr_tr fr50 (aw_fr_sub (F := [26, 27, 28, 29, 30]) (A := []) (by decide) (by decide) fd52)
        have hI58 : aw_I s h (aw_sm S52) S52 := ⟨hT52, aw_sm_rf⟩
        show aw_W _ _ _ _ 68 lv36 [.int b52] _ _
        refine aw_e aj_d239 rfl (cw_irb rfl (by omega)) ?_
        have b59 : 0 ≤ (S52.1 30).toInt ∧ (S52.1 30).toInt ≤ 1001 := aw_bd_f hs (hI58).1 (by decide) rfl
        exact ⟨(hI58).1, fr57, Or.inr ⟨_, rfl, hb52, hG52, (show _ + 1 ≤ ((S52.1 30)).toInt by omega), trivial⟩⟩
    · have q48 : (S.1 29).toInt ≠ (61 : Int) := aw_t_eq (a := (S.1 29).toInt) (b := (61 : Int)) rfl rfl q48
      refine aw_l2 aj_d239 rfl rfl hlv36_0 ?_
      refine aw_g hU.1 aj_d239 rfl rfl (by decide) (v := .int (S.1 29)) rfl ?_
      refine aw_n aj_d239 rfl rfl ?_
      refine aw_c (tgt := 56) aj_d239 rfl rfl (fun q60 => ?_) (fun q60 => ?_)
      · have q60 : (S.1 29).toInt = (257 : Int) := aw_t_eq (a := (S.1 29).toInt) (b := (257 : Int)) rfl rfl q60
        refine aw_l2 aj_d239 rfl rfl hlv36_0 ?_
        refine aw_l2 aj_d239 rfl rfl hlv36_0 ?_
        refine aw_g hU.1 aj_d239 rfl rfl (by decide) (v := .int (S.1 29)) rfl ?_
        refine aw_p hU.1 aj_d239 rfl rfl (by decide) rfl ?_
        have hI61 := aw_I_f (aw_UV hU aw_Gs_sm) (k := 40) (v := (S.1 29)) hI37 (by decide) (by decide) rfl (aw_full _)
        have fr62 := aw_fr_f (k := 40) (v := (S.1 29)) (by decide) fr38
        refine aw_l2 aj_d239 rfl rfl hlv36_0 ?_
        have b63 : 0 ≤ (S.1 30).toInt ∧ (S.1 30).toInt ≤ 1001 := aw_bd_f hs (hI37).1 (by decide) rfl
        refine aw_k hU.1 aj_d239 rfl rfl [] rfl rfl rfl (Nat.le_of_ble_eq_true rfl) (ar_pass hU (hI61).1 (aw_G_sm hI61.2 hG) (by omega) (show ((S.1 26)).toInt ≠ 0 by omega) (show ¬ (((S.1 26)).toInt = 3 ∧ ((S.1 29)).toInt = 63) by omega) (show ((S.1 26)).toInt = 4 → ((S.1 29)).toInt = 3 ∨ 6 ≤ ((S.1 29)).toInt by omega)) ?_
        rintro _ S64 ⟨hT64, fc64, ⟨b64, rfl, hb64, hG64, fd64, hz64⟩ | ⟨b64, rfl, hb64, hG64, ck64, fd64, cj64⟩⟩
        · skip
          have fr65 := aw_fr_tr fr62 (aw_fr_sub (F := [24, 25, 31]) (A := []) (by decide) (by decide) fd64)
          have hI66 : aw_I s h (aw_sm S64) S64 := ⟨hT64, aw_sm_rf⟩
          show aw_W _ _ _ _ 68 lv36 [.int b64] _ _
          refine aw_e aj_d239 rfl (cw_irb rfl (by omega)) ?_
          have c67 : (S64.1 30).toInt = (S.1 30).toInt := (congrArg Int32.toInt (fd64.1 30 (by decide)).1).trans rfl
          have b68 : 0 ≤ (S64.1 30).toInt ∧ (S64.1 30).toInt ≤ 1001 := aw_bd_f hs (hI66).1 (by decide) rfl
          exact ⟨(hI66).1, fr65, Or.inl ⟨_, rfl, hb64, hG64, (show _ ≤ ((S64.1 30)).toInt by omega)⟩⟩
        · skip
          have cj64 : (S64.1 30).toInt = ((S.1 30)).toInt + 1 := cj64
          have fr69 := aw_fr_tr fr62 (aw_fr_sub (F := [26, 27, 28, 29, 30]) (A := []) (by decide) (by decide) fd64)
          have hI70 : aw_I s h (aw_sm S64) S64 := ⟨hT64, aw_sm_rf⟩
          show aw_W _ _ _ _ 68 lv36 [.int b64] _ _
          refine aw_e aj_d239 rfl (cw_irb rfl (by omega)) ?_
          have b71 : 0 ≤ (S64.1 30).toInt ∧ (S64.1 30).toInt ≤ 1001 := aw_bd_f hs (hI70).1 (by decide) rfl
          exact ⟨(hI70).1, fr69, Or.inr ⟨_, rfl, hb64, hG64, (show _ + 1 ≤ ((S64.1 30)).toInt by omega), trivial⟩⟩
      · have q60 : (S.1 29).toInt ≠ (257 : Int) := aw_t_eq (a := (S.1 29).toInt) (b := (257 : Int)) rfl rfl q60
        refine aw_l2 aj_d239 rfl rfl hlv36_0 ?_
        refine aw_g hU.1 aj_d239 rfl rfl (by decide) (v := .int (S.1 29)) rfl ?_
        refine aw_n aj_d239 rfl rfl ?_
        refine aw_c (tgt := 56) aj_d239 rfl rfl (fun q72 => ?_) (fun q72 => ?_)
        · have q72 : (S.1 29).toInt = (60 : Int) := aw_t_eq (a := (S.1 29).toInt) (b := (60 : Int)) rfl rfl q72
          refine aw_l2 aj_d239 rfl rfl hlv36_0 ?_
          refine aw_l2 aj_d239 rfl rfl hlv36_0 ?_
          refine aw_g hU.1 aj_d239 rfl rfl (by decide) (v := .int (S.1 29)) rfl ?_
          refine aw_p hU.1 aj_d239 rfl rfl (by decide) rfl ?_
          have hI73 := aw_I_f (aw_UV hU aw_Gs_sm) (k := 40) (v := (S.1 29)) hI37 (by decide) (by decide) rfl (aw_full _)
          have fr74 := aw_fr_f (k := 40) (v := (S.1 29)) (by decide) fr38
          refine aw_l2 aj_d239 rfl rfl hlv36_0 ?_
          have b75 : 0 ≤ (S.1 30).toInt ∧ (S.1 30).toInt ≤ 1001 := aw_bd_f hs (hI37).1 (by decide) rfl
          refine aw_k hU.1 aj_d239 rfl rfl [] rfl rfl rfl (Nat.le_of_ble_eq_true rfl) (ar_pass hU (hI73).1 (aw_G_sm hI73.2 hG) (by omega) (show ((S.1 26)).toInt ≠ 0 by omega) (show ¬ (((S.1 26)).toInt = 3 ∧ ((S.1 29)).toInt = 63) by omega) (show ((S.1 26)).toInt = 4 → ((S.1 29)).toInt = 3 ∨ 6 ≤ ((S.1 29)).toInt by omega)) ?_
          rintro _ S76 ⟨hT76, fc76, ⟨b76, rfl, hb76, hG76, fd76, hz76⟩ | ⟨b76, rfl, hb76, hG76, ck76, fd76, cj76⟩⟩
          · skip
            have fr77 := aw_fr_tr fr74 (aw_fr_sub (F := [24, 25, 31]) (A := []) (by decide) (by decide) fd76)
            have hI78 : aw_I s h (aw_sm S76) S76 := ⟨hT76, aw_sm_rf⟩
            show aw_W _ _ _ _ 68 lv36 [.int b76] _ _
            refine aw_e aj_d239 rfl (cw_irb rfl (by omega)) ?_
            have c79 : (S76.1 30).toInt = (S.1 30).toInt := (congrArg Int32.toInt (fd76.1 30 (by decide)).1).trans rfl
            have b80 : 0 ≤ (S76.1 30).toInt ∧ (S76.1 30).toInt ≤ 1001 := aw_bd_f hs (hI78).1 (by decide) rfl
            exact ⟨(hI78).1, fr77, Or.inl ⟨_, rfl, hb76, hG76, (show _ ≤ ((S76.1 30)).toInt by omega)⟩⟩
          · skip
            have cj76 : (S76.1 30).toInt = ((S.1 30)).toInt + 1 := cj76
            have fr81 := aw_fr_tr fr74 (aw_fr_sub (F := [26, 27, 28, 29, 30]) (A := []) (by decide) (by decide) fd76)
            have hI82 : aw_I s h (aw_sm S76) S76 := ⟨hT76, aw_sm_rf⟩
            show aw_W _ _ _ _ 68 lv36 [.int b76] _ _
            refine aw_e aj_d239 rfl (cw_irb rfl (by omega)) ?_
            have b83 : 0 ≤ (S76.1 30).toInt ∧ (S76.1 30).toInt ≤ 1001 := aw_bd_f hs (hI82).1 (by decide) rfl
            exact ⟨(hI82).1, fr81, Or.inr ⟨_, rfl, hb76, hG76, (show _ + 1 ≤ ((S76.1 30)).toInt by omega), trivial⟩⟩
        · have q72 : (S.1 29).toInt ≠ (60 : Int) := aw_t_eq (a := (S.1 29).toInt) (b := (60 : Int)) rfl rfl q72
          refine aw_l2 aj_d239 rfl rfl hlv36_0 ?_
          refine aw_g hU.1 aj_d239 rfl rfl (by decide) (v := .int (S.1 29)) rfl ?_
          refine aw_n aj_d239 rfl rfl ?_
          refine aw_c (tgt := 56) aj_d239 rfl rfl (fun q84 => ?_) (fun q84 => ?_)
          · have q84 : (S.1 29).toInt = (258 : Int) := aw_t_eq (a := (S.1 29).toInt) (b := (258 : Int)) rfl rfl q84
            refine aw_l2 aj_d239 rfl rfl hlv36_0 ?_
            refine aw_l2 aj_d239 rfl rfl hlv36_0 ?_
            refine aw_g hU.1 aj_d239 rfl rfl (by decide) (v := .int (S.1 29)) rfl ?_
            refine aw_p hU.1 aj_d239 rfl rfl (by decide) rfl ?_
            have hI85 := aw_I_f (aw_UV hU aw_Gs_sm) (k := 40) (v := (S.1 29)) hI37 (by decide) (by decide) rfl (aw_full _)
            have fr86 := aw_fr_f (k := 40) (v := (S.1 29)) (by decide) fr38
            refine aw_l2 aj_d239 rfl rfl hlv36_0 ?_
            have b87 : 0 ≤ (S.1 30).toInt ∧ (S.1 30).toInt ≤ 1001 := aw_bd_f hs (hI37).1 (by decide) rfl
            refine aw_k hU.1 aj_d239 rfl rfl [] rfl rfl rfl (Nat.le_of_ble_eq_true rfl) (ar_pass hU (hI85).1 (aw_G_sm hI85.2 hG) (by omega) (show ((S.1 26)).toInt ≠ 0 by omega) (show ¬ (((S.1 26)).toInt = 3 ∧ ((S.1 29)).toInt = 63) by omega) (show ((S.1 26)).toInt = 4 → ((S.1 29)).toInt = 3 ∨ 6 ≤ ((S.1 29)).toInt by omega)) ?_
            rintro _ S88 ⟨hT88, fc88, ⟨b88, rfl, hb88, hG88, fd88, hz88⟩ | ⟨b88, rfl, hb88, hG88, ck88, fd88, cj88⟩⟩
            · skip
              have fr89 := aw_fr_tr fr86 (aw_fr_sub (F := [24, 25, 31]) (A := []) (by decide) (by decide) fd88)
              have hI90 : aw_I s h (aw_sm S88) S88 := ⟨hT88, aw_sm_rf⟩
              show aw_W _ _ _ _ 68 lv36 [.int b88] _ _
              refine aw_e aj_d239 rfl (cw_irb rfl (by omega)) ?_
              have c91 : (S88.1 30).toInt = (S.1 30).toInt := (congrArg Int32.toInt (fd88.1 30 (by decide)).1).trans rfl
              have b92 : 0 ≤ (S88.1 30).toInt ∧ (S88.1 30).toInt ≤ 1001 := aw_bd_f hs (hI90).1 (by decide) rfl
              exact ⟨(hI90).1, fr89, Or.inl ⟨_, rfl, hb88, hG88, (show _ ≤ ((S88.1 30)).toInt by omega)⟩⟩
            · skip
              have cj88 : (S88.1 30).toInt = ((S.1 30)).toInt + 1 := cj88
              have fr93 := aw_fr_tr fr86 (aw_fr_sub (F := [26, 27, 28, 29, 30]) (A := []) (by decide) (by decide) fd88)
              have hI94 : aw_I s h (aw_sm S88) S88 := ⟨hT88, aw_sm_rf⟩
              show aw_W _ _ _ _ 68 lv36 [.int b88] _ _
              refine aw_e aj_d239 rfl (cw_irb rfl (by omega)) ?_
              have b95 : 0 ≤ (S88.1 30).toInt ∧ (S88.1 30).toInt ≤ 1001 := aw_bd_f hs (hI94).1 (by decide) rfl
              exact ⟨(hI94).1, fr93, Or.inr ⟨_, rfl, hb88, hG88, (show _ + 1 ≤ ((S88.1 30)).toInt by omega), trivial⟩⟩
          · have q84 : (S.1 29).toInt ≠ (258 : Int) := aw_t_eq (a := (S.1 29).toInt) (b := (258 : Int)) rfl rfl q84
            refine aw_l2 aj_d239 rfl rfl hlv36_0 ?_
            refine aw_n aj_d239 rfl rfl ?_
            refine aw_l2 aj_d239 rfl rfl hlv36_0 ?_
            have b96 : 0 ≤ (S.1 27).toInt ∧ (S.1 27).toInt ≤ 4000 := aw_bd_f hs (hI37).1 (by decide) rfl
            refine aw_g hU.1 aj_d239 rfl rfl (by decide) (v := .int (S.1 27)) rfl ?_
            refine aw_k hU.1 aj_d239 rfl rfl [_, _] rfl rfl rfl (Nat.le_of_ble_eq_true rfl) (ar_stop hU (hI37).1 (by omega) (a := (1 : Int)) rfl) ?_
            rintro _ S97 ⟨hT97, fc97, rfl, hz97⟩
            have hG97 := aw_G_stop hG fc97 (by omega)
            have fr98 := aw_fr_tr fr38 (aw_fr_sub (F := [24, 25, 31]) (A := []) (by decide) (by decide) fc97)
            have hI99 : aw_I s h (aw_sm S97) S97 := ⟨hT97, aw_sm_rf⟩
            show aw_W _ _ _ _ 55 lv36 [.int (Int32.ofInt 0)] _ _
            refine aw_e aj_d239 rfl rfl ?_
            have b100 : 0 ≤ (S.1 30).toInt ∧ (S.1 30).toInt ≤ 1001 := aw_bd_f hs (hI37).1 (by decide) rfl
            have c101 : (S97.1 30).toInt = (S.1 30).toInt := (congrArg Int32.toInt (fc97.1 30 (by decide)).1).trans rfl
            have b102 : 0 ≤ (S97.1 30).toInt ∧ (S97.1 30).toInt ≤ 1001 := aw_bd_f hs (hI99).1 (by decide) rfl
            exact ⟨(hI99).1, fr98, Or.inl ⟨_, rfl, rfl, hG97, (show _ ≤ ((S97.1 30)).toInt by omega)⟩⟩
end ARA2
