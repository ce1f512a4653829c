/-! READ, ASKS, LEARN, UNDO, FEED, BACK (printed by wip/p2/ref/r27.py) -/
section ARA27
variable {tb : aj_T} {s : List Nat} {h : aj_H} {S S' S1 S2 : aj_S} {d n : Nat} {g g' : aw_gh} {F A : List Nat} {G : aj_S → Prop} {nm : Int64 → Prop} {fl : Bool} {la ho hu ht q t p : Nat}
theorem aw_tx_0 (hB : aw_B S) (fr : aw_fr [24, 25, 32, 37] [] S S') (h37 : (S'.1 37).toInt = 1 - (S.1 0).toInt) (h32 : (S'.1 32).toInt = 0) (b0 : 0 ≤ (S.1 0).toInt ∧ (S.1 0).toInt ≤ 1) : aw_tx la S' := by
  refine ⟨aw_B_fr hB (by decide) (by decide) (by decide) (by decide) (by decide) (by decide) (by decide) fr, ?_, fun z => absurd z (by omega)⟩
  unfold aw_h aw_hh
  rw [h37, (fr.1 0 (by decide)).1]
  omega
/-- what the first pass found -/
theorem aw_G_found (hG : aw_G (nm, fl, la, 0, ho, ht) S) (k26 : (S.1 26).toInt = 0) (h24 : (S.1 24).toInt = 0) (h32 : (S.1 32).toInt = 0) : (aw_tT S (aw_tJ S)).1 = 0 ∧ (∀ q, 1 ≤ q → q < aw_tJ S → (aw_is (aw_tT S) q 3 63 → aw_res (nm, fl, la, 0, ho, ht) (aw_tF S) (aw_tT S) q) ∧ (aw_is (aw_tT S) q 4 2 → aw_resT (aw_tF S) (aw_tT S) q)) ∧ (fl = false → aw_nc ((aw_ul (aw_tT S) ho (aw_tJ S)).map (aw_vm (aw_tF S) (aw_tT S))) 1) := by
  rcases hG.2.1 h32 with z | ⟨z1, z2⟩
  · exact absurd h24 z
  · exact ⟨hG.1.2.1.1.symm.trans k26, fun q q1 q2 => z1 q q1 q2 (by show q ≠ 0; omega), z2⟩
theorem aw_tx_1 (hG : aw_G (fun _ => True, false, la, 0, 0, 0) S) (k26 : (S.1 26).toInt = 0) (h24 : (S.1 24).toInt = 0) (h32 : (S.1 32).toInt = 0) (fr : aw_fr [32] [] S S') : aw_tx (aw_tJ S) S' := by
  obtain ⟨f1, f2, f3⟩ := aw_G_found hG k26 h24 h32
  have eT := aw_fr_tT fr (by decide) (by decide)
  have eF : aw_tF S' = aw_tF S := (fr.2 21 (by decide)).1
  refine ⟨aw_B_fr (aw_G_B hG) (by decide) (by decide) (by decide) (by decide) (by decide) (by decide) (by decide) fr, ?_, fun _ => ⟨hG.1.1, by rw [eT]; exact f1, by rw [eT, eF]; exact f2, by rw [eT, eF]; exact f3 rfl⟩⟩
  have v1 := (hG.2.2.2.2.2.2.2.2.2 rfl).1
  unfold aw_h aw_hh at v1 ⊢
  rw [(fr.1 37 (by decide)).1, (fr.1 0 (by decide)).1]
  exact v1
theorem aw_B_half (hG : aw_G (fun _ => True, false, la, 0, 0, 0) S) (h32 : (S.1 32).toInt = 1) (fr : aw_fr [0, 13, 23, 68] [] S S') (h0 : (S'.1 0).toInt = (S.1 37).toInt) (b45 : (S.1 45).toInt ≤ 12) (b10 : 0 ≤ (S.2.2.1 10 (aw_h S)).toInt) : aw_B S' := by
  obtain ⟨v1, v2, v3, v4⟩ := hG.2.2.2.2.2.2.2.2.2 rfl
  obtain ⟨w1, w2⟩ := v3 h32
  have e : aw_hh S' = aw_h S := by unfold aw_hh aw_h; rw [h0]
  have v2 : (S.2.2.1 11 (aw_h S)).toInt = 0 := v2
  have w2 : (S.2.2.1 10 (aw_h S)).toInt ≤ (S.1 45).toInt := w2
  refine ⟨?_, ?_, ?_, ?_⟩
  · have k := hG.2.2.2.2.1
    unfold aw_kv
    rw [(fr.2 17 (by decide)).1, (fr.2 18 (by decide)).1]
    exact k
  · unfold aw_hold aw_held at w1 ⊢
    rw [e, (fr.2 5 (by decide)).1, (fr.2 10 (by decide)).1, (fr.2 12 (by decide)).1]
    exact w1
  · rw [e, (fr.2 10 (by decide)).1, (fr.2 11 (by decide)).1]; omega
  · rw [e, (fr.2 10 (by decide)).1, (fr.2 11 (by decide)).1]; omega
/-- ahead of a COND alone -/
theorem aw_G_ask (hB : aw_B S) (GA : aw_GA S) (hJ : (S.1 30).toInt = 1) (hh : aw_h S = aw_hh S) (hn : ∀ v, nm v ↔ ∃ u : Nat, (u : Int) < (S.2.2.1 1 (aw_h S)).toInt ∧ S.2.2.2 2 (aw_h S * 8 + u) = v) (hC : (S.1 32).toInt = 1 → 1 ≤ la ∧ (aw_tT S la).1 = 0 ∧ ∀ q, 1 ≤ q → q < la → (aw_is (aw_tT S) q 3 63 → aw_res (nm, true, la, 0, 0, 0) (aw_tF S) (aw_tT S) q) ∧ (aw_is (aw_tT S) q 4 2 → aw_resT (aw_tF S) (aw_tT S) q)) : aw_G (nm, true, la, 0, 0, 0) S := by
  have eJ : aw_tJ S = 1 := by
    unfold aw_tJ
    omega
  refine ⟨GA, fun _ => Or.inr ⟨fun q q1 q2 => ?_, fun z => absurd z.symm Bool.false_ne_true⟩, fun z => ?_, ⟨fun _ => hn, fun z => absurd z.symm Bool.false_ne_true, fun z => absurd rfl z, fun z => absurd rfl z⟩, hB.1, hB.2.1, hB.2.2.1, hB.2.2.2, fun _ => hh, fun z => absurd z.symm Bool.false_ne_true⟩
  · exfalso
    rw [eJ] at q2
    omega
  · obtain ⟨c1, c2, c3⟩ := hC z
    exact ⟨by rw [eJ]; exact c1, c2, c3, fun y => absurd y.symm Bool.false_ne_true⟩
theorem aw_bit_cp {f f2 : Nat → Int32} {a u : Nat} (ha : a ≤ 100000) (hu : u ≤ 1023) (hs : ∀ j, j < 32 → f (a + j) = f2 j) : aj_bitV f (nI a) (nI u) = aj_bitV f2 (nI 0) (nI u) := by
  have e4 : f (aj_wordV (nI a) (nI u)).toNatClampNeg = f2 (aj_wordV (nI 0) (nI u)).toNatClampNeg := by
    rw [aw_word_nat ha hu, aw_word_nat (by omega) hu, Nat.zero_add]
    exact hs _ (by omega)
  unfold aj_bitV aj_bitX
  rw [e4]
/-- one PART more, learned -/
theorem aw_B_learn {x y : Int32} (hB : aw_B S) (b5 : (S.2.2.1 5 (aw_hh S)).toInt ≤ 1024) (b0 : aw_hh S ≤ 1) (b10 : 0 ≤ (S.2.2.1 10 (aw_hh S)).toInt ∧ (S.2.2.1 10 (aw_hh S)).toInt ≤ 19) (fr : aw_fr [] [10, 11] S S') (e10 : S'.2.2.1 10 = upd (S.2.2.1 10) (aw_hh S) x) (e11 : S'.2.2.1 11 = upd (S.2.2.1 11) (aw_hh S) y) (hx : x.toInt = (S.2.2.1 10 (aw_hh S)).toInt + 1) (hy : y.toInt = (S.2.2.1 11 (aw_hh S)).toInt + 1) (hu : ∃ u : Nat, (u : Int) < (S.2.2.1 5 (aw_hh S)).toInt ∧ aw_held S (aw_hh S) u ∧ (aj_bitV (S.2.2.1 20) (nI 0) (nI u)).toInt = 1) (cp : ∀ j : Nat, j < 32 → S.2.2.1 12 ((aw_hh S * 20 + (S.2.2.1 10 (aw_hh S)).toInt.toNat) * 32 + j) = S.2.2.1 20 j) : aw_B S' := by
  have e : aw_hh S' = aw_hh S := by unfold aw_hh; rw [(fr.1 0 List.not_mem_nil).1]
  have x10 : (S'.2.2.1 10 (aw_hh S)).toInt = (S.2.2.1 10 (aw_hh S)).toInt + 1 := by rw [e10]; unfold upd; rw [if_pos rfl]; exact hx
  have x11 : (S'.2.2.1 11 (aw_hh S)).toInt = (S.2.2.1 11 (aw_hh S)).toInt + 1 := by rw [e11]; unfold upd; rw [if_pos rfl]; exact hy
  obtain ⟨k1, k2, k3, k4⟩ := hB
  refine ⟨?_, ?_, ?_, ?_⟩
  · unfold aw_kv
    rw [(fr.2 17 (by decide)).1, (fr.2 18 (by decide)).1]
    exact k1
  · obtain ⟨u, u1, u2, u3⟩ := hu
    rw [e]
    refine ⟨u, by rw [(fr.2 5 (by decide)).1]; exact u1, fun q hq => ?_⟩
    rw [x10] at hq
    rw [(fr.2 12 (by decide)).1]
    by_cases eq : q = (S.2.2.1 10 (aw_hh S)).toInt.toNat
    · subst eq
      rw [aw_bit_cp (by omega) (by omega) cp]
      exact u3
    · exact u2 q (by omega)
  · rw [e]; omega
  · rw [e]; omega
theorem aw_B_undo {x y : Int32} (hB : aw_B S) (fr : aw_fr [] [10, 11] S S') (e10 : S'.2.2.1 10 = upd (S.2.2.1 10) (aw_hh S) x) (e11 : S'.2.2.1 11 = upd (S.2.2.1 11) (aw_hh S) y) (hx : x.toInt = (S.2.2.1 10 (aw_hh S)).toInt - 1) (hy : y.toInt = (S.2.2.1 11 (aw_hh S)).toInt - 1) : aw_B S' := by
  have e : aw_hh S' = aw_hh S := by unfold aw_hh; rw [(fr.1 0 List.not_mem_nil).1]
  have x10 : (S'.2.2.1 10 (aw_hh S)).toInt = (S.2.2.1 10 (aw_hh S)).toInt - 1 := by rw [e10]; unfold upd; rw [if_pos rfl]; exact hx
  have x11 : (S'.2.2.1 11 (aw_hh S)).toInt = (S.2.2.1 11 (aw_hh S)).toInt - 1 := by rw [e11]; unfold upd; rw [if_pos rfl]; exact hy
  obtain ⟨k1, k2, k3, k4⟩ := hB
  refine ⟨?_, ?_, ?_, ?_⟩
  · unfold aw_kv
    rw [(fr.2 17 (by decide)).1, (fr.2 18 (by decide)).1]
    exact k1
  · obtain ⟨u, u1, u2⟩ := k2
    rw [e]
    refine ⟨u, by rw [(fr.2 5 (by decide)).1]; exact u1, fun q hq => ?_⟩
    rw [x10] at hq
    rw [(fr.2 12 (by decide)).1]
    exact u2 q (by omega)
  · rw [e]; omega
  · rw [e]; omega
theorem ar_read (hU : aw_U tb s h) (hT : ak_Ty ak_TN s (aj_mh h S)) (hB : aw_B S) (hd : 13 ≤ d) : aw_K tb h d 203 [.ref 117] S (fun r S' => ak_Ty ak_TN s (aj_mh h S') ∧ aw_fr [0, 13, 23, 24, 25, 26, 27, 28, 29, 30, 31, 32, 33, 34, 35, 36, 37, 38, 39, 40, 41, 43, 44, 45, 46, 47, 50, 51, 52, 53, 54, 56, 58, 68] [1, 2, 3, 4, 5, 6, 7, 8, 9, 10, 11, 12, 14, 15, 16, 17, 18, 19, 20, 22, 23, 24, 25, 26, 27] S S' ∧ (∃ z : Int32, r = some (.int z)) ∧ aw_B S' ∧ (S'.1 23).toInt = 0) := by
  obtain ⟨d, rfl⟩ : ∃ e, d = e + 1 := ⟨d - 1, by omega⟩
  have hG := hB
  have b0 := aw_bd_f (aw_hy_sT hU.2.2) hT (k := 0) (lo := 0) (hi := 1) (by decide) rfl
  have hs : aw_sT s := aw_hy_sT hU.2.2
  refine aw_m aj_m203_at rfl (Nat.le_of_ble_eq_true rfl) ?_
  show aw_W _ _ _ _ 0 [(0, .ref 117)] [] _ _
  obtain ⟨lv1, elv1⟩ : ∃ l : aj_V, l = [(0, .ref 117)] := ⟨_, rfl⟩
  rw [← elv1]
  have hlv1_0 : aj_lv lv1 0 = some (.ref 117) := by rw [elv1]; rfl
  have hI2 : aw_I s h (aw_sm S) S := ⟨hT, aw_sm_rf⟩
  have fr3 : aw_fr [0, 13, 23, 24, 25, 26, 27, 28, 29, 30, 31, 32, 33, 34, 35, 36, 37, 38, 39, 40, 41, 43, 44, 45, 46, 47, 50, 51, 52, 53, 54, 56, 58, 68] [1, 2, 3, 4, 5, 6, 7, 8, 9, 10, 11, 12, 14, 15, 16, 17, 18, 19, 20, 22, 23, 24, 25, 26, 27] S S := aw_fr_rf
  refine aw_l2 aj_d203 rfl rfl hlv1_0 ?_
  refine aw_n aj_d203 rfl rfl ?_
  refine aw_p hU.1 aj_d203 rfl rfl (by decide) rfl ?_
  have hI4 : aw_I s h (aw_sm (aw_wf S 24 (Int32.ofInt 0))) (aw_wf S 24 (Int32.ofInt 0)) := ⟨aw_T_f hU.2.1 hs hU.1.1 (hI2).1 (by decide) rfl (aw_full _), aw_sm_rf⟩
  have fr5 := aw_fr_f (k := 24) (v := (Int32.ofInt 0)) (by decide) fr3
  have fl6 := aw_fr_f (k := 24) (v := (Int32.ofInt 0)) (by decide) (aw_fr_rf : aw_fr [24, 25, 32, 37] [] S S)
  refine aw_l2 aj_d203 rfl rfl hlv1_0 ?_
  refine aw_n aj_d203 rfl rfl ?_
  refine aw_p hU.1 aj_d203 rfl rfl (by decide) rfl ?_
  have hI7 := aw_I_f (aw_UV hU aw_Gs_sm) (k := 25) (v := (Int32.ofInt (-1))) hI4 (by decide) (by decide) rfl (aw_full _)
  have fr8 := aw_fr_f (k := 25) (v := (Int32.ofInt (-1))) (by decide) fr5
  have fl9 := aw_fr_f (k := 25) (v := (Int32.ofInt (-1))) (by decide) fl6
  refine aw_l2 aj_d203 rfl rfl hlv1_0 ?_
  refine aw_n aj_d203 rfl rfl ?_
  refine aw_l2 aj_d203 rfl rfl hlv1_0 ?_
  have b10 : 0 ≤ (S.1 0).toInt ∧ (S.1 0).toInt ≤ 1 := aw_bd_f hs (hI2).1 (by decide) rfl
  refine aw_g hU.1 aj_d203 rfl rfl (by decide) (v := .int (S.1 0)) rfl ?_
  refine aw_sub aj_d203 rfl (a := (1 : Int)) (b := (S.1 0).toInt) rfl rfl (by omega) (by omega) (fun x11 ex11 => ?_)
  refine aw_p hU.1 aj_d203 rfl rfl (by decide) rfl ?_
  have hI12 : aw_I s h (aw_sm (aw_wf (aw_wf (aw_wf S 24 (Int32.ofInt 0)) 25 (Int32.ofInt (-1))) 37 x11)) (aw_wf (aw_wf (aw_wf S 24 (Int32.ofInt 0)) 25 (Int32.ofInt (-1))) 37 x11) := ⟨aw_T_f hU.2.1 hs hU.1.1 (hI7).1 (by decide) rfl (aw_bp (a := x11.toInt) rfl (by omega) (by omega)), aw_sm_rf⟩
  have fr13 := aw_fr_f (k := 37) (v := x11) (by decide) fr8
  have fl14 := aw_fr_f (k := 37) (v := x11) (by decide) fl9
  refine aw_l2 aj_d203 rfl rfl hlv1_0 ?_
  refine aw_n aj_d203 rfl rfl ?_
  refine aw_p hU.1 aj_d203 rfl rfl (by decide) rfl ?_
  have hI15 : aw_I s h (aw_sm (aw_wf (aw_wf (aw_wf (aw_wf S 24 (Int32.ofInt 0)) 25 (Int32.ofInt (-1))) 37 x11) 32 (Int32.ofInt 0))) (aw_wf (aw_wf (aw_wf (aw_wf S 24 (Int32.ofInt 0)) 25 (Int32.ofInt (-1))) 37 x11) 32 (Int32.ofInt 0)) := ⟨aw_T_f hU.2.1 hs hU.1.1 (hI12).1 (by decide) rfl (aw_bp (a := (0 : Int)) rfl (by omega) (by omega)), aw_sm_rf⟩
  have fr16 := aw_fr_f (k := 32) (v := (Int32.ofInt 0)) (by decide) fr13
  have fl17 := aw_fr_f (k := 32) (v := (Int32.ofInt 0)) (by decide) fl14
  refine aw_l2 aj_d203 rfl rfl hlv1_0 ?_
  have tx19 : aw_tx 0 (aw_wf (aw_wf (aw_wf (aw_wf S 24 (Int32.ofInt 0)) 25 (Int32.ofInt (-1))) 37 x11) 32 (Int32.ofInt 0)) := aw_tx_0 hB fl17 (show (x11).toInt = _ by omega) (show ((Int32.ofInt 0)).toInt = 0 by first | rfl | omega) b0
  refine aw_k hU.1 aj_d203 rfl rfl [] rfl rfl rfl (Nat.le_of_ble_eq_true rfl) (ar_text hU (hI15).1 tx19 (by omega)) ?_
  rintro _ S18 ⟨hT18, fc18, ⟨b18, rfl, hb18, hB18⟩ | ⟨b18, rfl, hb18, hG18, ke18⟩⟩
  · skip
    have fr20 := aw_fr_tr fr16 (aw_fr_sub (F := [24, 25, 26, 27, 28, 29, 30, 31, 33, 34, 35, 36, 38, 39, 40, 41, 43, 44, 45, 46, 47, 50, 51, 52, 53, 54, 56, 58]) (A := [1, 2, 3, 4, 5, 6, 7, 8, 9, 10, 11, 12, 14, 15, 16, 17, 18, 19, 20, 22, 23, 24, 25, 26, 27]) (by decide) (by decide) fc18)
    have hI21 : aw_I s h (aw_sm S18) S18 := ⟨hT18, aw_sm_rf⟩
    show aw_W _ _ _ _ 29 lv1 [.int b18] _ _
    refine aw_z (tgt := 43) aj_d203 rfl rfl (fun q22 => ?_) (fun q22 => ?_)
    · have q22 : (0 : Int) = (0 : Int) := aw_t_eq (a := (0 : Int)) (b := (0 : Int)) hb18 rfl q22
      refine aw_n aj_d203 rfl rfl ?_
      refine aw_t0 (j := 1) aj_d203 rfl (by decide) rfl ?_
      obtain ⟨lv23, elv23⟩ : ∃ l, l = aj_set1 lv1 1 (.int (Int32.ofInt 0)) := ⟨_, rfl⟩
      rw [← elv23]
      have hlv23_0 : aj_lv lv23 0 = some (.ref 117) := cw_e1 elv23 hlv1_0 (by decide) (Or.inr rfl)
      have hlv23_1 : aj_lv lv23 1 = some (.int (Int32.ofInt 0)) := by rw [elv23]; exact ak_set1_eq _ _ _
      show aw_W _ _ _ _ 45 lv23 [] _ _
      refine aw_l0 aj_d203 rfl rfl hlv23_1 ?_
      refine aw_z (tgt := 59) aj_d203 rfl rfl (fun q24 => ?_) (fun q24 => ?_)
      · have q24 : (0 : Int) = (0 : Int) := aw_t_eq (a := (0 : Int)) (b := (0 : Int)) rfl rfl q24
        have c25 : (S18.1 32).toInt = (0 : Int) := (congrArg Int32.toInt (fc18.1 32 (by decide)).1).trans rfl
        have b26 : 0 ≤ (S18.1 32).toInt ∧ (S18.1 32).toInt ≤ 1 := aw_bd_f hs (hI21).1 (by decide) rfl
        have c27 : (S18.1 37).toInt = x11.toInt := (congrArg Int32.toInt (fc18.1 37 (by decide)).1).trans rfl
        have b28 : 0 ≤ (S18.1 37).toInt ∧ (S18.1 37).toInt ≤ 1 := aw_bd_f hs (hI21).1 (by decide) rfl
        have b29 : 0 ≤ (S18.1 45).toInt ∧ (S18.1 45).toInt ≤ 12 := aw_bd_f hs (hI21).1 (by decide) rfl
        refine aw_l2 aj_d203 rfl rfl hlv23_0 ?_
        refine aw_n aj_d203 rfl rfl ?_
        refine aw_p hU.1 aj_d203 rfl rfl (by decide) rfl ?_
        have hI30 : aw_I s h (aw_sm (aw_wf S18 23 (Int32.ofInt 0))) (aw_wf S18 23 (Int32.ofInt 0)) := ⟨aw_T_f hU.2.1 hs hU.1.1 (hI21).1 (by decide) rfl (aw_bp (a := (0 : Int)) rfl (by omega) (by omega)), aw_sm_rf⟩
        have fr31 := aw_fr_f (k := 23) (v := (Int32.ofInt 0)) (by decide) fr20
        have fl32 := aw_fr_f (k := 23) (v := (Int32.ofInt 0)) (by decide) (aw_fr_rf : aw_fr [23] [] S18 S18)
        have hB33 : aw_B (aw_wf S18 23 (Int32.ofInt 0)) := aw_B_fr hB18 (by decide) (by decide) (by decide) (by decide) (by decide) (by decide) (by decide) fl32
        have hI34 : aw_I s h (aw_sm (aw_wf S18 23 (Int32.ofInt 0))) (aw_wf S18 23 (Int32.ofInt 0)) := ⟨(hI30).1, aw_sm_rf⟩
        refine aw_l0 aj_d203 rfl rfl hlv23_1 ?_
        refine aw_z (tgt := 73) aj_d203 rfl rfl (fun q35 => ?_) (fun q35 => ?_)
        · have q35 : (0 : Int) ≠ (0 : Int) := aw_t_ne (a := (0 : Int)) (b := (0 : Int)) rfl rfl q35
          exfalso
          omega
        · have q35 : (0 : Int) = (0 : Int) := aw_t_ne (a := (0 : Int)) (b := (0 : Int)) rfl rfl q35
          refine aw_l2 aj_d203 rfl rfl hlv23_0 ?_
          refine aw_g hU.1 aj_d203 rfl rfl (by decide) (v := .int (S18.1 24)) rfl ?_
          refine aw_e aj_d203 rfl rfl ?_
          exact ⟨(hI34).1, fr31, ⟨_, rfl⟩, hB33, (show ((Int32.ofInt 0)).toInt = 0 by first | rfl | omega)⟩
      · have q24 : (0 : Int) ≠ (0 : Int) := aw_t_eq (a := (0 : Int)) (b := (0 : Int)) rfl rfl q24
        exfalso
        omega
    · have q22 : (0 : Int) ≠ (0 : Int) := aw_t_eq (a := (0 : Int)) (b := (0 : Int)) hb18 rfl q22
      exfalso
      omega
  · skip
    have fr36 := aw_fr_tr fr16 (aw_fr_sub (F := [24, 25, 26, 27, 28, 29, 30, 31, 33, 34, 35, 36, 38, 39, 40, 41, 43, 44, 45, 46, 47, 50, 51, 52, 53, 54, 56, 58]) (A := [1, 2, 3, 4, 5, 6, 7, 8, 9, 10, 11, 12, 14, 15, 16, 17, 18, 19, 20, 22, 23, 24, 25, 26, 27]) (by decide) (by decide) fc18)
    have hI37 : aw_I s h (aw_sm S18) S18 := ⟨hT18, aw_sm_rf⟩
    show aw_W _ _ _ _ 29 lv1 [.int b18] _ _
    have c38 : (S18.1 32).toInt = (0 : Int) := (congrArg Int32.toInt (fc18.1 32 (by decide)).1).trans rfl
    have b39 : 0 ≤ (S18.1 32).toInt ∧ (S18.1 32).toInt ≤ 1 := aw_bd_f hs (hI37).1 (by decide) rfl
    refine aw_z (tgt := 43) aj_d203 rfl rfl (fun q40 => ?_) (fun q40 => ?_)
    · have q40 : (1 : Int) = (0 : Int) := aw_t_eq (a := (1 : Int)) (b := (0 : Int)) hb18 rfl q40
      exfalso
      omega
    · have q40 : (1 : Int) ≠ (0 : Int) := aw_t_eq (a := (1 : Int)) (b := (0 : Int)) hb18 rfl q40
      refine aw_l2 aj_d203 rfl rfl hlv1_0 ?_
      refine aw_g hU.1 aj_d203 rfl rfl (by decide) (v := .int (S18.1 24)) rfl ?_
      refine aw_z (tgt := 43) aj_d203 rfl rfl (fun q41 => ?_) (fun q41 => ?_)
      · have q41 : (S18.1 24).toInt ≠ (0 : Int) := aw_t_ne (a := (S18.1 24).toInt) (b := (0 : Int)) rfl rfl q41
        refine aw_n aj_d203 rfl rfl ?_
        refine aw_t0 (j := 1) aj_d203 rfl (by decide) rfl ?_
        obtain ⟨lv42, elv42⟩ : ∃ l, l = aj_set1 lv1 1 (.int (Int32.ofInt 0)) := ⟨_, rfl⟩
        rw [← elv42]
        have hlv42_0 : aj_lv lv42 0 = some (.ref 117) := cw_e1 elv42 hlv1_0 (by decide) (Or.inr rfl)
        have hlv42_1 : aj_lv lv42 1 = some (.int (Int32.ofInt 0)) := by rw [elv42]; exact ak_set1_eq _ _ _
        show aw_W _ _ _ _ 45 lv42 [] _ _
        refine aw_l0 aj_d203 rfl rfl hlv42_1 ?_
        refine aw_z (tgt := 59) aj_d203 rfl rfl (fun q43 => ?_) (fun q43 => ?_)
        · have q43 : (0 : Int) = (0 : Int) := aw_t_eq (a := (0 : Int)) (b := (0 : Int)) rfl rfl q43
          have hB44 : aw_B S18 := aw_G_B hG18
          have hI45 : aw_I s h (aw_sm S18) S18 := ⟨(hI37).1, aw_sm_rf⟩
          have c46 : (S18.1 37).toInt = x11.toInt := (congrArg Int32.toInt (fc18.1 37 (by decide)).1).trans rfl
          have b47 : 0 ≤ (S18.1 37).toInt ∧ (S18.1 37).toInt ≤ 1 := aw_bd_f hs (hI37).1 (by decide) rfl
          have b48 : 0 ≤ (S18.1 45).toInt ∧ (S18.1 45).toInt ≤ 12 := aw_bd_f hs (hI37).1 (by decide) rfl
          refine aw_l2 aj_d203 rfl rfl hlv42_0 ?_
          refine aw_n aj_d203 rfl rfl ?_
          refine aw_p hU.1 aj_d203 rfl rfl (by decide) rfl ?_
          have hI49 : aw_I s h (aw_sm (aw_wf S18 23 (Int32.ofInt 0))) (aw_wf S18 23 (Int32.ofInt 0)) := ⟨aw_T_f hU.2.1 hs hU.1.1 (hI45).1 (by decide) rfl (aw_bp (a := (0 : Int)) rfl (by omega) (by omega)), aw_sm_rf⟩
          have fr50 := aw_fr_f (k := 23) (v := (Int32.ofInt 0)) (by decide) fr36
          have fl51 := aw_fr_f (k := 23) (v := (Int32.ofInt 0)) (by decide) (aw_fr_rf : aw_fr [23] [] S18 S18)
          have hB52 : aw_B (aw_wf S18 23 (Int32.ofInt 0)) := aw_B_fr hB44 (by decide) (by decide) (by decide) (by decide) (by decide) (by decide) (by decide) fl51
          have hI53 : aw_I s h (aw_sm (aw_wf S18 23 (Int32.ofInt 0))) (aw_wf S18 23 (Int32.ofInt 0)) := ⟨(hI49).1, aw_sm_rf⟩
          refine aw_l0 aj_d203 rfl rfl hlv42_1 ?_
          refine aw_z (tgt := 73) aj_d203 rfl rfl (fun q54 => ?_) (fun q54 => ?_)
          · have q54 : (0 : Int) ≠ (0 : Int) := aw_t_ne (a := (0 : Int)) (b := (0 : Int)) rfl rfl q54
            exfalso
            omega
          · have q54 : (0 : Int) = (0 : Int) := aw_t_ne (a := (0 : Int)) (b := (0 : Int)) rfl rfl q54
            refine aw_l2 aj_d203 rfl rfl hlv42_0 ?_
            refine aw_g hU.1 aj_d203 rfl rfl (by decide) (v := .int (S18.1 24)) rfl ?_
            refine aw_e aj_d203 rfl rfl ?_
            exact ⟨(hI53).1, fr50, ⟨_, rfl⟩, hB52, (show ((Int32.ofInt 0)).toInt = 0 by first | rfl | omega)⟩
        · have q43 : (0 : Int) ≠ (0 : Int) := aw_t_eq (a := (0 : Int)) (b := (0 : Int)) rfl rfl q43
          exfalso
          omega
      · have q41 : (S18.1 24).toInt = (0 : Int) := aw_t_ne (a := (S18.1 24).toInt) (b := (0 : Int)) rfl rfl q41
        refine aw_n aj_d203 rfl rfl ?_
        refine aw_n aj_d203 rfl rfl ?_
        refine aw_t0 (j := 1) aj_d203 rfl (by decide) rfl ?_
        obtain ⟨lv55, elv55⟩ : ∃ l, l = aj_set1 lv1 1 (.int (Int32.ofInt 1)) := ⟨_, rfl⟩
        rw [← elv55]
        have hlv55_0 : aj_lv lv55 0 = some (.ref 117) := cw_e1 elv55 hlv1_0 (by decide) (Or.inr rfl)
        have hlv55_1 : aj_lv lv55 1 = some (.int (Int32.ofInt 1)) := by rw [elv55]; exact ak_set1_eq _ _ _
        show aw_W _ _ _ _ 45 lv55 [] _ _
        refine aw_l0 aj_d203 rfl rfl hlv55_1 ?_
        refine aw_z (tgt := 59) aj_d203 rfl rfl (fun q56 => ?_) (fun q56 => ?_)
        · have q56 : (1 : Int) = (0 : Int) := aw_t_eq (a := (1 : Int)) (b := (0 : Int)) rfl rfl q56
          exfalso
          omega
        · have q56 : (1 : Int) ≠ (0 : Int) := aw_t_eq (a := (1 : Int)) (b := (0 : Int)) rfl rfl q56
          have b57 : 0 ≤ (S18.1 26).toInt ∧ (S18.1 26).toInt ≤ 5 := aw_bd_f hs (hI37).1 (by decide) rfl
          refine aw_l2 aj_d203 rfl rfl hlv55_0 ?_
          refine aw_n aj_d203 rfl rfl ?_
          refine aw_p hU.1 aj_d203 rfl rfl (by decide) rfl ?_
          have hI58 : aw_I s h (aw_sm (aw_wf S18 32 (Int32.ofInt 1))) (aw_wf S18 32 (Int32.ofInt 1)) := ⟨aw_T_f hU.2.1 hs hU.1.1 (hI37).1 (by decide) rfl (aw_bp (a := (1 : Int)) rfl (by omega) (by omega)), aw_sm_rf⟩
          have fr59 := aw_fr_f (k := 32) (v := (Int32.ofInt 1)) (by decide) fr36
          have fl60 := aw_fr_f (k := 32) (v := (Int32.ofInt 1)) (by decide) (aw_fr_rf : aw_fr [32] [] S18 S18)
          refine aw_l2 aj_d203 rfl rfl hlv55_0 ?_
          have tx62 : aw_tx (aw_tJ S18) (aw_wf S18 32 (Int32.ofInt 1)) := aw_tx_1 hG18 (by omega) (by omega) (by omega) fl60
          refine aw_k hU.1 aj_d203 rfl rfl [] rfl rfl rfl (Nat.le_of_ble_eq_true rfl) (ar_text hU (hI58).1 tx62 (by omega)) ?_
          rintro _ S61 ⟨hT61, fc61, ⟨b61, rfl, hb61, hB61⟩ | ⟨b61, rfl, hb61, hG61, ke61⟩⟩
          · skip
            have fr63 := aw_fr_tr fr59 (aw_fr_sub (F := [24, 25, 26, 27, 28, 29, 30, 31, 33, 34, 35, 36, 38, 39, 40, 41, 43, 44, 45, 46, 47, 50, 51, 52, 53, 54, 56, 58]) (A := [1, 2, 3, 4, 5, 6, 7, 8, 9, 10, 11, 12, 14, 15, 16, 17, 18, 19, 20, 22, 23, 24, 25, 26, 27]) (by decide) (by decide) fc61)
            have hI64 : aw_I s h (aw_sm S61) S61 := ⟨hT61, aw_sm_rf⟩
            show aw_W _ _ _ _ 58 lv55 [.int b61] _ _
            refine aw_t0 (j := 1) aj_d203 rfl (by decide) rfl ?_
            obtain ⟨lv65, elv65⟩ : ∃ l, l = aj_set1 lv55 1 (.int b61) := ⟨_, rfl⟩
            rw [← elv65]
            have hlv65_0 : aj_lv lv65 0 = some (.ref 117) := cw_e1 elv65 hlv55_0 (by decide) (Or.inr rfl)
            have hlv65_1 : aj_lv lv65 1 = some (.int b61) := by rw [elv65]; exact ak_set1_eq _ _ _
            show aw_W _ _ _ _ 59 lv65 [] _ _
            have c66 : (S61.1 32).toInt = (1 : Int) := (congrArg Int32.toInt (fc61.1 32 (by decide)).1).trans rfl
            have b67 : 0 ≤ (S61.1 32).toInt ∧ (S61.1 32).toInt ≤ 1 := aw_bd_f hs (hI64).1 (by decide) rfl
            have c68 : (S18.1 37).toInt = x11.toInt := (congrArg Int32.toInt (fc18.1 37 (by decide)).1).trans rfl
            have b69 : 0 ≤ (S18.1 37).toInt ∧ (S18.1 37).toInt ≤ 1 := aw_bd_f hs (hI37).1 (by decide) rfl
            have c70 : (S61.1 37).toInt = x11.toInt := (congrArg Int32.toInt (fc61.1 37 (by decide)).1).trans c68
            have b71 : 0 ≤ (S61.1 37).toInt ∧ (S61.1 37).toInt ≤ 1 := aw_bd_f hs (hI64).1 (by decide) rfl
            have b72 : 0 ≤ (S61.1 45).toInt ∧ (S61.1 45).toInt ≤ 12 := aw_bd_f hs (hI64).1 (by decide) rfl
            refine aw_l2 aj_d203 rfl rfl hlv65_0 ?_
            refine aw_n aj_d203 rfl rfl ?_
            refine aw_p hU.1 aj_d203 rfl rfl (by decide) rfl ?_
            have hI73 : aw_I s h (aw_sm (aw_wf S61 23 (Int32.ofInt 0))) (aw_wf S61 23 (Int32.ofInt 0)) := ⟨aw_T_f hU.2.1 hs hU.1.1 (hI64).1 (by decide) rfl (aw_bp (a := (0 : Int)) rfl (by omega) (by omega)), aw_sm_rf⟩
            have fr74 := aw_fr_f (k := 23) (v := (Int32.ofInt 0)) (by decide) fr63
            have fl75 := aw_fr_f (k := 23) (v := (Int32.ofInt 0)) (by decide) (aw_fr_rf : aw_fr [23] [] S61 S61)
            have hB76 : aw_B (aw_wf S61 23 (Int32.ofInt 0)) := aw_B_fr hB61 (by decide) (by decide) (by decide) (by decide) (by decide) (by decide) (by decide) fl75
            have hI77 : aw_I s h (aw_sm (aw_wf S61 23 (Int32.ofInt 0))) (aw_wf S61 23 (Int32.ofInt 0)) := ⟨(hI73).1, aw_sm_rf⟩
            refine aw_l0 aj_d203 rfl rfl hlv65_1 ?_
            refine aw_z (tgt := 73) aj_d203 rfl rfl (fun q78 => ?_) (fun q78 => ?_)
            · have q78 : (0 : Int) ≠ (0 : Int) := aw_t_ne (a := (0 : Int)) (b := (0 : Int)) hb61 rfl q78
              exfalso
              omega
            · have q78 : (0 : Int) = (0 : Int) := aw_t_ne (a := (0 : Int)) (b := (0 : Int)) hb61 rfl q78
              refine aw_l2 aj_d203 rfl rfl hlv65_0 ?_
              refine aw_g hU.1 aj_d203 rfl rfl (by decide) (v := .int (S61.1 24)) rfl ?_
              refine aw_e aj_d203 rfl rfl ?_
              exact ⟨(hI77).1, fr74, ⟨_, rfl⟩, hB76, (show ((Int32.ofInt 0)).toInt = 0 by first | rfl | omega)⟩
          · skip
            have fr79 := aw_fr_tr fr59 (aw_fr_sub (F := [24, 25, 26, 27, 28, 29, 30, 31, 33, 34, 35, 36, 38, 39, 40, 41, 43, 44, 45, 46, 47, 50, 51, 52, 53, 54, 56, 58]) (A := [1, 2, 3, 4, 5, 6, 7, 8, 9, 10, 11, 12, 14, 15, 16, 17, 18, 19, 20, 22, 23, 24, 25, 26, 27]) (by decide) (by decide) fc61)
            have hI80 : aw_I s h (aw_sm S61) S61 := ⟨hT61, aw_sm_rf⟩
            show aw_W _ _ _ _ 58 lv55 [.int b61] _ _
            have c81 : (S61.1 32).toInt = (1 : Int) := (congrArg Int32.toInt (fc61.1 32 (by decide)).1).trans rfl
            have b82 : 0 ≤ (S61.1 32).toInt ∧ (S61.1 32).toInt ≤ 1 := aw_bd_f hs (hI80).1 (by decide) rfl
            refine aw_t0 (j := 1) aj_d203 rfl (by decide) rfl ?_
            obtain ⟨lv83, elv83⟩ : ∃ l, l = aj_set1 lv55 1 (.int b61) := ⟨_, rfl⟩
            rw [← elv83]
            have hlv83_0 : aj_lv lv83 0 = some (.ref 117) := cw_e1 elv83 hlv55_0 (by decide) (Or.inr rfl)
            have hlv83_1 : aj_lv lv83 1 = some (.int b61) := by rw [elv83]; exact ak_set1_eq _ _ _
            show aw_W _ _ _ _ 59 lv83 [] _ _
            have c84 : (S18.1 37).toInt = x11.toInt := (congrArg Int32.toInt (fc18.1 37 (by decide)).1).trans rfl
            have b85 : 0 ≤ (S18.1 37).toInt ∧ (S18.1 37).toInt ≤ 1 := aw_bd_f hs (hI37).1 (by decide) rfl
            have c86 : (S61.1 37).toInt = x11.toInt := (congrArg Int32.toInt (fc61.1 37 (by decide)).1).trans c84
            have b87 : 0 ≤ (S61.1 37).toInt ∧ (S61.1 37).toInt ≤ 1 := aw_bd_f hs (hI80).1 (by decide) rfl
            have b88 : 0 ≤ (S61.1 45).toInt ∧ (S61.1 45).toInt ≤ 12 := aw_bd_f hs (hI80).1 (by decide) rfl
            refine aw_l2 aj_d203 rfl rfl hlv83_0 ?_
            refine aw_n aj_d203 rfl rfl ?_
            refine aw_p hU.1 aj_d203 rfl rfl (by decide) rfl ?_
            have hI89 : aw_I s h (aw_sm (aw_wf S61 23 (Int32.ofInt 0))) (aw_wf S61 23 (Int32.ofInt 0)) := ⟨aw_T_f hU.2.1 hs hU.1.1 (hI80).1 (by decide) rfl (aw_bp (a := (0 : Int)) rfl (by omega) (by omega)), aw_sm_rf⟩
            have fr90 := aw_fr_f (k := 23) (v := (Int32.ofInt 0)) (by decide) fr79
            have fl91 := aw_fr_f (k := 23) (v := (Int32.ofInt 0)) (by decide) (aw_fr_rf : aw_fr [0, 13, 23, 68] [] S61 S61)
            refine aw_l0 aj_d203 rfl rfl hlv83_1 ?_
            refine aw_z (tgt := 73) aj_d203 rfl rfl (fun q92 => ?_) (fun q92 => ?_)
            · have q92 : (1 : Int) ≠ (0 : Int) := aw_t_ne (a := (1 : Int)) (b := (0 : Int)) hb61 rfl q92
              refine aw_l2 aj_d203 rfl rfl hlv83_0 ?_
              refine aw_l2 aj_d203 rfl rfl hlv83_0 ?_
              refine aw_g hU.1 aj_d203 rfl rfl (by decide) (v := .int (S61.1 37)) rfl ?_
              refine aw_p hU.1 aj_d203 rfl rfl (by decide) rfl ?_
              have hI93 : aw_I s h (aw_sm (aw_wf (aw_wf S61 23 (Int32.ofInt 0)) 0 (S61.1 37))) (aw_wf (aw_wf S61 23 (Int32.ofInt 0)) 0 (S61.1 37)) := ⟨aw_T_f hU.2.1 hs hU.1.1 (hI89).1 (by decide) rfl (aw_bp (a := x11.toInt) c86 (by omega) (by omega)), aw_sm_rf⟩
              have fr94 := aw_fr_f (k := 0) (v := (S61.1 37)) (by decide) fr90
              have fl95 := aw_fr_f (k := 0) (v := (S61.1 37)) (by decide) fl91
              refine aw_l2 aj_d203 rfl rfl hlv83_0 ?_
              refine aw_n aj_d203 rfl rfl ?_
              refine aw_p hU.1 aj_d203 rfl rfl (by decide) rfl ?_
              have hI96 := aw_I_f (aw_UV hU aw_Gs_sm) (k := 13) (v := (Int32.ofInt 0)) hI93 (by decide) (by decide) rfl (aw_bp (a := (0 : Int)) rfl (by omega) (by omega))
              have fr97 := aw_fr_f (k := 13) (v := (Int32.ofInt 0)) (by decide) fr94
              have fl98 := aw_fr_f (k := 13) (v := (Int32.ofInt 0)) (by decide) fl95
              refine aw_l2 aj_d203 rfl rfl hlv83_0 ?_
              refine aw_n aj_d203 rfl rfl ?_
              refine aw_g hU.1 aj_d203 rfl rfl (by decide) (v := .long (S61.2.1 68)) rfl ?_
              refine aw_anyl aj_d203 rfl rfl (fun y99 ey99 => ?_)
              refine aw_anyl aj_d203 rfl rfl (fun y100 ey100 => ?_)
              refine aw_pl hU.1 aj_d203 rfl rfl (by decide) rfl ?_
              have hI101 := aw_I_l (aw_UV hU aw_Gs_sm) (k := 68) (v := y100) hI96 (by decide)
              have fr102 := aw_fr_l (k := 68) (v := y100) (by decide) fr97
              have fl103 := aw_fr_l (k := 68) (v := y100) (by decide) fl98
              refine aw_n aj_d203 rfl rfl ?_
              refine aw_e aj_d203 rfl rfl ?_
              have hBe : aw_B (aw_wl (aw_wf (aw_wf (aw_wf S61 23 (Int32.ofInt 0)) 0 (S61.1 37)) 13 (Int32.ofInt 0)) 68 y100) := aw_B_half hG61 (show (S61.1 32).toInt = 1 by omega) fl103 (show ((S61.1 37)).toInt = _ by omega) (show (S61.1 45).toInt ≤ 12 by omega) (aw_bd_a hs hI80.1 (k := 10) (j := aw_h S61) (lo := 0) (hi := 20) (by decide) (by decide) rfl (by decide) rfl (by unfold aw_h; omega)).1
              exact ⟨(hI101).1, fr102, ⟨_, rfl⟩, hBe, (show ((Int32.ofInt 0)).toInt = 0 by first | rfl | omega)⟩
            · have q92 : (1 : Int) = (0 : Int) := aw_t_ne (a := (1 : Int)) (b := (0 : Int)) hb61 rfl q92
              exfalso
              omega
theorem ar_asks (hU : aw_U tb s h) (hT : ak_Ty ak_TN s (aj_mh h S)) (hG : aw_B S) (hd : 9 ≤ d) : aw_K tb h d 282 [.ref 117] S (fun r S' => ak_Ty ak_TN s (aj_mh h S') ∧ aw_fr [23, 24, 25, 26, 27, 28, 29, 30, 31, 32, 33, 34, 35, 36, 37, 38, 39, 40, 41, 43, 44, 45, 46, 47] [20, 22] S S' ∧ (∃ b : Int32, r = some (.int b) ∧ 0 ≤ b.toInt ∧ b.toInt ≤ 1) ∧ aw_B S' ∧ (S'.1 23).toInt = 0) := by
  obtain ⟨d, rfl⟩ : ∃ e, d = e + 1 := ⟨d - 1, by omega⟩
  have hs : aw_sT s := aw_hy_sT hU.2.2
  refine aw_m aj_m282_at rfl (Nat.le_of_ble_eq_true rfl) ?_
  show aw_W _ _ _ _ 0 [(0, .ref 117)] [] _ _
  obtain ⟨lv104, elv104⟩ : ∃ l : aj_V, l = [(0, .ref 117)] := ⟨_, rfl⟩
  rw [← elv104]
  have hlv104_0 : aj_lv lv104 0 = some (.ref 117) := by rw [elv104]; rfl
  have hI105 : aw_I s h (aw_sm S) S := ⟨hT, aw_sm_rf⟩
  have fr106 : aw_fr [23, 24, 25, 26, 27, 28, 29, 30, 31, 32, 33, 34, 35, 36, 37, 38, 39, 40, 41, 43, 44, 45, 46, 47] [20, 22] S S := aw_fr_rf
  refine aw_l2 aj_d282 rfl rfl hlv104_0 ?_
  refine aw_n aj_d282 rfl rfl ?_
  refine aw_p hU.1 aj_d282 rfl rfl (by decide) rfl ?_
  have hI107 : aw_I s h (aw_sm (aw_wf S 24 (Int32.ofInt 0))) (aw_wf S 24 (Int32.ofInt 0)) := ⟨aw_T_f hU.2.1 hs hU.1.1 (hI105).1 (by decide) rfl (aw_full _), aw_sm_rf⟩
  have fr108 := aw_fr_f (k := 24) (v := (Int32.ofInt 0)) (by decide) fr106
  have fl109 := aw_fr_f (k := 24) (v := (Int32.ofInt 0)) (by decide) (aw_fr_rf : aw_fr [24, 25, 26, 27, 28, 29, 30, 31, 32, 37, 41, 45, 46, 47] [] S S)
  refine aw_l2 aj_d282 rfl rfl hlv104_0 ?_
  refine aw_n aj_d282 rfl rfl ?_
  refine aw_p hU.1 aj_d282 rfl rfl (by decide) rfl ?_
  have hI110 := aw_I_f (aw_UV hU aw_Gs_sm) (k := 25) (v := (Int32.ofInt (-1))) hI107 (by decide) (by decide) rfl (aw_full _)
  have fr111 := aw_fr_f (k := 25) (v := (Int32.ofInt (-1))) (by decide) fr108
  have fl112 := aw_fr_f (k := 25) (v := (Int32.ofInt (-1))) (by decide) fl109
  refine aw_l2 aj_d282 rfl rfl hlv104_0 ?_
  refine aw_l2 aj_d282 rfl rfl hlv104_0 ?_
  have b113 : 0 ≤ (S.1 0).toInt ∧ (S.1 0).toInt ≤ 1 := aw_bd_f hs (hI105).1 (by decide) rfl
  refine aw_g hU.1 aj_d282 rfl rfl (by decide) (v := .int (S.1 0)) rfl ?_
  refine aw_p hU.1 aj_d282 rfl rfl (by decide) rfl ?_
  have hI114 : aw_I s h (aw_sm (aw_wf (aw_wf (aw_wf S 24 (Int32.ofInt 0)) 25 (Int32.ofInt (-1))) 37 (S.1 0))) (aw_wf (aw_wf (aw_wf S 24 (Int32.ofInt 0)) 25 (Int32.ofInt (-1))) 37 (S.1 0)) := ⟨aw_T_f hU.2.1 hs hU.1.1 (hI110).1 (by decide) rfl (aw_bp (a := (S.1 0).toInt) rfl (by omega) (by omega)), aw_sm_rf⟩
  have fr115 := aw_fr_f (k := 37) (v := (S.1 0)) (by decide) fr111
  have fl116 := aw_fr_f (k := 37) (v := (S.1 0)) (by decide) fl112
  refine aw_l2 aj_d282 rfl rfl hlv104_0 ?_
  refine aw_n aj_d282 rfl rfl ?_
  refine aw_p hU.1 aj_d282 rfl rfl (by decide) rfl ?_
  have hI117 : aw_I s h (aw_sm (aw_wf (aw_wf (aw_wf (aw_wf S 24 (Int32.ofInt 0)) 25 (Int32.ofInt (-1))) 37 (S.1 0)) 32 (Int32.ofInt 0))) (aw_wf (aw_wf (aw_wf (aw_wf S 24 (Int32.ofInt 0)) 25 (Int32.ofInt (-1))) 37 (S.1 0)) 32 (Int32.ofInt 0)) := ⟨aw_T_f hU.2.1 hs hU.1.1 (hI114).1 (by decide) rfl (aw_bp (a := (0 : Int)) rfl (by omega) (by omega)), aw_sm_rf⟩
  have fr118 := aw_fr_f (k := 32) (v := (Int32.ofInt 0)) (by decide) fr115
  have fl119 := aw_fr_f (k := 32) (v := (Int32.ofInt 0)) (by decide) fl116
  refine aw_l2 aj_d282 rfl rfl hlv104_0 ?_
  refine aw_k hU.1 aj_d282 rfl rfl [] rfl rfl rfl (Nat.le_of_ble_eq_true rfl) (ar_start hU (hI117).1 (by omega)) ?_
  rintro _ S120 ⟨rfl, hT120, fc120, j120, z120, y120, ga120⟩
  have fr121 := aw_fr_tr fr118 (aw_fr_sub (F := [26, 27, 28, 29, 30, 31, 41, 45, 46, 47]) (A := []) (by decide) (by decide) fc120)
  have fl122 := aw_fr_tr fl119 (aw_fr_sub (F := [26, 27, 28, 29, 30, 31, 41, 45, 46, 47]) (A := []) (by decide) (by decide) fc120)
  have hI123 : aw_I s h (aw_sm S120) S120 := ⟨hT120, aw_sm_rf⟩
  have c124 : (S120.1 37).toInt = (S.1 0).toInt := (congrArg Int32.toInt (fc120.1 37 (by decide)).1).trans rfl
  have b125 : 0 ≤ (S120.1 37).toInt ∧ (S120.1 37).toInt ≤ 1 := aw_bd_f hs (hI123).1 (by decide) rfl
  have c126 : (S120.1 0).toInt = (S.1 0).toInt := (congrArg Int32.toInt (fc120.1 0 (by decide)).1).trans rfl
  have b127 : 0 ≤ (S120.1 0).toInt ∧ (S120.1 0).toInt ≤ 1 := aw_bd_f hs (hI123).1 (by decide) rfl
  have c128 : (S120.1 32).toInt = (0 : Int) := (congrArg Int32.toInt (fc120.1 32 (by decide)).1).trans rfl
  have b129 : 0 ≤ (S120.1 32).toInt ∧ (S120.1 32).toInt ≤ 1 := aw_bd_f hs (hI123).1 (by decide) rfl
  have hB120 : aw_B S120 := aw_B_fr hG (by decide) (by decide) (by decide) (by decide) (by decide) (by decide) (by decide) fl122
  have hh120 : aw_h S120 = aw_hh S120 := by
    unfold aw_h aw_hh
    rw [show (S120.1 37).toInt = (S120.1 0).toInt from (show ((S120.1 37)).toInt = ((S120.1 0)).toInt by omega)]
  have hG130 : aw_G ((fun v => ∃ u : Nat, (u : Int) < (S120.2.2.1 1 (aw_h S120)).toInt ∧ S120.2.2.2 2 (aw_h S120 * 8 + u) = v), true, 0, 0, 0, 0) S120 := aw_G_ask hB120 ga120 j120 hh120 (fun _ => Iff.rfl) (fun z => absurd (show ((S120.1 32)).toInt = 1 from z) (by omega))
  have hI131 : aw_I s h (aw_sm S120) S120 := ⟨(hI123).1, aw_sm_rf⟩
  show aw_W _ _ _ _ 27 lv104 [] _ _
  refine aw_l2 aj_d282 rfl rfl hlv104_0 ?_
  have b133 : 0 ≤ (S120.1 30).toInt ∧ (S120.1 30).toInt ≤ 1001 := aw_bd_f hs (hI123).1 (by decide) rfl
  refine aw_k hU.1 aj_d282 rfl rfl [] rfl rfl rfl (Nat.le_of_ble_eq_true rfl) (ar_condition hU (hI131).1 hG130 (by omega)) ?_
  rintro _ S132 ⟨hT132, fc132, ⟨b132, rfl, hb132, hG132, ck132⟩ | ⟨b132, rfl, hb132, hG132, ck132, ex132⟩⟩
  · skip
    have ck132 : ((S120.1 30)).toInt ≤ (S132.1 30).toInt := ck132
    have fr134 := aw_fr_tr fr121 (aw_fr_sub (F := [24, 25, 26, 27, 28, 29, 30, 31, 33, 34, 35, 36, 38, 39, 40, 41, 43, 44]) (A := [20, 22]) (by decide) (by decide) fc132)
    have hI135 : aw_I s h (aw_sm S132) S132 := ⟨hT132, aw_sm_rf⟩
    show aw_W _ _ _ _ 31 lv104 [.int b132] _ _
    refine aw_z (tgt := 64) aj_d282 rfl rfl (fun q136 => ?_) (fun q136 => ?_)
    · have q136 : (0 : Int) = (0 : Int) := aw_t_eq (a := (0 : Int)) (b := (0 : Int)) hb132 rfl q136
      refine aw_n aj_d282 rfl rfl ?_
      refine aw_t0 (j := 1) aj_d282 rfl (by decide) rfl ?_
      obtain ⟨lv137, elv137⟩ : ∃ l, l = aj_set1 lv104 1 (.int (Int32.ofInt 0)) := ⟨_, rfl⟩
      rw [← elv137]
      have hlv137_0 : aj_lv lv137 0 = some (.ref 117) := cw_e1 elv137 hlv104_0 (by decide) (Or.inr rfl)
      have hlv137_1 : aj_lv lv137 1 = some (.int (Int32.ofInt 0)) := by rw [elv137]; exact ak_set1_eq _ _ _
      show aw_W _ _ _ _ 66 lv137 [] _ _
      refine aw_l0 aj_d282 rfl rfl hlv137_1 ?_
      refine aw_z (tgt := 84) aj_d282 rfl rfl (fun q138 => ?_) (fun q138 => ?_)
      · have q138 : (0 : Int) = (0 : Int) := aw_t_eq (a := (0 : Int)) (b := (0 : Int)) rfl rfl q138
        have hB139 : aw_B S132 := aw_G_B hG132
        have hI140 : aw_I s h (aw_sm S132) S132 := ⟨(hI135).1, aw_sm_rf⟩
        refine aw_l2 aj_d282 rfl rfl hlv137_0 ?_
        refine aw_n aj_d282 rfl rfl ?_
        refine aw_p hU.1 aj_d282 rfl rfl (by decide) rfl ?_
        have hI141 : aw_I s h (aw_sm (aw_wf S132 23 (Int32.ofInt 0))) (aw_wf S132 23 (Int32.ofInt 0)) := ⟨aw_T_f hU.2.1 hs hU.1.1 (hI140).1 (by decide) rfl (aw_bp (a := (0 : Int)) rfl (by omega) (by omega)), aw_sm_rf⟩
        have fr142 := aw_fr_f (k := 23) (v := (Int32.ofInt 0)) (by decide) fr134
        have fl143 := aw_fr_f (k := 23) (v := (Int32.ofInt 0)) (by decide) (aw_fr_rf : aw_fr [23] [] S132 S132)
        have hB144 : aw_B (aw_wf S132 23 (Int32.ofInt 0)) := aw_B_fr hB139 (by decide) (by decide) (by decide) (by decide) (by decide) (by decide) (by decide) fl143
        have hI145 : aw_I s h (aw_sm (aw_wf S132 23 (Int32.ofInt 0))) (aw_wf S132 23 (Int32.ofInt 0)) := ⟨(hI141).1, aw_sm_rf⟩
        refine aw_l0 aj_d282 rfl rfl hlv137_1 ?_
        refine aw_e aj_d282 rfl rfl ?_
        exact ⟨(hI145).1, fr142, ⟨_, rfl, by first | decide | omega⟩, hB144, (show ((Int32.ofInt 0)).toInt = 0 by first | rfl | omega)⟩
      · have q138 : (0 : Int) ≠ (0 : Int) := aw_t_eq (a := (0 : Int)) (b := (0 : Int)) rfl rfl q138
        exfalso
        omega
    · have q136 : (0 : Int) ≠ (0 : Int) := aw_t_eq (a := (0 : Int)) (b := (0 : Int)) hb132 rfl q136
      exfalso
      omega
  · skip
    have ck132 : ((S120.1 30)).toInt + 1 ≤ (S132.1 30).toInt := ck132
    have fr146 := aw_fr_tr fr121 (aw_fr_sub (F := [24, 25, 26, 27, 28, 29, 30, 31, 33, 34, 35, 36, 38, 39, 40, 41, 43, 44]) (A := [20, 22]) (by decide) (by decide) fc132)
    have hI147 : aw_I s h (aw_sm S132) S132 := ⟨hT132, aw_sm_rf⟩
    show aw_W _ _ _ _ 31 lv104 [.int b132] _ _
    refine aw_z (tgt := 64) aj_d282 rfl rfl (fun q148 => ?_) (fun q148 => ?_)
    · have q148 : (1 : Int) = (0 : Int) := aw_t_eq (a := (1 : Int)) (b := (0 : Int)) hb132 rfl q148
      exfalso
      omega
    · have q148 : (1 : Int) ≠ (0 : Int) := aw_t_eq (a := (1 : Int)) (b := (0 : Int)) hb132 rfl q148
      refine aw_l2 aj_d282 rfl rfl hlv104_0 ?_
      have b149 : 0 ≤ (S132.1 26).toInt ∧ (S132.1 26).toInt ≤ 5 := aw_bd_f hs (hI147).1 (by decide) rfl
      refine aw_g hU.1 aj_d282 rfl rfl (by decide) (v := .int (S132.1 26)) rfl ?_
      refine aw_z (tgt := 53) aj_d282 rfl rfl (fun q150 => ?_) (fun q150 => ?_)
      · have q150 : (S132.1 26).toInt = (0 : Int) := aw_t_eq (a := (S132.1 26).toInt) (b := (0 : Int)) rfl rfl q150
        refine aw_l2 aj_d282 rfl rfl hlv104_0 ?_
        refine aw_g hU.1 aj_d282 rfl rfl (by decide) (v := .int (S132.1 24)) rfl ?_
        refine aw_z (tgt := 64) aj_d282 rfl rfl (fun q151 => ?_) (fun q151 => ?_)
        · have q151 : (S132.1 24).toInt ≠ (0 : Int) := aw_t_ne (a := (S132.1 24).toInt) (b := (0 : Int)) rfl rfl q151
          refine aw_n aj_d282 rfl rfl ?_
          refine aw_t0 (j := 1) aj_d282 rfl (by decide) rfl ?_
          obtain ⟨lv152, elv152⟩ : ∃ l, l = aj_set1 lv104 1 (.int (Int32.ofInt 0)) := ⟨_, rfl⟩
          rw [← elv152]
          have hlv152_0 : aj_lv lv152 0 = some (.ref 117) := cw_e1 elv152 hlv104_0 (by decide) (Or.inr rfl)
          have hlv152_1 : aj_lv lv152 1 = some (.int (Int32.ofInt 0)) := by rw [elv152]; exact ak_set1_eq _ _ _
          show aw_W _ _ _ _ 66 lv152 [] _ _
          refine aw_l0 aj_d282 rfl rfl hlv152_1 ?_
          refine aw_z (tgt := 84) aj_d282 rfl rfl (fun q153 => ?_) (fun q153 => ?_)
          · have q153 : (0 : Int) = (0 : Int) := aw_t_eq (a := (0 : Int)) (b := (0 : Int)) rfl rfl q153
            have hB154 : aw_B S132 := aw_G_B hG132
            have hI155 : aw_I s h (aw_sm S132) S132 := ⟨(hI147).1, aw_sm_rf⟩
            refine aw_l2 aj_d282 rfl rfl hlv152_0 ?_
            refine aw_n aj_d282 rfl rfl ?_
            refine aw_p hU.1 aj_d282 rfl rfl (by decide) rfl ?_
            have hI156 : aw_I s h (aw_sm (aw_wf S132 23 (Int32.ofInt 0))) (aw_wf S132 23 (Int32.ofInt 0)) := ⟨aw_T_f hU.2.1 hs hU.1.1 (hI155).1 (by decide) rfl (aw_bp (a := (0 : Int)) rfl (by omega) (by omega)), aw_sm_rf⟩
            have fr157 := aw_fr_f (k := 23) (v := (Int32.ofInt 0)) (by decide) fr146
            have fl158 := aw_fr_f (k := 23) (v := (Int32.ofInt 0)) (by decide) (aw_fr_rf : aw_fr [23] [] S132 S132)
            have hB159 : aw_B (aw_wf S132 23 (Int32.ofInt 0)) := aw_B_fr hB154 (by decide) (by decide) (by decide) (by decide) (by decide) (by decide) (by decide) fl158
            have hI160 : aw_I s h (aw_sm (aw_wf S132 23 (Int32.ofInt 0))) (aw_wf S132 23 (Int32.ofInt 0)) := ⟨(hI156).1, aw_sm_rf⟩
            refine aw_l0 aj_d282 rfl rfl hlv152_1 ?_
            refine aw_e aj_d282 rfl rfl ?_
            exact ⟨(hI160).1, fr157, ⟨_, rfl, by first | decide | omega⟩, hB159, (show ((Int32.ofInt 0)).toInt = 0 by first | rfl | omega)⟩
          · have q153 : (0 : Int) ≠ (0 : Int) := aw_t_eq (a := (0 : Int)) (b := (0 : Int)) rfl rfl q153
            exfalso
            omega
        · have q151 : (S132.1 24).toInt = (0 : Int) := aw_t_ne (a := (S132.1 24).toInt) (b := (0 : Int)) rfl rfl q151
          refine aw_n aj_d282 rfl rfl ?_
          refine aw_n aj_d282 rfl rfl ?_
          refine aw_t0 (j := 1) aj_d282 rfl (by decide) rfl ?_
          obtain ⟨lv161, elv161⟩ : ∃ l, l = aj_set1 lv104 1 (.int (Int32.ofInt 1)) := ⟨_, rfl⟩
          rw [← elv161]
          have hlv161_0 : aj_lv lv161 0 = some (.ref 117) := cw_e1 elv161 hlv104_0 (by decide) (Or.inr rfl)
          have hlv161_1 : aj_lv lv161 1 = some (.int (Int32.ofInt 1)) := by rw [elv161]; exact ak_set1_eq _ _ _
          show aw_W _ _ _ _ 66 lv161 [] _ _
          refine aw_l0 aj_d282 rfl rfl hlv161_1 ?_
          refine aw_z (tgt := 84) aj_d282 rfl rfl (fun q162 => ?_) (fun q162 => ?_)
          · have q162 : (1 : Int) = (0 : Int) := aw_t_eq (a := (1 : Int)) (b := (0 : Int)) rfl rfl q162
            exfalso
            omega
          · have q162 : (1 : Int) ≠ (0 : Int) := aw_t_eq (a := (1 : Int)) (b := (0 : Int)) rfl rfl q162
            have c163 : (S132.1 32).toInt = (0 : Int) := (congrArg Int32.toInt (fc132.1 32 (by decide)).1).trans c128
            have b164 : 0 ≤ (S132.1 32).toInt ∧ (S132.1 32).toInt ≤ 1 := aw_bd_f hs (hI147).1 (by decide) rfl
            have c165 : (S132.1 37).toInt = (S.1 0).toInt := (congrArg Int32.toInt (fc132.1 37 (by decide)).1).trans c124
            have b166 : 0 ≤ (S132.1 37).toInt ∧ (S132.1 37).toInt ≤ 1 := aw_bd_f hs (hI147).1 (by decide) rfl
            have c167 : (S132.1 0).toInt = (S.1 0).toInt := (congrArg Int32.toInt (fc132.1 0 (by decide)).1).trans c126
            have b168 : 0 ≤ (S132.1 0).toInt ∧ (S132.1 0).toInt ≤ 1 := aw_bd_f hs (hI147).1 (by decide) rfl
            have hB169 : aw_B S132 := aw_G_B hG132
            refine aw_l2 aj_d282 rfl rfl hlv161_0 ?_
            refine aw_n aj_d282 rfl rfl ?_
            refine aw_p hU.1 aj_d282 rfl rfl (by decide) rfl ?_
            have hI170 : aw_I s h (aw_sm (aw_wf S132 32 (Int32.ofInt 1))) (aw_wf S132 32 (Int32.ofInt 1)) := ⟨aw_T_f hU.2.1 hs hU.1.1 (hI147).1 (by decide) rfl (aw_bp (a := (1 : Int)) rfl (by omega) (by omega)), aw_sm_rf⟩
            have fr171 := aw_fr_f (k := 32) (v := (Int32.ofInt 1)) (by decide) fr146
            have fl172 := aw_fr_f (k := 32) (v := (Int32.ofInt 1)) (by decide) (aw_fr_rf : aw_fr [24, 25, 26, 27, 28, 29, 30, 31, 32, 37, 41, 45, 46, 47] [] S132 S132)
            refine aw_l2 aj_d282 rfl rfl hlv161_0 ?_
            refine aw_k hU.1 aj_d282 rfl rfl [] rfl rfl rfl (Nat.le_of_ble_eq_true rfl) (ar_start hU (hI170).1 (by omega)) ?_
            rintro _ S173 ⟨rfl, hT173, fc173, j173, z173, y173, ga173⟩
            have fr174 := aw_fr_tr fr171 (aw_fr_sub (F := [26, 27, 28, 29, 30, 31, 41, 45, 46, 47]) (A := []) (by decide) (by decide) fc173)
            have fl175 := aw_fr_tr fl172 (aw_fr_sub (F := [26, 27, 28, 29, 30, 31, 41, 45, 46, 47]) (A := []) (by decide) (by decide) fc173)
            have hI176 : aw_I s h (aw_sm S173) S173 := ⟨hT173, aw_sm_rf⟩
            have c177 : (S173.1 37).toInt = (S.1 0).toInt := (congrArg Int32.toInt (fc173.1 37 (by decide)).1).trans c165
            have b178 : 0 ≤ (S173.1 37).toInt ∧ (S173.1 37).toInt ≤ 1 := aw_bd_f hs (hI176).1 (by decide) rfl
            have c179 : (S173.1 0).toInt = (S.1 0).toInt := (congrArg Int32.toInt (fc173.1 0 (by decide)).1).trans c167
            have b180 : 0 ≤ (S173.1 0).toInt ∧ (S173.1 0).toInt ≤ 1 := aw_bd_f hs (hI176).1 (by decide) rfl
            have c181 : (S173.1 32).toInt = (1 : Int) := (congrArg Int32.toInt (fc173.1 32 (by decide)).1).trans rfl
            have b182 : 0 ≤ (S173.1 32).toInt ∧ (S173.1 32).toInt ≤ 1 := aw_bd_f hs (hI176).1 (by decide) rfl
            have hB173 : aw_B S173 := aw_B_fr hB169 (by decide) (by decide) (by decide) (by decide) (by decide) (by decide) (by decide) fl175
            have hh173 : aw_h S173 = aw_hh S173 := by
              unfold aw_h aw_hh
              rw [show (S173.1 37).toInt = (S173.1 0).toInt from (show ((S173.1 37)).toInt = ((S173.1 0)).toInt by omega)]
            obtain ⟨f1, f2, -⟩ := aw_G_found hG132 (by omega) (by omega) (by omega)
            have fr70 : aw_fr [24, 25, 26, 27, 28, 29, 30, 31, 32, 37, 41, 45, 46, 47] [] S132 S173 := fl175
            have eT70 := aw_fr_tT fr70 (by decide) (by decide)
            have eF70 : aw_tF S173 = aw_tF S132 := (fr70.2 21 (by decide)).1
            have eh70 : aw_h S173 = aw_h S132 := by
              unfold aw_h
              rw [show (S173.1 37).toInt = (S132.1 37).toInt from (show ((S173.1 37)).toInt = _ by omega)]
            have hG183 : aw_G ((fun v => ∃ u : Nat, (u : Int) < (S120.2.2.1 1 (aw_h S120)).toInt ∧ S120.2.2.2 2 (aw_h S120 * 8 + u) = v), true, (aw_tJ S132), 0, 0, 0) S173 := aw_G_ask hB173 ga173 j173 hh173 (fun v => by
              rw [eh70, (fr70.2 1 (by decide)).1, (fr70.2 2 (by decide)).2]
              exact (hG132).2.2.2.1.1 rfl v) (fun _ => ⟨(hG132).1.1, by rw [eT70]; exact f1, by rw [eT70, eF70]; exact f2⟩)
            have hI184 : aw_I s h (aw_sm S173) S173 := ⟨(hI176).1, aw_sm_rf⟩
            show aw_W _ _ _ _ 79 lv161 [] _ _
            refine aw_l2 aj_d282 rfl rfl hlv161_0 ?_
            have b186 : 0 ≤ (S173.1 30).toInt ∧ (S173.1 30).toInt ≤ 1001 := aw_bd_f hs (hI176).1 (by decide) rfl
            refine aw_k hU.1 aj_d282 rfl rfl [] rfl rfl rfl (Nat.le_of_ble_eq_true rfl) (ar_condition hU (hI184).1 hG183 (by omega)) ?_
            rintro _ S185 ⟨hT185, fc185, ⟨b185, rfl, hb185, hG185, ck185⟩ | ⟨b185, rfl, hb185, hG185, ck185, ex185⟩⟩
            · skip
              have ck185 : ((S173.1 30)).toInt ≤ (S185.1 30).toInt := ck185
              have fr187 := aw_fr_tr fr174 (aw_fr_sub (F := [24, 25, 26, 27, 28, 29, 30, 31, 33, 34, 35, 36, 38, 39, 40, 41, 43, 44]) (A := [20, 22]) (by decide) (by decide) fc185)
              have hI188 : aw_I s h (aw_sm S185) S185 := ⟨hT185, aw_sm_rf⟩
              show aw_W _ _ _ _ 83 lv161 [.int b185] _ _
              refine aw_t0 (j := 1) aj_d282 rfl (by decide) rfl ?_
              obtain ⟨lv189, elv189⟩ : ∃ l, l = aj_set1 lv161 1 (.int b185) := ⟨_, rfl⟩
              rw [← elv189]
              have hlv189_0 : aj_lv lv189 0 = some (.ref 117) := cw_e1 elv189 hlv161_0 (by decide) (Or.inr rfl)
              have hlv189_1 : aj_lv lv189 1 = some (.int b185) := by rw [elv189]; exact ak_set1_eq _ _ _
              show aw_W _ _ _ _ 84 lv189 [] _ _
              have hB190 : aw_B S185 := aw_G_B hG185
              have hI191 : aw_I s h (aw_sm S185) S185 := ⟨(hI188).1, aw_sm_rf⟩
              refine aw_l2 aj_d282 rfl rfl hlv189_0 ?_
              refine aw_n aj_d282 rfl rfl ?_
              refine aw_p hU.1 aj_d282 rfl rfl (by decide) rfl ?_
              have hI192 : aw_I s h (aw_sm (aw_wf S185 23 (Int32.ofInt 0))) (aw_wf S185 23 (Int32.ofInt 0)) := ⟨aw_T_f hU.2.1 hs hU.1.1 (hI191).1 (by decide) rfl (aw_bp (a := (0 : Int)) rfl (by omega) (by omega)), aw_sm_rf⟩
              have fr193 := aw_fr_f (k := 23) (v := (Int32.ofInt 0)) (by decide) fr187
              have fl194 := aw_fr_f (k := 23) (v := (Int32.ofInt 0)) (by decide) (aw_fr_rf : aw_fr [23] [] S185 S185)
              have hB195 : aw_B (aw_wf S185 23 (Int32.ofInt 0)) := aw_B_fr hB190 (by decide) (by decide) (by decide) (by decide) (by decide) (by decide) (by decide) fl194
              have hI196 : aw_I s h (aw_sm (aw_wf S185 23 (Int32.ofInt 0))) (aw_wf S185 23 (Int32.ofInt 0)) := ⟨(hI192).1, aw_sm_rf⟩
              refine aw_l0 aj_d282 rfl rfl hlv189_1 ?_
              refine aw_e aj_d282 rfl (cw_irb rfl (by omega)) ?_
              exact ⟨(hI196).1, fr193, ⟨_, rfl, by first | decide | omega⟩, hB195, (show ((Int32.ofInt 0)).toInt = 0 by first | rfl | omega)⟩
            · skip
              have ck185 : ((S173.1 30)).toInt + 1 ≤ (S185.1 30).toInt := ck185
              have fr197 := aw_fr_tr fr174 (aw_fr_sub (F := [24, 25, 26, 27, 28, 29, 30, 31, 33, 34, 35, 36, 38, 39, 40, 41, 43, 44]) (A := [20, 22]) (by decide) (by decide) fc185)
              have hI198 : aw_I s h (aw_sm S185) S185 := ⟨hT185, aw_sm_rf⟩
              show aw_W _ _ _ _ 83 lv161 [.int b185] _ _
              refine aw_t0 (j := 1) aj_d282 rfl (by decide) rfl ?_
              obtain ⟨lv199, elv199⟩ : ∃ l, l = aj_set1 lv161 1 (.int b185) := ⟨_, rfl⟩
              rw [← elv199]
              have hlv199_0 : aj_lv lv199 0 = some (.ref 117) := cw_e1 elv199 hlv161_0 (by decide) (Or.inr rfl)
              have hlv199_1 : aj_lv lv199 1 = some (.int b185) := by rw [elv199]; exact ak_set1_eq _ _ _
              show aw_W _ _ _ _ 84 lv199 [] _ _
              have hB200 : aw_B S185 := aw_G_B hG185
              have hI201 : aw_I s h (aw_sm S185) S185 := ⟨(hI198).1, aw_sm_rf⟩
              refine aw_l2 aj_d282 rfl rfl hlv199_0 ?_
              refine aw_n aj_d282 rfl rfl ?_
              refine aw_p hU.1 aj_d282 rfl rfl (by decide) rfl ?_
              have hI202 : aw_I s h (aw_sm (aw_wf S185 23 (Int32.ofInt 0))) (aw_wf S185 23 (Int32.ofInt 0)) := ⟨aw_T_f hU.2.1 hs hU.1.1 (hI201).1 (by decide) rfl (aw_bp (a := (0 : Int)) rfl (by omega) (by omega)), aw_sm_rf⟩
              have fr203 := aw_fr_f (k := 23) (v := (Int32.ofInt 0)) (by decide) fr197
              have fl204 := aw_fr_f (k := 23) (v := (Int32.ofInt 0)) (by decide) (aw_fr_rf : aw_fr [23] [] S185 S185)
              have hB205 : aw_B (aw_wf S185 23 (Int32.ofInt 0)) := aw_B_fr hB200 (by decide) (by decide) (by decide) (by decide) (by decide) (by decide) (by decide) fl204
              have hI206 : aw_I s h (aw_sm (aw_wf S185 23 (Int32.ofInt 0))) (aw_wf S185 23 (Int32.ofInt 0)) := ⟨(hI202).1, aw_sm_rf⟩
              refine aw_l0 aj_d282 rfl rfl hlv199_1 ?_
              refine aw_e aj_d282 rfl (cw_irb rfl (by omega)) ?_
              exact ⟨(hI206).1, fr203, ⟨_, rfl, by first | decide | omega⟩, hB205, (show ((Int32.ofInt 0)).toInt = 0 by first | rfl | omega)⟩
      · have q150 : (S132.1 26).toInt ≠ (0 : Int) := aw_t_eq (a := (S132.1 26).toInt) (b := (0 : Int)) rfl rfl q150
        refine aw_l2 aj_d282 rfl rfl hlv104_0 ?_
        refine aw_n aj_d282 rfl rfl ?_
        refine aw_l2 aj_d282 rfl rfl hlv104_0 ?_
        have b207 : 0 ≤ (S132.1 27).toInt ∧ (S132.1 27).toInt ≤ 4000 := aw_bd_f hs (hI147).1 (by decide) rfl
        refine aw_g hU.1 aj_d282 rfl rfl (by decide) (v := .int (S132.1 27)) rfl ?_
        refine aw_k hU.1 aj_d282 rfl rfl [_, _] rfl rfl rfl (Nat.le_of_ble_eq_true rfl) (ar_stop hU (hI147).1 (by omega) (a := (1 : Int)) rfl) ?_
        rintro _ S208 ⟨hT208, fc208, rfl, hz208⟩
        have hG208 := aw_G_stop hG132 fc208 (by omega)
        have fr209 := aw_fr_tr fr146 (aw_fr_sub (F := [24, 25, 31]) (A := []) (by decide) (by decide) fc208)
        have hI210 : aw_I s h (aw_sm S208) S208 := ⟨hT208, aw_sm_rf⟩
        show aw_W _ _ _ _ 50 lv104 [.int (Int32.ofInt 0)] _ _
        refine aw_z (tgt := 64) aj_d282 rfl rfl (fun q211 => ?_) (fun q211 => ?_)
        · have q211 : (0 : Int) = (0 : Int) := aw_t_eq (a := (0 : Int)) (b := (0 : Int)) rfl rfl q211
          refine aw_n aj_d282 rfl rfl ?_
          refine aw_t0 (j := 1) aj_d282 rfl (by decide) rfl ?_
          obtain ⟨lv212, elv212⟩ : ∃ l, l = aj_set1 lv104 1 (.int (Int32.ofInt 0)) := ⟨_, rfl⟩
          rw [← elv212]
          have hlv212_0 : aj_lv lv212 0 = some (.ref 117) := cw_e1 elv212 hlv104_0 (by decide) (Or.inr rfl)
          have hlv212_1 : aj_lv lv212 1 = some (.int (Int32.ofInt 0)) := by rw [elv212]; exact ak_set1_eq _ _ _
          show aw_W _ _ _ _ 66 lv212 [] _ _
          refine aw_l0 aj_d282 rfl rfl hlv212_1 ?_
          refine aw_z (tgt := 84) aj_d282 rfl rfl (fun q213 => ?_) (fun q213 => ?_)
          · have q213 : (0 : Int) = (0 : Int) := aw_t_eq (a := (0 : Int)) (b := (0 : Int)) rfl rfl q213
            have hB214 : aw_B S208 := aw_G_B hG208
            have hI215 : aw_I s h (aw_sm S208) S208 := ⟨(hI210).1, aw_sm_rf⟩
            refine aw_l2 aj_d282 rfl rfl hlv212_0 ?_
            refine aw_n aj_d282 rfl rfl ?_
            refine aw_p hU.1 aj_d282 rfl rfl (by decide) rfl ?_
            have hI216 : aw_I s h (aw_sm (aw_wf S208 23 (Int32.ofInt 0))) (aw_wf S208 23 (Int32.ofInt 0)) := ⟨aw_T_f hU.2.1 hs hU.1.1 (hI215).1 (by decide) rfl (aw_bp (a := (0 : Int)) rfl (by omega) (by omega)), aw_sm_rf⟩
            have fr217 := aw_fr_f (k := 23) (v := (Int32.ofInt 0)) (by decide) fr209
            have fl218 := aw_fr_f (k := 23) (v := (Int32.ofInt 0)) (by decide) (aw_fr_rf : aw_fr [23] [] S208 S208)
            have hB219 : aw_B (aw_wf S208 23 (Int32.ofInt 0)) := aw_B_fr hB214 (by decide) (by decide) (by decide) (by decide) (by decide) (by decide) (by decide) fl218
            have hI220 : aw_I s h (aw_sm (aw_wf S208 23 (Int32.ofInt 0))) (aw_wf S208 23 (Int32.ofInt 0)) := ⟨(hI216).1, aw_sm_rf⟩
            refine aw_l0 aj_d282 rfl rfl hlv212_1 ?_
            refine aw_e aj_d282 rfl rfl ?_
            exact ⟨(hI220).1, fr217, ⟨_, rfl, by first | decide | omega⟩, hB219, (show ((Int32.ofInt 0)).toInt = 0 by first | rfl | omega)⟩
          · have q213 : (0 : Int) ≠ (0 : Int) := aw_t_eq (a := (0 : Int)) (b := (0 : Int)) rfl rfl q213
            exfalso
            omega
        · have q211 : (0 : Int) ≠ (0 : Int) := aw_t_eq (a := (0 : Int)) (b := (0 : Int)) rfl rfl q211
          exfalso
          omega
end ARA27
