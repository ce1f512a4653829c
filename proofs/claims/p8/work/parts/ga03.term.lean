/-! NUMBERS, TERMS (printed by wip/p2/ref/r03.py) -/
section ARA3
variable {tb : aj_T} {s : List Nat} {h : aj_H} {S S' S1 : aj_S} {d n : Nat} {g g' : aw_gh} {F A : List Nat} {G : aj_S → Prop}
theorem aw_dv_step {f : Nat → Int32} {k e : Nat} {v : Int} (hk : k < e) : aw_dv f (e - k) k v = aw_dv f (e - (k + 1)) (k + 1) (10 * v + (f k).toInt - 48) := by
  obtain ⟨m, hm⟩ : ∃ m, e - k = m + 1 := ⟨e - k - 1, by omega⟩
  rw [hm, show e - (k + 1) = m by omega]
  rfl
theorem aw_dv_end {f : Nat → Int32} {k : Nat} {v : Int} : aw_dv f (k - k) k v = v := by
  rw [Nat.sub_self]
  rfl
def ar_dgB (b : Nat) (k v : Int) : Prop := (k = b ∧ v ≤ 0) ∨ (k = b + 1 ∧ v ≤ 9) ∨ (k = b + 2 ∧ v ≤ 99) ∨ (k = b + 3 ∧ v ≤ 999) ∨ (k = b + 4 ∧ v ≤ 9999)
theorem ar_whole (hU : aw_U tb s h) (hT : ak_Ty ak_TN s (aj_mh h S)) (hG : aw_G g S) (hd : 5 ≤ d) : aw_K tb h d 221 [.ref 117] S (ar_QT s h g [24, 25, 26, 27, 28, 29, 30, 31, 35, 36] [] S (fun S' => (S'.1 30).toInt = (S.1 30).toInt + (aw_wd (aw_tT S) (aw_tJ S) : Nat) ∧ (S'.1 35).toInt = aw_num (aw_tF S) (aw_tT S) (aw_tJ S))) := by
  obtain ⟨d, rfl⟩ : ∃ e, d = e + 1 := ⟨d - 1, by omega⟩
  have hs : aw_sT s := aw_hy_sT hU.2.2
  refine aw_m aj_m221_at rfl (Nat.le_of_ble_eq_true rfl) ?_
  show aw_W _ _ _ _ 0 [(0, .ref 117)] [] _ _
  obtain ⟨lv1, elv1⟩ : ∃ l : aj_V, l = [(0, .ref 117)] := ⟨_, rfl⟩
  rw [← elv1]
  have hlv1_0 : aj_lv lv1 0 = some (.ref 117) := by rw [elv1]; rfl
  have hI2 : aw_I s h (aw_sm S) S := ⟨hT, aw_sm_rf⟩
  have fr3 : aw_fr [24, 25, 26, 27, 28, 29, 30, 31, 35, 36] [] S S := aw_fr_rf
  refine aw_l2 aj_d221 rfl rfl hlv1_0 ?_
  refine aw_l2 aj_d221 rfl rfl hlv1_0 ?_
  have b4 : 0 ≤ (S.1 27).toInt ∧ (S.1 27).toInt ≤ 4000 := aw_bd_f hs (hI2).1 (by decide) rfl
  refine aw_g hU.1 aj_d221 rfl rfl (by decide) (v := .int (S.1 27)) rfl ?_
  refine aw_p hU.1 aj_d221 rfl rfl (by decide) rfl ?_
  have hI5 := aw_I_f (aw_UV hU aw_Gs_sm) (k := 36) (v := (S.1 27)) hI2 (by decide) (by decide) rfl (aw_full _)
  have fr6 := aw_fr_f (k := 36) (v := (S.1 27)) (by decide) fr3
  refine aw_n aj_d221 rfl rfl ?_
  refine aw_t0 (j := 1) aj_d221 rfl (by decide) rfl ?_
  obtain ⟨lv7, elv7⟩ : ∃ l, l = aj_set1 lv1 1 (.int (Int32.ofInt 1)) := ⟨_, rfl⟩
  rw [← elv7]
  have hlv7_0 : aj_lv lv7 0 = some (.ref 117) := cw_e1 elv7 hlv1_0 (by decide) (Or.inr rfl)
  have hlv7_1 : aj_lv lv7 1 = some (.int (Int32.ofInt 1)) := by rw [elv7]; exact ak_set1_eq _ _ _
  show aw_W _ _ _ _ 10 lv7 [] _ _
  refine aw_l2 aj_d221 rfl rfl hlv7_0 ?_
  refine aw_n aj_d221 rfl rfl ?_
  refine aw_k hU.1 aj_d221 rfl rfl [_] rfl rfl rfl (Nat.le_of_ble_eq_true rfl) (ar_isSign hU (by omega) (b := (45 : Int)) rfl) ?_
  have b10 : 0 ≤ (S.1 26).toInt ∧ (S.1 26).toInt ≤ 5 := aw_bd_f hs (hI2).1 (by decide) rfl
  rintro _ S9 ⟨eS9, b8, rfl, kb8⟩
  rw [eS9]
  rcases kb8 with ⟨hb8, pb8, qb8⟩ | ⟨hb8, pb8⟩
  · skip
    have pb8 : ((S.1 26)).toInt = 3 := pb8
    have qb8 : ((S.1 29)).toInt = (45 : Int) := qb8
    show aw_W _ _ _ _ 16 lv7 [.int b8] _ _
    refine aw_z (tgt := 30) aj_d221 rfl rfl (fun q11 => ?_) (fun q11 => ?_)
    · have q11 : (1 : Int) = (0 : Int) := aw_t_eq (a := (1 : Int)) (b := (0 : Int)) hb8 rfl q11
      exfalso
      omega
    · have q11 : (1 : Int) ≠ (0 : Int) := aw_t_eq (a := (1 : Int)) (b := (0 : Int)) hb8 rfl q11
      refine aw_n aj_d221 rfl rfl ?_
      refine aw_t0 (j := 1) aj_d221 rfl (by decide) rfl ?_
      obtain ⟨lv12, elv12⟩ : ∃ l, l = aj_set1 lv7 1 (.int (Int32.ofInt (-1))) := ⟨_, rfl⟩
      rw [← elv12]
      have hlv12_0 : aj_lv lv12 0 = some (.ref 117) := cw_e1 elv12 hlv7_0 (by decide) (Or.inr rfl)
      have hlv12_1 : aj_lv lv12 1 = some (.int (Int32.ofInt (-1))) := by rw [elv12]; exact ak_set1_eq _ _ _
      show aw_W _ _ _ _ 21 lv12 [] _ _
      have isn : aw_is (aw_tT S) (aw_tJ S) 3 45 := ⟨hG.1.2.1.1.symm.trans (by omega), hG.1.2.1.2.2.2.symm.trans (by omega)⟩
      refine aw_l2 aj_d221 rfl rfl hlv12_0 ?_
      have b13 : 0 ≤ (S.1 30).toInt ∧ (S.1 30).toInt ≤ 1001 := aw_bd_f hs (hI2).1 (by decide) rfl
      refine aw_k hU.1 aj_d221 rfl rfl [] rfl rfl rfl (Nat.le_of_ble_eq_true rfl) (ar_pass hU (hI5).1 (aw_G_sm hI5.2 hG) (by omega) (show ((S.1 26)).toInt ≠ 0 by omega) (show ¬ (((S.1 26)).toInt = 3 ∧ ((S.1 29)).toInt = 63) by omega) (show ((S.1 26)).toInt = 4 → ((S.1 29)).toInt = 3 ∨ 6 ≤ ((S.1 29)).toInt by omega)) ?_
      rintro _ S14 ⟨hT14, fc14, ⟨b14, rfl, hb14, hG14, fd14, hz14⟩ | ⟨b14, rfl, hb14, hG14, ck14, fd14, cj14⟩⟩
      · skip
        have fr15 := aw_fr_tr fr6 (aw_fr_sub (F := [24, 25, 31]) (A := []) (by decide) (by decide) fd14)
        have hI16 : aw_I s h (aw_sm S14) S14 := ⟨hT14, aw_sm_rf⟩
        show aw_W _ _ _ _ 25 lv12 [.int b14] _ _
        refine aw_z (tgt := 30) aj_d221 rfl rfl (fun q17 => ?_) (fun q17 => ?_)
        · have q17 : (0 : Int) ≠ (0 : Int) := aw_t_ne (a := (0 : Int)) (b := (0 : Int)) hb14 rfl q17
          exfalso
          omega
        · have q17 : (0 : Int) = (0 : Int) := aw_t_ne (a := (0 : Int)) (b := (0 : Int)) hb14 rfl q17
          refine aw_n aj_d221 rfl rfl ?_
          refine aw_e aj_d221 rfl rfl ?_
          have c18 : (S14.1 30).toInt = (S.1 30).toInt := (congrArg Int32.toInt (fd14.1 30 (by decide)).1).trans rfl
          have b19 : 0 ≤ (S14.1 30).toInt ∧ (S14.1 30).toInt ≤ 1001 := aw_bd_f hs (hI16).1 (by decide) rfl
          exact ⟨(hI16).1, fr15, Or.inl ⟨_, rfl, rfl, hG14, (show _ ≤ ((S14.1 30)).toInt by omega)⟩⟩
      · skip
        have cj14 : (S14.1 30).toInt = ((S.1 30)).toInt + 1 := cj14
        have fr20 := aw_fr_tr fr6 (aw_fr_sub (F := [26, 27, 28, 29, 30]) (A := []) (by decide) (by decide) fd14)
        have hI21 : aw_I s h (aw_sm S14) S14 := ⟨hT14, aw_sm_rf⟩
        show aw_W _ _ _ _ 25 lv12 [.int b14] _ _
        refine aw_z (tgt := 30) aj_d221 rfl rfl (fun q22 => ?_) (fun q22 => ?_)
        · have q22 : (1 : Int) ≠ (0 : Int) := aw_t_ne (a := (1 : Int)) (b := (0 : Int)) hb14 rfl q22
          have eT2 : aw_tT S14 = aw_tT S := aw_fr_tT fr20 (by decide) (by decide)
          have eF2 : aw_tF S14 = aw_tF S := (fr20.2 21 (by decide)).1
          have eJ2 : aw_tJ S14 = aw_tJ S + 1 := by
            have j1 := hG.1.1
            unfold aw_tJ at j1 ⊢
            omega
          refine aw_l2 aj_d221 rfl rfl hlv12_0 ?_
          have b23 : 0 ≤ (S14.1 26).toInt ∧ (S14.1 26).toInt ≤ 5 := aw_bd_f hs (hI21).1 (by decide) rfl
          refine aw_g hU.1 aj_d221 rfl rfl (by decide) (v := .int (S14.1 26)) rfl ?_
          refine aw_n aj_d221 rfl rfl ?_
          refine aw_c (tgt := 48) aj_d221 rfl rfl (fun q24 => ?_) (fun q24 => ?_)
          · have q24 : (S14.1 26).toInt = (2 : Int) := aw_t_eq (a := (S14.1 26).toInt) (b := (2 : Int)) rfl rfl q24
            have tk := aw_GA_tok hG14.1 (by omega)
            obtain ⟨b0, hb0⟩ : ∃ z, z = ((aw_tT S14) (aw_tJ S14)).2.1 := ⟨_, rfl⟩
            obtain ⟨e0, he0⟩ : ∃ z, z = ((aw_tT S14) (aw_tJ S14)).2.2.1 := ⟨_, rfl⟩
            rw [← hb0, ← he0] at tk
            obtain ⟨tk1, tk2, tk3, tk4, tk5⟩ := tk
            have tk5 := tk5 (by omega)
            have bN : aw_tN S14 ≤ 4000 := by
              have bb := aw_bd_f hs hI21.1 (k := 23) (lo := 0) (hi := 4000) (by decide) rfl
              unfold aw_tN
              omega
            refine aw_n aj_d221 rfl rfl ?_
            refine aw_t0 (j := 2) aj_d221 rfl (by decide) rfl ?_
            obtain ⟨lv25, elv25⟩ : ∃ l, l = aj_set1 lv12 2 (.int (Int32.ofInt 0)) := ⟨_, rfl⟩
            rw [← elv25]
            have hlv25_0 : aj_lv lv25 0 = some (.ref 117) := cw_e1 elv25 hlv12_0 (by decide) (Or.inl (by decide))
            have hlv25_1 : aj_lv lv25 1 = some (.int (Int32.ofInt (-1))) := cw_e1 elv25 hlv12_1 (by decide) (Or.inr rfl)
            have hlv25_2 : aj_lv lv25 2 = some (.int (Int32.ofInt 0)) := by rw [elv25]; exact ak_set1_eq _ _ _
            show aw_W _ _ _ _ 50 lv25 [] _ _
            refine aw_l2 aj_d221 rfl rfl hlv25_0 ?_
            have b26 : 0 ≤ (S14.1 27).toInt ∧ (S14.1 27).toInt ≤ 4000 := aw_bd_f hs (hI21).1 (by decide) rfl
            refine aw_g hU.1 aj_d221 rfl rfl (by decide) (v := .int (S14.1 27)) rfl ?_
            refine aw_t0 (j := 3) aj_d221 rfl (by decide) rfl ?_
            obtain ⟨lv27, elv27⟩ : ∃ l, l = aj_set1 lv25 3 (.int (S14.1 27)) := ⟨_, rfl⟩
            rw [← elv27]
            have hlv27_0 : aj_lv lv27 0 = some (.ref 117) := cw_e1 elv27 hlv25_0 (by decide) (Or.inl (by decide))
            have hlv27_1 : aj_lv lv27 1 = some (.int (Int32.ofInt (-1))) := cw_e1 elv27 hlv25_1 (by decide) (Or.inl (by decide))
            have hlv27_2 : aj_lv lv27 2 = some (.int (Int32.ofInt 0)) := cw_e1 elv27 hlv25_2 (by decide) (Or.inr rfl)
            have hlv27_3 : aj_lv lv27 3 = some (.int (S14.1 27)) := by rw [elv27]; exact ak_set1_eq _ _ _
            show aw_W _ _ _ _ 55 lv27 [] _ _
            have L55_27 : ∀ (N : Nat) (lv30 : aj_V) (x31 : Int32) (x32 : Int32), (aj_lv lv30 0 = some (.ref 117)) → (aj_lv lv30 1 = some (.int (Int32.ofInt (-1)))) → (aj_lv lv30 2 = some (.int x31)) → (aj_lv lv30 3 = some (.int x32)) → (0 ≤ x31.toInt ∧ x31.toInt ≤ 9999) → ((b0 : Int) ≤ x32.toInt ∧ x32.toInt ≤ e0) → (ar_dgB b0 x32.toInt x31.toInt) → (aw_dv (aw_tF S14) (e0 - (x32.toInt).toNat) (x32.toInt).toNat x31.toInt = aw_dv (aw_tF S14) (e0 - b0) b0 0) → (e0 - (x32.toInt).toNat) < N → aw_W tb h d aj_m221 55 lv30 [] S14 ((ar_QT s h g [24, 25, 26, 27, 28, 29, 30, 31, 35, 36] [] S (fun S' => (S'.1 30).toInt = (S.1 30).toInt + (aw_wd (aw_tT S) (aw_tJ S) : Nat) ∧ (S'.1 35).toInt = aw_num (aw_tF S) (aw_tT S) (aw_tJ S)))) := by
              intro N
              induction N with
              | zero =>
                intro  lv30 x31 x32 hlv30_0 hlv30_1 hlv30_2 hlv30_3 v0 k0 dB dv hm
                omega
              | succ N ihL55_27 =>
                intro  lv30 x31 x32 hlv30_0 hlv30_1 hlv30_2 hlv30_3 v0 k0 dB dv hm
                refine aw_l0 aj_d221 rfl rfl hlv30_3 ?_
                refine aw_l2 aj_d221 rfl rfl hlv30_0 ?_
                have b35 : 0 ≤ (S14.1 28).toInt ∧ (S14.1 28).toInt ≤ 4000 := aw_bd_f hs (hI21).1 (by decide) rfl
                refine aw_g hU.1 aj_d221 rfl rfl (by decide) (v := .int (S14.1 28)) rfl ?_
                refine aw_c (tgt := 84) aj_d221 rfl rfl (fun q36 => ?_) (fun q36 => ?_)
                · have q36 : x32.toInt ≥ (S14.1 28).toInt := aw_t_ge (a := x32.toInt) (b := (S14.1 28).toInt) rfl rfl q36
                  have dv9 : x31.toInt = aw_dv (aw_tF S14) (e0 - b0) b0 0 := by
                    rw [← dv, show ((x32).toInt).toNat = e0 by omega, aw_dv_end]
                  refine aw_l2 aj_d221 rfl rfl hlv30_0 ?_
                  refine aw_l0 aj_d221 rfl rfl hlv30_1 ?_
                  refine aw_l0 aj_d221 rfl rfl hlv30_2 ?_
                  refine aw_mul aj_d221 rfl (a := (-1 : Int)) (b := x31.toInt) rfl rfl (by omega) (by omega) (fun x37 ex37 => ?_)
                  refine aw_p hU.1 aj_d221 rfl rfl (by decide) rfl ?_
                  have hI38 := aw_I_f (aw_UV hU aw_Gs_sm) (k := 35) (v := x37) hI21 (by decide) (by decide) rfl (aw_bp (a := x37.toInt) rfl (by omega) (by omega))
                  have fr39 := aw_fr_f (k := 35) (v := x37) (by decide) fr20
                  refine aw_l2 aj_d221 rfl rfl hlv30_0 ?_
                  have b40 : 0 ≤ (S14.1 30).toInt ∧ (S14.1 30).toInt ≤ 1001 := aw_bd_f hs (hI21).1 (by decide) rfl
                  refine aw_k hU.1 aj_d221 rfl rfl [] rfl rfl rfl (Nat.le_of_ble_eq_true rfl) (ar_pass hU (hI38).1 (aw_G_sm hI38.2 hG14) (by omega) (show ((S14.1 26)).toInt ≠ 0 by omega) (show ¬ (((S14.1 26)).toInt = 3 ∧ ((S14.1 29)).toInt = 63) by omega) (show ((S14.1 26)).toInt = 4 → ((S14.1 29)).toInt = 3 ∨ 6 ≤ ((S14.1 29)).toInt by omega)) ?_
                  rintro _ S41 ⟨hT41, fc41, ⟨b41, rfl, hb41, hG41, fd41, hz41⟩ | ⟨b41, rfl, hb41, hG41, ck41, fd41, cj41⟩⟩
                  · skip
                    have fr42 := aw_fr_tr fr39 (aw_fr_sub (F := [24, 25, 31]) (A := []) (by decide) (by decide) fd41)
                    have hI43 : aw_I s h (aw_sm S41) S41 := ⟨hT41, aw_sm_rf⟩
                    show aw_W _ _ _ _ 95 lv30 [.int b41] _ _
                    refine aw_e aj_d221 rfl (cw_irb rfl (by omega)) ?_
                    have c44 : (S41.1 30).toInt = (S14.1 30).toInt := (congrArg Int32.toInt (fd41.1 30 (by decide)).1).trans rfl
                    have b45 : 0 ≤ (S41.1 30).toInt ∧ (S41.1 30).toInt ≤ 1001 := aw_bd_f hs (hI43).1 (by decide) rfl
                    exact ⟨(hI43).1, fr42, Or.inl ⟨_, rfl, hb41, hG41, (show _ ≤ ((S41.1 30)).toInt by omega)⟩⟩
                  · skip
                    have cj41 : (S41.1 30).toInt = ((S14.1 30)).toInt + 1 := cj41
                    have fr46 := aw_fr_tr fr39 (aw_fr_sub (F := [26, 27, 28, 29, 30]) (A := []) (by decide) (by decide) fd41)
                    have hI47 : aw_I s h (aw_sm S41) S41 := ⟨hT41, aw_sm_rf⟩
                    show aw_W _ _ _ _ 95 lv30 [.int b41] _ _
                    refine aw_e aj_d221 rfl (cw_irb rfl (by omega)) ?_
                    have b48 : 0 ≤ (S41.1 30).toInt ∧ (S41.1 30).toInt ≤ 1001 := aw_bd_f hs (hI47).1 (by decide) rfl
                    have c49 : (S41.1 35).toInt = x37.toInt := (congrArg Int32.toInt (fd41.1 35 (by decide)).1).trans rfl
                    have b50 : (-9999) ≤ (S41.1 35).toInt ∧ (S41.1 35).toInt ≤ 9999 := aw_bd_f hs (hI47).1 (by decide) rfl
                    refine ⟨(hI47).1, fr46, Or.inr ⟨_, rfl, hb41, hG41, (show _ + 1 ≤ ((S41.1 30)).toInt by omega), ?_⟩⟩
                    unfold aw_num aw_wd
                    rw [if_pos isn, if_pos isn]
                    refine ⟨?_, ?_⟩
                    · show ((S41.1 30)).toInt = _ + 2
                      omega
                    · show ((S41.1 35)).toInt = _
                      rw [c49]
                      have q : ((aw_tT S) (aw_tJ S + 1)) = (aw_tT S14) (aw_tJ S14) := by rw [eJ2, eT2]
                      rw [q, ← hb0, ← he0]
                      show _ = -(aw_dv (aw_tF S) (e0 - b0) b0 0)
                      rw [← eF2, ← dv9]
                      omega
                · have q36 : x32.toInt < (S14.1 28).toInt := aw_t_ge (a := x32.toInt) (b := (S14.1 28).toInt) rfl rfl q36
                  refine aw_n aj_d221 rfl rfl ?_
                  refine aw_l0 aj_d221 rfl rfl hlv30_2 ?_
                  refine aw_mul aj_d221 rfl (a := (10 : Int)) (b := x31.toInt) rfl rfl (by omega) (by omega) (fun x51 ex51 => ?_)
                  refine aw_l2 aj_d221 rfl rfl hlv30_0 ?_
                  refine aw_g hU.1 aj_d221 rfl rfl (by decide) (v := .ref 138) rfl ?_
                  refine aw_l0 aj_d221 rfl rfl hlv30_3 ?_
                  refine aw_ld (k := 21) hU.1 aj_d221 (Or.inr (Or.inr (Or.inr ⟨rfl, rfl⟩))) rfl (by decide) (by decide) rfl (a := x32.toInt) rfl (by omega) (by omega) (fun x52 ex52 => ?_)
                  have bx52 : (-128) ≤ x52.toInt ∧ x52.toInt ≤ 127 := by
                    rw [ex52]
                    exact aw_bd_a hs (hI21).1 (k := 21) (by decide) (by decide) rfl (by decide) rfl (by omega)
                  have dg := tk5.2 (x32.toInt).toNat (by omega) (by omega)
                  have ex : x52.toInt = (aw_tF S14 (x32.toInt).toNat).toInt := congrArg Int32.toInt ex52
                  rw [← ex] at dg
                  refine aw_add aj_d221 rfl (a := x51.toInt) (b := x52.toInt) rfl rfl (by omega) (by omega) (fun x53 ex53 => ?_)
                  refine aw_n aj_d221 rfl rfl ?_
                  refine aw_sub aj_d221 rfl (a := x53.toInt) (b := (48 : Int)) rfl rfl (by omega) (by omega) (fun x54 ex54 => ?_)
                  refine aw_t0 (j := 2) aj_d221 rfl (by decide) rfl ?_
                  obtain ⟨lv55, elv55⟩ : ∃ l, l = aj_set1 lv30 2 (.int x54) := ⟨_, rfl⟩
                  rw [← elv55]
                  have hlv55_0 : aj_lv lv55 0 = some (.ref 117) := cw_e1 elv55 hlv30_0 (by decide) (Or.inl (by decide))
                  have hlv55_1 : aj_lv lv55 1 = some (.int (Int32.ofInt (-1))) := cw_e1 elv55 hlv30_1 (by decide) (Or.inr rfl)
                  have hlv55_3 : aj_lv lv55 3 = some (.int x32) := cw_e1 elv55 hlv30_3 (by decide) (Or.inl (by decide))
                  have hlv55_2 : aj_lv lv55 2 = some (.int x54) := by rw [elv55]; exact ak_set1_eq _ _ _
                  show aw_W _ _ _ _ 78 lv55 [] _ _
                  refine aw_inc aj_d221 rfl hlv55_3 (a := x32.toInt) rfl (by omega) (by omega) (by decide) (by decide) (fun x56 ex56 => ?_)
                  obtain ⟨lv57, elv57⟩ : ∃ l, l = aj_set1 lv55 3 (.int x56) := ⟨_, rfl⟩
                  rw [← elv57]
                  have hlv57_0 : aj_lv lv57 0 = some (.ref 117) := cw_e1 elv57 hlv55_0 (by decide) (Or.inl (by decide))
                  have hlv57_1 : aj_lv lv57 1 = some (.int (Int32.ofInt (-1))) := cw_e1 elv57 hlv55_1 (by decide) (Or.inl (by decide))
                  have hlv57_2 : aj_lv lv57 2 = some (.int x54) := cw_e1 elv57 hlv55_2 (by decide) (Or.inr rfl)
                  have hlv57_3 : aj_lv lv57 3 = some (.int x56) := by rw [elv57]; exact ak_set1_eq _ _ _
                  show aw_W _ _ _ _ 81 lv57 [] _ _
                  refine aw_n aj_d221 rfl rfl ?_
                  exact ihL55_27 lv57 (x54) (x56) hlv57_0 hlv57_1 hlv57_2 hlv57_3 (by first | (show 0 ≤ (0 : Int) ∧ (0 : Int) ≤ 9999; omega) | (unfold ar_dgB at dB; omega)) (by omega) (by unfold ar_dgB at *; first | (refine Or.inl ⟨by show (x56).toInt = _; omega, by show (0 : Int) ≤ 0; omega⟩) | omega) (by rw [show ((x56).toInt).toNat = ((x32).toInt).toNat + 1 by omega, show (x54).toInt = 10 * (x31).toInt + (aw_tF S14 ((x32).toInt).toNat).toInt - 48 by omega, ← aw_dv_step (by omega)]; exact dv) (by first | omega | (simp only [] at *; omega))
            exact L55_27 _ lv27 ((Int32.ofInt 0)) ((S14.1 27)) hlv27_0 hlv27_1 hlv27_2 hlv27_3 (by first | (show 0 ≤ (0 : Int) ∧ (0 : Int) ≤ 9999; omega) | (unfold ar_dgB at dB; omega)) (by constructor <;> (show _ ≤ _; omega)) (by unfold ar_dgB at *; first | (refine Or.inl ⟨by show ((S14.1 27)).toInt = _; omega, by show (0 : Int) ≤ 0; omega⟩) | omega) (by rw [show (((S14.1 27)).toInt).toNat = b0 by omega]; rfl) (Nat.lt_succ_self _)
          · have q24 : (S14.1 26).toInt ≠ (2 : Int) := aw_t_eq (a := (S14.1 26).toInt) (b := (2 : Int)) rfl rfl q24
            refine aw_l2 aj_d221 rfl rfl hlv12_0 ?_
            refine aw_n aj_d221 rfl rfl ?_
            refine aw_l2 aj_d221 rfl rfl hlv12_0 ?_
            have b58 : 0 ≤ (S14.1 27).toInt ∧ (S14.1 27).toInt ≤ 4000 := aw_bd_f hs (hI21).1 (by decide) rfl
            refine aw_g hU.1 aj_d221 rfl rfl (by decide) (v := .int (S14.1 27)) rfl ?_
            refine aw_k hU.1 aj_d221 rfl rfl [_, _] rfl rfl rfl (Nat.le_of_ble_eq_true rfl) (ar_stop hU (hI21).1 (by omega) (a := (1 : Int)) rfl) ?_
            rintro _ S59 ⟨hT59, fc59, rfl, hz59⟩
            have hG59 := aw_G_stop hG14 fc59 (by omega)
            have fr60 := aw_fr_tr fr20 (aw_fr_sub (F := [24, 25, 31]) (A := []) (by decide) (by decide) fc59)
            have hI61 : aw_I s h (aw_sm S59) S59 := ⟨hT59, aw_sm_rf⟩
            show aw_W _ _ _ _ 47 lv12 [.int (Int32.ofInt 0)] _ _
            refine aw_e aj_d221 rfl rfl ?_
            have b62 : 0 ≤ (S14.1 30).toInt ∧ (S14.1 30).toInt ≤ 1001 := aw_bd_f hs (hI21).1 (by decide) rfl
            have c63 : (S59.1 30).toInt = (S14.1 30).toInt := (congrArg Int32.toInt (fc59.1 30 (by decide)).1).trans rfl
            have b64 : 0 ≤ (S59.1 30).toInt ∧ (S59.1 30).toInt ≤ 1001 := aw_bd_f hs (hI61).1 (by decide) rfl
            exact ⟨(hI61).1, fr60, Or.inl ⟨_, rfl, rfl, hG59, (show _ ≤ ((S59.1 30)).toInt by omega)⟩⟩
        · have q22 : (1 : Int) = (0 : Int) := aw_t_ne (a := (1 : Int)) (b := (0 : Int)) hb14 rfl q22
          exfalso
          omega
  · skip
    have pb8 : ¬ (((S.1 26)).toInt = 3 ∧ ((S.1 29)).toInt = (45 : Int)) := pb8
    show aw_W _ _ _ _ 16 lv7 [.int b8] _ _
    refine aw_z (tgt := 30) aj_d221 rfl rfl (fun q65 => ?_) (fun q65 => ?_)
    · have q65 : (0 : Int) = (0 : Int) := aw_t_eq (a := (0 : Int)) (b := (0 : Int)) hb8 rfl q65
      have isn : ¬ aw_is (aw_tT S) (aw_tJ S) 3 45 := fun z => by
        have z1 := hG.1.2.1.1.trans z.1
        have z2 := hG.1.2.1.2.2.2.trans z.2
        omega
      refine aw_l2 aj_d221 rfl rfl hlv7_0 ?_
      refine aw_g hU.1 aj_d221 rfl rfl (by decide) (v := .int (S.1 26)) rfl ?_
      refine aw_n aj_d221 rfl rfl ?_
      refine aw_c (tgt := 48) aj_d221 rfl rfl (fun q66 => ?_) (fun q66 => ?_)
      · have q66 : (S.1 26).toInt = (2 : Int) := aw_t_eq (a := (S.1 26).toInt) (b := (2 : Int)) rfl rfl q66
        have tk := aw_GA_tok hG.1 (by omega)
        obtain ⟨b0, hb0⟩ : ∃ z, z = ((aw_tT S) (aw_tJ S)).2.1 := ⟨_, rfl⟩
        obtain ⟨e0, he0⟩ : ∃ z, z = ((aw_tT S) (aw_tJ S)).2.2.1 := ⟨_, rfl⟩
        rw [← hb0, ← he0] at tk
        obtain ⟨tk1, tk2, tk3, tk4, tk5⟩ := tk
        have tk5 := tk5 (by omega)
        have bN : aw_tN S ≤ 4000 := by
          have bb := aw_bd_f hs hI2.1 (k := 23) (lo := 0) (hi := 4000) (by decide) rfl
          unfold aw_tN
          omega
        refine aw_n aj_d221 rfl rfl ?_
        refine aw_t0 (j := 2) aj_d221 rfl (by decide) rfl ?_
        obtain ⟨lv67, elv67⟩ : ∃ l, l = aj_set1 lv7 2 (.int (Int32.ofInt 0)) := ⟨_, rfl⟩
        rw [← elv67]
        have hlv67_0 : aj_lv lv67 0 = some (.ref 117) := cw_e1 elv67 hlv7_0 (by decide) (Or.inl (by decide))
        have hlv67_1 : aj_lv lv67 1 = some (.int (Int32.ofInt 1)) := cw_e1 elv67 hlv7_1 (by decide) (Or.inr rfl)
        have hlv67_2 : aj_lv lv67 2 = some (.int (Int32.ofInt 0)) := by rw [elv67]; exact ak_set1_eq _ _ _
        show aw_W _ _ _ _ 50 lv67 [] _ _
        refine aw_l2 aj_d221 rfl rfl hlv67_0 ?_
        refine aw_g hU.1 aj_d221 rfl rfl (by decide) (v := .int (S.1 27)) rfl ?_
        refine aw_t0 (j := 3) aj_d221 rfl (by decide) rfl ?_
        obtain ⟨lv68, elv68⟩ : ∃ l, l = aj_set1 lv67 3 (.int (S.1 27)) := ⟨_, rfl⟩
        rw [← elv68]
        have hlv68_0 : aj_lv lv68 0 = some (.ref 117) := cw_e1 elv68 hlv67_0 (by decide) (Or.inl (by decide))
        have hlv68_1 : aj_lv lv68 1 = some (.int (Int32.ofInt 1)) := cw_e1 elv68 hlv67_1 (by decide) (Or.inl (by decide))
        have hlv68_2 : aj_lv lv68 2 = some (.int (Int32.ofInt 0)) := cw_e1 elv68 hlv67_2 (by decide) (Or.inr rfl)
        have hlv68_3 : aj_lv lv68 3 = some (.int (S.1 27)) := by rw [elv68]; exact ak_set1_eq _ _ _
        show aw_W _ _ _ _ 55 lv68 [] _ _
        have L55_68 : ∀ (N : Nat) (lv71 : aj_V) (x72 : Int32) (x73 : Int32), (aj_lv lv71 0 = some (.ref 117)) → (aj_lv lv71 1 = some (.int (Int32.ofInt 1))) → (aj_lv lv71 2 = some (.int x72)) → (aj_lv lv71 3 = some (.int x73)) → (0 ≤ x72.toInt ∧ x72.toInt ≤ 9999) → ((b0 : Int) ≤ x73.toInt ∧ x73.toInt ≤ e0) → (ar_dgB b0 x73.toInt x72.toInt) → (aw_dv (aw_tF S) (e0 - (x73.toInt).toNat) (x73.toInt).toNat x72.toInt = aw_dv (aw_tF S) (e0 - b0) b0 0) → (e0 - (x73.toInt).toNat) < N → aw_W tb h d aj_m221 55 lv71 [] (aw_wf S 36 (S.1 27)) ((ar_QT s h g [24, 25, 26, 27, 28, 29, 30, 31, 35, 36] [] S (fun S' => (S'.1 30).toInt = (S.1 30).toInt + (aw_wd (aw_tT S) (aw_tJ S) : Nat) ∧ (S'.1 35).toInt = aw_num (aw_tF S) (aw_tT S) (aw_tJ S)))) := by
          intro N
          induction N with
          | zero =>
            intro  lv71 x72 x73 hlv71_0 hlv71_1 hlv71_2 hlv71_3 v0 k0 dB dv hm
            omega
          | succ N ihL55_68 =>
            intro  lv71 x72 x73 hlv71_0 hlv71_1 hlv71_2 hlv71_3 v0 k0 dB dv hm
            refine aw_l0 aj_d221 rfl rfl hlv71_3 ?_
            refine aw_l2 aj_d221 rfl rfl hlv71_0 ?_
            have b76 : 0 ≤ (S.1 28).toInt ∧ (S.1 28).toInt ≤ 4000 := aw_bd_f hs (hI2).1 (by decide) rfl
            refine aw_g hU.1 aj_d221 rfl rfl (by decide) (v := .int (S.1 28)) rfl ?_
            refine aw_c (tgt := 84) aj_d221 rfl rfl (fun q77 => ?_) (fun q77 => ?_)
            · have q77 : x73.toInt ≥ (S.1 28).toInt := aw_t_ge (a := x73.toInt) (b := (S.1 28).toInt) rfl rfl q77
              have dv9 : x72.toInt = aw_dv (aw_tF S) (e0 - b0) b0 0 := by
                rw [← dv, show ((x73).toInt).toNat = e0 by omega, aw_dv_end]
              refine aw_l2 aj_d221 rfl rfl hlv71_0 ?_
              refine aw_l0 aj_d221 rfl rfl hlv71_1 ?_
              refine aw_l0 aj_d221 rfl rfl hlv71_2 ?_
              refine aw_mul aj_d221 rfl (a := (1 : Int)) (b := x72.toInt) rfl rfl (by omega) (by omega) (fun x78 ex78 => ?_)
              refine aw_p hU.1 aj_d221 rfl rfl (by decide) rfl ?_
              have hI79 := aw_I_f (aw_UV hU aw_Gs_sm) (k := 35) (v := x78) hI5 (by decide) (by decide) rfl (aw_bp (a := x78.toInt) rfl (by omega) (by omega))
              have fr80 := aw_fr_f (k := 35) (v := x78) (by decide) fr6
              refine aw_l2 aj_d221 rfl rfl hlv71_0 ?_
              have b81 : 0 ≤ (S.1 30).toInt ∧ (S.1 30).toInt ≤ 1001 := aw_bd_f hs (hI2).1 (by decide) rfl
              refine aw_k hU.1 aj_d221 rfl rfl [] rfl rfl rfl (Nat.le_of_ble_eq_true rfl) (ar_pass hU (hI79).1 (aw_G_sm hI79.2 hG) (by omega) (show ((S.1 26)).toInt ≠ 0 by omega) (show ¬ (((S.1 26)).toInt = 3 ∧ ((S.1 29)).toInt = 63) by omega) (show ((S.1 26)).toInt = 4 → ((S.1 29)).toInt = 3 ∨ 6 ≤ ((S.1 29)).toInt by omega)) ?_
              rintro _ S82 ⟨hT82, fc82, ⟨b82, rfl, hb82, hG82, fd82, hz82⟩ | ⟨b82, rfl, hb82, hG82, ck82, fd82, cj82⟩⟩
              · skip
                have fr83 := aw_fr_tr fr80 (aw_fr_sub (F := [24, 25, 31]) (A := []) (by decide) (by decide) fd82)
                have hI84 : aw_I s h (aw_sm S82) S82 := ⟨hT82, aw_sm_rf⟩
                show aw_W _ _ _ _ 95 lv71 [.int b82] _ _
                refine aw_e aj_d221 rfl (cw_irb rfl (by omega)) ?_
                have c85 : (S82.1 30).toInt = (S.1 30).toInt := (congrArg Int32.toInt (fd82.1 30 (by decide)).1).trans rfl
                have b86 : 0 ≤ (S82.1 30).toInt ∧ (S82.1 30).toInt ≤ 1001 := aw_bd_f hs (hI84).1 (by decide) rfl
                exact ⟨(hI84).1, fr83, Or.inl ⟨_, rfl, hb82, hG82, (show _ ≤ ((S82.1 30)).toInt by omega)⟩⟩
              · skip
                have cj82 : (S82.1 30).toInt = ((S.1 30)).toInt + 1 := cj82
                have fr87 := aw_fr_tr fr80 (aw_fr_sub (F := [26, 27, 28, 29, 30]) (A := []) (by decide) (by decide) fd82)
                have hI88 : aw_I s h (aw_sm S82) S82 := ⟨hT82, aw_sm_rf⟩
                show aw_W _ _ _ _ 95 lv71 [.int b82] _ _
                refine aw_e aj_d221 rfl (cw_irb rfl (by omega)) ?_
                have b89 : 0 ≤ (S82.1 30).toInt ∧ (S82.1 30).toInt ≤ 1001 := aw_bd_f hs (hI88).1 (by decide) rfl
                have c90 : (S82.1 35).toInt = x78.toInt := (congrArg Int32.toInt (fd82.1 35 (by decide)).1).trans rfl
                have b91 : (-9999) ≤ (S82.1 35).toInt ∧ (S82.1 35).toInt ≤ 9999 := aw_bd_f hs (hI88).1 (by decide) rfl
                refine ⟨(hI88).1, fr87, Or.inr ⟨_, rfl, hb82, hG82, (show _ + 1 ≤ ((S82.1 30)).toInt by omega), ?_⟩⟩
                unfold aw_num aw_wd
                rw [if_neg isn, if_neg isn]
                refine ⟨?_, ?_⟩
                · show ((S82.1 30)).toInt = _ + 1
                  omega
                · show ((S82.1 35)).toInt = _
                  rw [c90, ← hb0, ← he0, ← dv9]
                  omega
            · have q77 : x73.toInt < (S.1 28).toInt := aw_t_ge (a := x73.toInt) (b := (S.1 28).toInt) rfl rfl q77
              refine aw_n aj_d221 rfl rfl ?_
              refine aw_l0 aj_d221 rfl rfl hlv71_2 ?_
              refine aw_mul aj_d221 rfl (a := (10 : Int)) (b := x72.toInt) rfl rfl (by omega) (by omega) (fun x92 ex92 => ?_)
              refine aw_l2 aj_d221 rfl rfl hlv71_0 ?_
              refine aw_g hU.1 aj_d221 rfl rfl (by decide) (v := .ref 138) rfl ?_
              refine aw_l0 aj_d221 rfl rfl hlv71_3 ?_
              refine aw_ld (k := 21) hU.1 aj_d221 (Or.inr (Or.inr (Or.inr ⟨rfl, rfl⟩))) rfl (by decide) (by decide) rfl (a := x73.toInt) rfl (by omega) (by omega) (fun x93 ex93 => ?_)
              have bx93 : (-128) ≤ x93.toInt ∧ x93.toInt ≤ 127 := by
                rw [ex93]
                exact aw_bd_a hs (hI5).1 (k := 21) (by decide) (by decide) rfl (by decide) rfl (by omega)
              have dg := tk5.2 (x73.toInt).toNat (by omega) (by omega)
              have ex : x93.toInt = (aw_tF S (x73.toInt).toNat).toInt := congrArg Int32.toInt ex93
              rw [← ex] at dg
              refine aw_add aj_d221 rfl (a := x92.toInt) (b := x93.toInt) rfl rfl (by omega) (by omega) (fun x94 ex94 => ?_)
              refine aw_n aj_d221 rfl rfl ?_
              refine aw_sub aj_d221 rfl (a := x94.toInt) (b := (48 : Int)) rfl rfl (by omega) (by omega) (fun x95 ex95 => ?_)
              refine aw_t0 (j := 2) aj_d221 rfl (by decide) rfl ?_
              obtain ⟨lv96, elv96⟩ : ∃ l, l = aj_set1 lv71 2 (.int x95) := ⟨_, rfl⟩
              rw [← elv96]
              have hlv96_0 : aj_lv lv96 0 = some (.ref 117) := cw_e1 elv96 hlv71_0 (by decide) (Or.inl (by decide))
              have hlv96_1 : aj_lv lv96 1 = some (.int (Int32.ofInt 1)) := cw_e1 elv96 hlv71_1 (by decide) (Or.inr rfl)
              have hlv96_3 : aj_lv lv96 3 = some (.int x73) := cw_e1 elv96 hlv71_3 (by decide) (Or.inl (by decide))
              have hlv96_2 : aj_lv lv96 2 = some (.int x95) := by rw [elv96]; exact ak_set1_eq _ _ _
              show aw_W _ _ _ _ 78 lv96 [] _ _
              refine aw_inc aj_d221 rfl hlv96_3 (a := x73.toInt) rfl (by omega) (by omega) (by decide) (by decide) (fun x97 ex97 => ?_)
              obtain ⟨lv98, elv98⟩ : ∃ l, l = aj_set1 lv96 3 (.int x97) := ⟨_, rfl⟩
              rw [← elv98]
              have hlv98_0 : aj_lv lv98 0 = some (.ref 117) := cw_e1 elv98 hlv96_0 (by decide) (Or.inl (by decide))
              have hlv98_1 : aj_lv lv98 1 = some (.int (Int32.ofInt 1)) := cw_e1 elv98 hlv96_1 (by decide) (Or.inl (by decide))
              have hlv98_2 : aj_lv lv98 2 = some (.int x95) := cw_e1 elv98 hlv96_2 (by decide) (Or.inr rfl)
              have hlv98_3 : aj_lv lv98 3 = some (.int x97) := by rw [elv98]; exact ak_set1_eq _ _ _
              show aw_W _ _ _ _ 81 lv98 [] _ _
              refine aw_n aj_d221 rfl rfl ?_
              exact ihL55_68 lv98 (x95) (x97) hlv98_0 hlv98_1 hlv98_2 hlv98_3 (by first | (show 0 ≤ (0 : Int) ∧ (0 : Int) ≤ 9999; omega) | (unfold ar_dgB at dB; omega)) (by omega) (by unfold ar_dgB at *; first | (refine Or.inl ⟨by show (x97).toInt = _; omega, by show (0 : Int) ≤ 0; omega⟩) | omega) (by rw [show ((x97).toInt).toNat = ((x73).toInt).toNat + 1 by omega, show (x95).toInt = 10 * (x72).toInt + (aw_tF S ((x73).toInt).toNat).toInt - 48 by omega, ← aw_dv_step (by omega)]; exact dv) (by first | omega | (simp only [] at *; omega))
        exact L55_68 _ lv68 ((Int32.ofInt 0)) ((S.1 27)) hlv68_0 hlv68_1 hlv68_2 hlv68_3 (by first | (show 0 ≤ (0 : Int) ∧ (0 : Int) ≤ 9999; omega) | (unfold ar_dgB at dB; omega)) (by constructor <;> (show _ ≤ _; omega)) (by unfold ar_dgB at *; first | (refine Or.inl ⟨by show ((S.1 27)).toInt = _; omega, by show (0 : Int) ≤ 0; omega⟩) | omega) (by rw [show (((S.1 27)).toInt).toNat = b0 by omega]; rfl) (Nat.lt_succ_self _)
      · have q66 : (S.1 26).toInt ≠ (2 : Int) := aw_t_eq (a := (S.1 26).toInt) (b := (2 : Int)) rfl rfl q66
        refine aw_l2 aj_d221 rfl rfl hlv7_0 ?_
        refine aw_n aj_d221 rfl rfl ?_
        refine aw_l2 aj_d221 rfl rfl hlv7_0 ?_
        refine aw_g hU.1 aj_d221 rfl rfl (by decide) (v := .int (S.1 27)) rfl ?_
        refine aw_k hU.1 aj_d221 rfl rfl [_, _] rfl rfl rfl (Nat.le_of_ble_eq_true rfl) (ar_stop hU (hI5).1 (by omega) (a := (1 : Int)) rfl) ?_
        rintro _ S99 ⟨hT99, fc99, rfl, hz99⟩
        have hG99 := aw_G_stop (aw_G_sm hI5.2 hG) fc99 (by omega)
        have fr100 := aw_fr_tr fr6 (aw_fr_sub (F := [24, 25, 31]) (A := []) (by decide) (by decide) fc99)
        have hI101 : aw_I s h (aw_sm S99) S99 := ⟨hT99, aw_sm_rf⟩
        show aw_W _ _ _ _ 47 lv7 [.int (Int32.ofInt 0)] _ _
        refine aw_e aj_d221 rfl rfl ?_
        have b102 : 0 ≤ (S.1 30).toInt ∧ (S.1 30).toInt ≤ 1001 := aw_bd_f hs (hI2).1 (by decide) rfl
        have c103 : (S99.1 30).toInt = (S.1 30).toInt := (congrArg Int32.toInt (fc99.1 30 (by decide)).1).trans rfl
        have b104 : 0 ≤ (S99.1 30).toInt ∧ (S99.1 30).toInt ≤ 1001 := aw_bd_f hs (hI101).1 (by decide) rfl
        exact ⟨(hI101).1, fr100, Or.inl ⟨_, rfl, rfl, hG99, (show _ ≤ ((S99.1 30)).toInt by omega)⟩⟩
    · have q65 : (0 : Int) ≠ (0 : Int) := aw_t_eq (a := (0 : Int)) (b := (0 : Int)) hb8 rfl q65
      exfalso
      omega
end ARA3
