/-! START AND TEXT (printed by wip/p2/ref/r26.py) -/
section ARA26
variable {tb : aj_T} {s : List Nat} {h : aj_H} {S S' S1 S2 : aj_S} {d n : Nat} {g g' : aw_gh} {F A : List Nat} {G : aj_S → Prop} {nm : Int64 → Prop} {fl : Bool} {la ho hu ht q t p : Nat}
theorem aw_GA_0 {kd m : Int} {b e : Nat} (fr : aw_fr F A S S') (h23 : 23 ∉ F) (h21 : 21 ∉ A) (hR : aw_R (aw_tF S) (aw_tN S) 0 kd b e m) (hJ : (S'.1 30).toInt = 1) (ht : aw_tok S' kd b e m) : aw_GA S' := by
  have eT := aw_fr_tT fr h23 h21
  have eJ : aw_tJ S' = 1 := by
    unfold aw_tJ
    omega
  have eN : aw_tN S' = aw_tN S := by
    unfold aw_tN
    rw [(fr.1 23 h23).1]
  have e1 : (aw_tT S) 1 = (kd, b, e, m) := aw_tokF_eq hR
  have hb := aw_R_b hR (Nat.zero_le _)
  unfold aw_GA
  rw [eT, eJ, eN, e1]
  exact ⟨Nat.le_refl _, ht, hb.2.2.1⟩
/-- ahead of a text -/
def aw_tx (la : Nat) (S : aj_S) : Prop := aw_B S ∧ aw_h S = 1 - aw_hh S ∧ ((S.1 32).toInt = 1 → 1 ≤ la ∧ (aw_tT S la).1 = 0 ∧ (∀ q, 1 ≤ q → q < la → (aw_is (aw_tT S) q 3 63 → aw_res (fun _ => True, false, la, 0, 0, 0) (aw_tF S) (aw_tT S) q) ∧ (aw_is (aw_tT S) q 4 2 → aw_resT (aw_tF S) (aw_tT S) q)) ∧ aw_nc ((aw_ul (aw_tT S) 0 la).map (aw_vm (aw_tF S) (aw_tT S))) 1)
theorem aw_tx_G (h0 : aw_tx la S) (b0 : aw_hh S ≤ 1) (fr : aw_fr [26, 27, 28, 29, 30, 31, 41, 45, 46, 47] [1, 5, 7, 10, 11] S S') (z1 : (S'.2.2.1 1 (aw_h S)).toInt = 0) (z5 : (S'.2.2.1 5 (aw_h S)).toInt = 1) (z7 : (S'.2.2.1 7 (aw_h S)).toInt = 0) (z10 : (S'.2.2.1 10 (aw_h S)).toInt = 0) (z11 : (S'.2.2.1 11 (aw_h S)).toInt = 0) (o5 : S'.2.2.1 5 (aw_hh S) = S.2.2.1 5 (aw_hh S)) (o10 : S'.2.2.1 10 (aw_hh S) = S.2.2.1 10 (aw_hh S)) (o11 : S'.2.2.1 11 (aw_hh S) = S.2.2.1 11 (aw_hh S)) (hJ : (S'.1 30).toInt = 1) (h45 : (S'.1 45).toInt = 0) (GA : aw_GA S') : aw_G (fun _ => True, false, la, 0, 0, 0) S' := by
  obtain ⟨⟨k1, k2, k3, k4⟩, v1, hC⟩ := h0
  have eT := aw_fr_tT fr (by decide) (by decide)
  have eF : aw_tF S' = aw_tF S := (fr.2 21 (by decide)).1
  have eJ : aw_tJ S' = 1 := by
    unfold aw_tJ
    omega
  have eh : aw_h S' = aw_h S := by unfold aw_h; rw [(fr.1 37 (by decide)).1]
  have ehh : aw_hh S' = aw_hh S := by unfold aw_hh; rw [(fr.1 0 (by decide)).1]
  have eu : aw_ul (aw_tT S) 0 1 = [] := by
    unfold aw_ul
    rw [if_neg (fun z => absurd z.2.1 (fun y => y rfl))]
    rfl
  have et : aw_tl (aw_tT S) 0 1 = [] := by
    unfold aw_tl
    rw [if_neg (fun z => absurd z.2.1 (fun y => y rfl))]
    rfl
  refine ⟨GA, fun _ => Or.inr ⟨fun q q1 q2 => ?_, fun _ => ?_⟩, fun z => ?_, ⟨fun z => absurd z Bool.false_ne_true, fun _ => ⟨⟨?_, ?_, ?_⟩, ?_, ?_⟩, fun z => absurd rfl z, fun z => absurd rfl z⟩, ?_, ?_, ?_, ?_, fun z => absurd z Bool.false_ne_true, fun _ => ⟨?_, ?_, fun _ => ⟨?_, ?_⟩, fun _ => ?_⟩⟩
  · exfalso
    rw [eJ] at q2
    omega
  · show aw_nc ((aw_ul (aw_tT S') 0 (aw_tJ S')).map (aw_vm (aw_tF S') (aw_tT S'))) 1
    rw [eT, eJ, eu]
    trivial
  · rw [(fr.1 32 (by decide)).1] at z
    obtain ⟨c1, c2, c3, c4⟩ := hC z
    exact ⟨by rw [eJ]; exact c1, by rw [eT]; exact c2, by rw [eT, eF]; exact c3, fun _ => by rw [eT, eF]; exact c4⟩
  · show (S'.2.2.1 1 (aw_h S')).toInt = ((aw_ul (aw_tT S') 0 (aw_tJ S')).length : Nat)
    rw [eh, eT, eJ, eu]
    exact z1
  · intro u i hi
    have hi : (aw_ul (aw_tT S') 0 (aw_tJ S'))[u]? = some i := hi
    rw [eT, eJ, eu] at hi
    cases hi
  · show (S'.2.2.1 5 (aw_h S')).toInt = (aw_wc ((aw_ul (aw_tT S') 0 (aw_tJ S')).map (aw_vm (aw_tF S') (aw_tT S'))) : Nat)
    rw [eh, eT, eJ, eu]
    exact z5
  · show (S'.2.2.1 7 (aw_h S')).toInt = ((aw_tl (aw_tT S') 0 (aw_tJ S')).length : Nat)
    rw [eh, eT, eJ, et]
    exact z7
  · intro u i hi
    have hi : (aw_tl (aw_tT S') 0 (aw_tJ S'))[u]? = some i := hi
    rw [eT, eJ, et] at hi
    cases hi
  · rw [(fr.2 17 (by decide)).1, (fr.2 18 (by decide)).1]
    exact k1
  · unfold aw_hold aw_held at k2 ⊢
    rw [ehh, o5, o10, (fr.2 12 (by decide)).1]
    exact k2
  · rw [ehh, o10, o11]; exact k3
  · rw [ehh, o10, o11]; exact k4
  · rw [eh, ehh]; exact v1
  · rw [eh]; exact z11
  · rw [eh]
    exact ⟨0, by rw [z5]; decide, fun q hq => by
      rw [z10] at hq
      exact absurd hq (by omega)⟩
  · rw [eh, z10, h45]
    exact Int.le_refl _
  · rw [eh]; exact z10
theorem ar_start (hU : aw_U tb s h) (hT : ak_Ty ak_TN s (aj_mh h S)) (hd : 4 ≤ d) : aw_K tb h d 205 [.ref 117] S (fun r S' => r = none ∧ ak_Ty ak_TN s (aj_mh h S') ∧ aw_fr [26, 27, 28, 29, 30, 31, 41, 45, 46, 47] [] S S' ∧ (S'.1 30).toInt = 1 ∧ (S'.1 31).toInt = 0 ∧ (S'.1 45).toInt = 0 ∧ aw_GA S') := by
  obtain ⟨d, rfl⟩ : ∃ e, d = e + 1 := ⟨d - 1, by omega⟩
  have bN := aw_bd_f (aw_hy_sT hU.2.2) hT (k := 23) (lo := 0) (hi := 4000) (by decide) rfl
  have hs : aw_sT s := aw_hy_sT hU.2.2
  refine aw_m aj_m205_at rfl (Nat.le_of_ble_eq_true rfl) ?_
  show aw_W _ _ _ _ 0 [(0, .ref 117)] [] _ _
  obtain ⟨lv1, elv1⟩ : ∃ l : aj_V, l = [(0, .ref 117)] := ⟨_, rfl⟩
  rw [← elv1]
  have hlv1_0 : aj_lv lv1 0 = some (.ref 117) := by rw [elv1]; rfl
  have hI2 : aw_I s h (aw_sm S) S := ⟨hT, aw_sm_rf⟩
  have fr3 : aw_fr [26, 27, 28, 29, 30, 31, 41, 45, 46, 47] [] S S := aw_fr_rf
  refine aw_l2 aj_d205 rfl rfl hlv1_0 ?_
  refine aw_n aj_d205 rfl rfl ?_
  refine aw_p hU.1 aj_d205 rfl rfl (by decide) rfl ?_
  have hI4 : aw_I s h (aw_sm (aw_wf S 28 (Int32.ofInt 0))) (aw_wf S 28 (Int32.ofInt 0)) := ⟨aw_T_f hU.2.1 hs hU.1.1 (hI2).1 (by decide) rfl (aw_bp (a := (0 : Int)) rfl (by omega) (by omega)), aw_sm_rf⟩
  have fr5 := aw_fr_f (k := 28) (v := (Int32.ofInt 0)) (by decide) fr3
  refine aw_l2 aj_d205 rfl rfl hlv1_0 ?_
  refine aw_n aj_d205 rfl rfl ?_
  refine aw_p hU.1 aj_d205 rfl rfl (by decide) rfl ?_
  have hI6 : aw_I s h (aw_sm (aw_wf (aw_wf S 28 (Int32.ofInt 0)) 30 (Int32.ofInt 1))) (aw_wf (aw_wf S 28 (Int32.ofInt 0)) 30 (Int32.ofInt 1)) := ⟨aw_T_f hU.2.1 hs hU.1.1 (hI4).1 (by decide) rfl (aw_bp (a := (1 : Int)) rfl (by omega) (by omega)), aw_sm_rf⟩
  have fr7 := aw_fr_f (k := 30) (v := (Int32.ofInt 1)) (by decide) fr5
  refine aw_l2 aj_d205 rfl rfl hlv1_0 ?_
  refine aw_n aj_d205 rfl rfl ?_
  refine aw_p hU.1 aj_d205 rfl rfl (by decide) rfl ?_
  have hI8 := aw_I_f (aw_UV hU aw_Gs_sm) (k := 31) (v := (Int32.ofInt 0)) hI6 (by decide) (by decide) rfl (aw_bp (a := (0 : Int)) rfl (by omega) (by omega))
  have fr9 := aw_fr_f (k := 31) (v := (Int32.ofInt 0)) (by decide) fr7
  refine aw_l2 aj_d205 rfl rfl hlv1_0 ?_
  refine aw_n aj_d205 rfl rfl ?_
  refine aw_p hU.1 aj_d205 rfl rfl (by decide) rfl ?_
  have hI10 := aw_I_f (aw_UV hU aw_Gs_sm) (k := 41) (v := (Int32.ofInt 0)) hI8 (by decide) (by decide) rfl (aw_bp (a := (0 : Int)) rfl (by omega) (by omega))
  have fr11 := aw_fr_f (k := 41) (v := (Int32.ofInt 0)) (by decide) fr9
  refine aw_l2 aj_d205 rfl rfl hlv1_0 ?_
  refine aw_n aj_d205 rfl rfl ?_
  refine aw_p hU.1 aj_d205 rfl rfl (by decide) rfl ?_
  have hI12 := aw_I_f (aw_UV hU aw_Gs_sm) (k := 46) (v := (Int32.ofInt 0)) hI10 (by decide) (by decide) rfl (aw_bp (a := (0 : Int)) rfl (by omega) (by omega))
  have fr13 := aw_fr_f (k := 46) (v := (Int32.ofInt 0)) (by decide) fr11
  refine aw_l2 aj_d205 rfl rfl hlv1_0 ?_
  refine aw_n aj_d205 rfl rfl ?_
  refine aw_p hU.1 aj_d205 rfl rfl (by decide) rfl ?_
  have hI14 := aw_I_f (aw_UV hU aw_Gs_sm) (k := 47) (v := (Int32.ofInt 0)) hI12 (by decide) (by decide) rfl (aw_bp (a := (0 : Int)) rfl (by omega) (by omega))
  have fr15 := aw_fr_f (k := 47) (v := (Int32.ofInt 0)) (by decide) fr13
  refine aw_l2 aj_d205 rfl rfl hlv1_0 ?_
  refine aw_n aj_d205 rfl rfl ?_
  refine aw_p hU.1 aj_d205 rfl rfl (by decide) rfl ?_
  have hI16 : aw_I s h (aw_sm (aw_wf (aw_wf (aw_wf (aw_wf (aw_wf (aw_wf (aw_wf S 28 (Int32.ofInt 0)) 30 (Int32.ofInt 1)) 31 (Int32.ofInt 0)) 41 (Int32.ofInt 0)) 46 (Int32.ofInt 0)) 47 (Int32.ofInt 0)) 45 (Int32.ofInt 0))) (aw_wf (aw_wf (aw_wf (aw_wf (aw_wf (aw_wf (aw_wf S 28 (Int32.ofInt 0)) 30 (Int32.ofInt 1)) 31 (Int32.ofInt 0)) 41 (Int32.ofInt 0)) 46 (Int32.ofInt 0)) 47 (Int32.ofInt 0)) 45 (Int32.ofInt 0)) := ⟨aw_T_f hU.2.1 hs hU.1.1 (hI14).1 (by decide) rfl (aw_bp (a := (0 : Int)) rfl (by omega) (by omega)), aw_sm_rf⟩
  have fr17 := aw_fr_f (k := 45) (v := (Int32.ofInt 0)) (by decide) fr15
  refine aw_l2 aj_d205 rfl rfl hlv1_0 ?_
  refine aw_k hU.1 aj_d205 rfl rfl [] rfl rfl rfl (Nat.le_of_ble_eq_true rfl) (aw_nextK (aw_UV hU (fun _ _ _ q => q)) ⟨(hI16).1, trivial⟩ (n := aw_tN S) (by show (S.1 23).toInt = _; unfold aw_tN; omega) (e0 := 0) rfl (Nat.zero_le _) (by omega)) ?_
  rintro r18 S18 ⟨rfl, kd, b, e, m, hR, htk, ⟨fa, fb⟩, hT18⟩
  have fc18 : aw_fr [26, 27, 28, 29] [] (aw_wf (aw_wf (aw_wf (aw_wf (aw_wf (aw_wf (aw_wf S 28 (Int32.ofInt 0)) 30 (Int32.ofInt 1)) 31 (Int32.ofInt 0)) 41 (Int32.ofInt 0)) 46 (Int32.ofInt 0)) 47 (Int32.ofInt 0)) 45 (Int32.ofInt 0)) S18 := ⟨fun j hj => ⟨fb j (by simp at hj; omega) (by simp at hj; omega) (by simp at hj; omega) (by simp at hj; omega), congrFun (congrArg Prod.fst fa) j⟩, fun j _ => ⟨congrFun (congrArg (fun x => x.2.1) fa) j, congrFun (congrArg (fun x => x.2.2) fa) j⟩⟩
  have j18 : (S18.1 30).toInt = 1 := (congrArg Int32.toInt (fc18.1 30 (by decide)).1).trans (by show ((Int32.ofInt 1)).toInt = 1; rfl)
  have z18 : (S18.1 31).toInt = 0 := (congrArg Int32.toInt (fc18.1 31 (by decide)).1).trans (by show ((Int32.ofInt 0)).toInt = 0; rfl)
  have y18 : (S18.1 45).toInt = 0 := (congrArg Int32.toInt (fc18.1 45 (by decide)).1).trans (by show ((Int32.ofInt 0)).toInt = 0; rfl)
  have fr19 := aw_fr_tr fr17 (aw_fr_sub (F := [26, 27, 28, 29]) (A := []) (by decide) (by decide) fc18)
  have hI20 : aw_I s h (aw_sm S18) S18 := ⟨hT18, aw_sm_rf⟩
  show aw_W _ _ _ _ 39 lv1 [] _ _
  refine aw_e aj_d205 rfl rfl ?_
  exact ⟨rfl, (hI20).1, fr19, j18, z18, y18, aw_GA_0 fr19 (by decide) (by decide) hR j18 htk⟩
theorem ar_txt_L54_43 (hU : aw_U tb s h) (hd : 12 ≤ d + 1)  : ∀ (N : Nat) (S48 : aj_S) (lv49 : aj_V), (aj_lv lv49 0 = some (.ref 117)) → (aw_I s h (aw_G (fun _ => True, false, la, 0, 0, 0)) S48) → (aw_fr [24, 25, 26, 27, 28, 29, 30, 31, 33, 34, 35, 36, 38, 39, 40, 41, 43, 44, 45, 46, 47, 50, 51, 52, 53, 54, 56, 58] [1, 2, 3, 4, 5, 6, 7, 8, 9, 10, 11, 12, 14, 15, 16, 17, 18, 19, 20, 22, 23, 24, 25, 26, 27] S S48) → (1001 - (S48.1 30).toInt).toNat < N → aw_W tb h d aj_m204 54 lv49 [] S48 ((ar_QB s h [24, 25, 26, 27, 28, 29, 30, 31, 33, 34, 35, 36, 38, 39, 40, 41, 43, 44, 45, 46, 47, 50, 51, 52, 53, 54, 56, 58] [1, 2, 3, 4, 5, 6, 7, 8, 9, 10, 11, 12, 14, 15, 16, 17, 18, 19, 20, 22, 23, 24, 25, 26, 27] S aw_B (fun S' => aw_G (fun _ => True, false, la, 0, 0, 0) S' ∧ (S'.1 26).toInt = 0))) := by
  have hs : aw_sT s := aw_hy_sT hU.2.2
  intro N54
  induction N54 with
  | zero =>
    intro S48 lv49  hlv49_0 hI50 fr51 hm54
    omega
  | succ N54 ihL54_43 =>
    intro S48 lv49  hlv49_0 hI50 fr51 hm54
    have hI52 : aw_I s h (aw_sm S48) S48 := ⟨hI50.1, aw_sm_rf⟩
    have b53 : 0 ≤ (S48.1 30).toInt ∧ (S48.1 30).toInt ≤ 1001 := aw_bd_f hs (hI52).1 (by decide) rfl
    refine aw_l2 aj_d204 rfl rfl hlv49_0 ?_
    have b54 : 0 ≤ (S48.1 31).toInt ∧ (S48.1 31).toInt ≤ 1 := aw_bd_f hs (hI52).1 (by decide) rfl
    refine aw_g hU.1 aj_d204 rfl rfl (by decide) (v := .int (S48.1 31)) rfl ?_
    refine aw_z (tgt := 162) aj_d204 rfl rfl (fun q55 => ?_) (fun q55 => ?_)
    · have q55 : (S48.1 31).toInt ≠ (0 : Int) := aw_t_ne (a := (S48.1 31).toInt) (b := (0 : Int)) rfl rfl q55
      refine aw_l2 aj_d204 rfl rfl hlv49_0 ?_
      refine aw_g hU.1 aj_d204 rfl rfl (by decide) (v := .int (S48.1 31)) rfl ?_
      refine aw_z (tgt := 173) aj_d204 rfl rfl (fun q56 => ?_) (fun q56 => ?_)
      · have q56 : (S48.1 31).toInt ≠ (0 : Int) := aw_t_ne (a := (S48.1 31).toInt) (b := (0 : Int)) rfl rfl q56
        refine aw_n aj_d204 rfl rfl ?_
        refine aw_e aj_d204 rfl rfl ?_
        exact ⟨(hI52).1, fr51, Or.inl ⟨_, rfl, rfl, aw_G_B hI50.2⟩⟩
      · have q56 : (S48.1 31).toInt = (0 : Int) := aw_t_ne (a := (S48.1 31).toInt) (b := (0 : Int)) rfl rfl q56
        exfalso
        omega
    · have q55 : (S48.1 31).toInt = (0 : Int) := aw_t_ne (a := (S48.1 31).toInt) (b := (0 : Int)) rfl rfl q55
      refine aw_l2 aj_d204 rfl rfl hlv49_0 ?_
      have b57 : 0 ≤ (S48.1 26).toInt ∧ (S48.1 26).toInt ≤ 5 := aw_bd_f hs (hI52).1 (by decide) rfl
      refine aw_g hU.1 aj_d204 rfl rfl (by decide) (v := .int (S48.1 26)) rfl ?_
      refine aw_z (tgt := 162) aj_d204 rfl rfl (fun q58 => ?_) (fun q58 => ?_)
      · have q58 : (S48.1 26).toInt = (0 : Int) := aw_t_eq (a := (S48.1 26).toInt) (b := (0 : Int)) rfl rfl q58
        refine aw_l2 aj_d204 rfl rfl hlv49_0 ?_
        refine aw_g hU.1 aj_d204 rfl rfl (by decide) (v := .int (S48.1 31)) rfl ?_
        refine aw_z (tgt := 173) aj_d204 rfl rfl (fun q59 => ?_) (fun q59 => ?_)
        · have q59 : (S48.1 31).toInt ≠ (0 : Int) := aw_t_ne (a := (S48.1 31).toInt) (b := (0 : Int)) rfl rfl q59
          exfalso
          omega
        · have q59 : (S48.1 31).toInt = (0 : Int) := aw_t_ne (a := (S48.1 31).toInt) (b := (0 : Int)) rfl rfl q59
          refine aw_n aj_d204 rfl rfl ?_
          refine aw_n aj_d204 rfl rfl ?_
          refine aw_e aj_d204 rfl rfl ?_
          exact ⟨(hI52).1, fr51, Or.inr ⟨_, rfl, rfl, hI50.2, (show ((S48.1 26)).toInt = 0 by omega)⟩⟩
      · have q58 : (S48.1 26).toInt ≠ (0 : Int) := aw_t_eq (a := (S48.1 26).toInt) (b := (0 : Int)) rfl rfl q58
        refine aw_l2 aj_d204 rfl rfl hlv49_0 ?_
        refine aw_n aj_d204 rfl rfl ?_
        refine aw_k hU.1 aj_d204 rfl rfl [_] rfl rfl rfl (Nat.le_of_ble_eq_true rfl) (ar_isWord hU (by omega) (b := (0 : Int)) rfl) ?_
        rintro _ S61 ⟨eS61, b60, rfl, kb60⟩
        rw [eS61]
        rcases kb60 with ⟨hb60, pb60, qb60⟩ | ⟨hb60, pb60⟩
        · skip
          have pb60 : ((S48.1 26)).toInt = 4 := pb60
          have qb60 : ((S48.1 29)).toInt = (0 : Int) := qb60
          show aw_W _ _ _ _ 73 lv49 [.int b60] _ _
          refine aw_z (tgt := 83) aj_d204 rfl rfl (fun q62 => ?_) (fun q62 => ?_)
          · have q62 : (1 : Int) = (0 : Int) := aw_t_eq (a := (1 : Int)) (b := (0 : Int)) hb60 rfl q62
            exfalso
            omega
          · have q62 : (1 : Int) ≠ (0 : Int) := aw_t_eq (a := (1 : Int)) (b := (0 : Int)) hb60 rfl q62
            refine aw_l2 aj_d204 rfl rfl hlv49_0 ?_
            refine aw_k hU.1 aj_d204 rfl rfl [] rfl rfl rfl (Nat.le_of_ble_eq_true rfl) (ar_unknownTold hU (hI52).1 hI50.2 (by omega) ⟨by omega, by omega⟩) ?_
            rintro _ S63 ⟨hT63, fc63, ⟨b63, rfl, hb63, hB63⟩ | ⟨b63, rfl, hb63, hG63, ck63⟩⟩
            · skip
              have fr64 := aw_fr_tr fr51 (aw_fr_sub (F := [24, 25, 26, 27, 28, 29, 30, 31, 33, 34, 35, 36]) (A := [1, 2, 3, 4, 5, 6, 12, 19]) (by decide) (by decide) fc63)
              have hI65 : aw_I s h (aw_sm S63) S63 := ⟨hT63, aw_sm_rf⟩
              show aw_W _ _ _ _ 80 lv49 [.int b63] _ _
              refine aw_n aj_d204 rfl rfl ?_
              refine aw_t0 (j := 1) aj_d204 rfl (by decide) rfl ?_
              obtain ⟨lv66, elv66⟩ : ∃ l, l = aj_set1 lv49 1 (.int b63) := ⟨_, rfl⟩
              rw [← elv66]
              have hlv66_0 : aj_lv lv66 0 = some (.ref 117) := cw_e1 elv66 hlv49_0 (by decide) (Or.inr rfl)
              have hlv66_1 : aj_lv lv66 1 = some (.int b63) := by rw [elv66]; exact ak_set1_eq _ _ _
              show aw_W _ _ _ _ 153 lv66 [] _ _
              refine aw_l0 aj_d204 rfl rfl hlv66_1 ?_
              refine aw_z (tgt := 159) aj_d204 rfl rfl (fun q67 => ?_) (fun q67 => ?_)
              · have q67 : (0 : Int) ≠ (0 : Int) := aw_t_ne (a := (0 : Int)) (b := (0 : Int)) hb63 rfl q67
                exfalso
                omega
              · have q67 : (0 : Int) = (0 : Int) := aw_t_ne (a := (0 : Int)) (b := (0 : Int)) hb63 rfl q67
                refine aw_n aj_d204 rfl rfl ?_
                refine aw_e aj_d204 rfl rfl ?_
                exact ⟨(hI65).1, fr64, Or.inl ⟨_, rfl, rfl, hB63⟩⟩
            · skip
              have ck63 : ((S48.1 30)).toInt + 1 ≤ (S63.1 30).toInt := ck63
              have fr68 := aw_fr_tr fr51 (aw_fr_sub (F := [24, 25, 26, 27, 28, 29, 30, 31, 33, 34, 35, 36]) (A := [1, 2, 3, 4, 5, 6, 12, 19]) (by decide) (by decide) fc63)
              have hI69 : aw_I s h (aw_sm S63) S63 := ⟨hT63, aw_sm_rf⟩
              show aw_W _ _ _ _ 80 lv49 [.int b63] _ _
              refine aw_n aj_d204 rfl rfl ?_
              refine aw_t0 (j := 1) aj_d204 rfl (by decide) rfl ?_
              obtain ⟨lv70, elv70⟩ : ∃ l, l = aj_set1 lv49 1 (.int b63) := ⟨_, rfl⟩
              rw [← elv70]
              have hlv70_0 : aj_lv lv70 0 = some (.ref 117) := cw_e1 elv70 hlv49_0 (by decide) (Or.inr rfl)
              have hlv70_1 : aj_lv lv70 1 = some (.int b63) := by rw [elv70]; exact ak_set1_eq _ _ _
              show aw_W _ _ _ _ 153 lv70 [] _ _
              refine aw_l0 aj_d204 rfl rfl hlv70_1 ?_
              refine aw_z (tgt := 159) aj_d204 rfl rfl (fun q71 => ?_) (fun q71 => ?_)
              · have q71 : (1 : Int) ≠ (0 : Int) := aw_t_ne (a := (1 : Int)) (b := (0 : Int)) hb63 rfl q71
                refine aw_n aj_d204 rfl rfl ?_
                have b72 : 0 ≤ (S63.1 30).toInt ∧ (S63.1 30).toInt ≤ 1001 := aw_bd_f hs (hI69).1 (by decide) rfl
                exact ihL54_43 S63 lv70 hlv70_0 ⟨(hI69).1, hG63⟩ fr68 (show (1001 - ((S63.1 30)).toInt).toNat < _ by omega)
              · have q71 : (1 : Int) = (0 : Int) := aw_t_ne (a := (1 : Int)) (b := (0 : Int)) hb63 rfl q71
                exfalso
                omega
        · skip
          clear pb60
          show aw_W _ _ _ _ 73 lv49 [.int b60] _ _
          refine aw_z (tgt := 83) aj_d204 rfl rfl (fun q73 => ?_) (fun q73 => ?_)
          · have q73 : (0 : Int) = (0 : Int) := aw_t_eq (a := (0 : Int)) (b := (0 : Int)) hb60 rfl q73
            refine aw_l2 aj_d204 rfl rfl hlv49_0 ?_
            refine aw_n aj_d204 rfl rfl ?_
            refine aw_k hU.1 aj_d204 rfl rfl [_] rfl rfl rfl (Nat.le_of_ble_eq_true rfl) (ar_isWord hU (by omega) (b := (1 : Int)) rfl) ?_
            rintro _ S75 ⟨eS75, b74, rfl, kb74⟩
            rw [eS75]
            rcases kb74 with ⟨hb74, pb74, qb74⟩ | ⟨hb74, pb74⟩
            · skip
              have pb74 : ((S48.1 26)).toInt = 4 := pb74
              have qb74 : ((S48.1 29)).toInt = (1 : Int) := qb74
              show aw_W _ _ _ _ 88 lv49 [.int b74] _ _
              refine aw_z (tgt := 98) aj_d204 rfl rfl (fun q76 => ?_) (fun q76 => ?_)
              · have q76 : (1 : Int) = (0 : Int) := aw_t_eq (a := (1 : Int)) (b := (0 : Int)) hb74 rfl q76
                exfalso
                omega
              · have q76 : (1 : Int) ≠ (0 : Int) := aw_t_eq (a := (1 : Int)) (b := (0 : Int)) hb74 rfl q76
                refine aw_l2 aj_d204 rfl rfl hlv49_0 ?_
                refine aw_k hU.1 aj_d204 rfl rfl [] rfl rfl rfl (Nat.le_of_ble_eq_true rfl) (ar_tableTold hU (hI52).1 hI50.2 (by omega) ⟨by omega, Or.inl (by omega)⟩) ?_
                rintro _ S77 ⟨hT77, fc77, ⟨b77, rfl, hb77, hB77⟩ | ⟨b77, rfl, hb77, hG77, ck77⟩⟩
                · skip
                  have fr78 := aw_fr_tr fr51 (aw_fr_sub (F := [24, 25, 26, 27, 28, 29, 30, 31, 33, 34]) (A := [7, 8, 9, 14, 15, 16]) (by decide) (by decide) fc77)
                  have hI79 : aw_I s h (aw_sm S77) S77 := ⟨hT77, aw_sm_rf⟩
                  show aw_W _ _ _ _ 95 lv49 [.int b77] _ _
                  refine aw_n aj_d204 rfl rfl ?_
                  refine aw_t0 (j := 1) aj_d204 rfl (by decide) rfl ?_
                  obtain ⟨lv80, elv80⟩ : ∃ l, l = aj_set1 lv49 1 (.int b77) := ⟨_, rfl⟩
                  rw [← elv80]
                  have hlv80_0 : aj_lv lv80 0 = some (.ref 117) := cw_e1 elv80 hlv49_0 (by decide) (Or.inr rfl)
                  have hlv80_1 : aj_lv lv80 1 = some (.int b77) := by rw [elv80]; exact ak_set1_eq _ _ _
                  show aw_W _ _ _ _ 153 lv80 [] _ _
                  refine aw_l0 aj_d204 rfl rfl hlv80_1 ?_
                  refine aw_z (tgt := 159) aj_d204 rfl rfl (fun q81 => ?_) (fun q81 => ?_)
                  · have q81 : (0 : Int) ≠ (0 : Int) := aw_t_ne (a := (0 : Int)) (b := (0 : Int)) hb77 rfl q81
                    exfalso
                    omega
                  · have q81 : (0 : Int) = (0 : Int) := aw_t_ne (a := (0 : Int)) (b := (0 : Int)) hb77 rfl q81
                    refine aw_n aj_d204 rfl rfl ?_
                    refine aw_e aj_d204 rfl rfl ?_
                    exact ⟨(hI79).1, fr78, Or.inl ⟨_, rfl, rfl, hB77⟩⟩
                · skip
                  have ck77 : ((S48.1 30)).toInt + 1 ≤ (S77.1 30).toInt := ck77
                  have fr82 := aw_fr_tr fr51 (aw_fr_sub (F := [24, 25, 26, 27, 28, 29, 30, 31, 33, 34]) (A := [7, 8, 9, 14, 15, 16]) (by decide) (by decide) fc77)
                  have hI83 : aw_I s h (aw_sm S77) S77 := ⟨hT77, aw_sm_rf⟩
                  show aw_W _ _ _ _ 95 lv49 [.int b77] _ _
                  refine aw_n aj_d204 rfl rfl ?_
                  refine aw_t0 (j := 1) aj_d204 rfl (by decide) rfl ?_
                  obtain ⟨lv84, elv84⟩ : ∃ l, l = aj_set1 lv49 1 (.int b77) := ⟨_, rfl⟩
                  rw [← elv84]
                  have hlv84_0 : aj_lv lv84 0 = some (.ref 117) := cw_e1 elv84 hlv49_0 (by decide) (Or.inr rfl)
                  have hlv84_1 : aj_lv lv84 1 = some (.int b77) := by rw [elv84]; exact ak_set1_eq _ _ _
                  show aw_W _ _ _ _ 153 lv84 [] _ _
                  refine aw_l0 aj_d204 rfl rfl hlv84_1 ?_
                  refine aw_z (tgt := 159) aj_d204 rfl rfl (fun q85 => ?_) (fun q85 => ?_)
                  · have q85 : (1 : Int) ≠ (0 : Int) := aw_t_ne (a := (1 : Int)) (b := (0 : Int)) hb77 rfl q85
                    refine aw_n aj_d204 rfl rfl ?_
                    have b86 : 0 ≤ (S77.1 30).toInt ∧ (S77.1 30).toInt ≤ 1001 := aw_bd_f hs (hI83).1 (by decide) rfl
                    exact ihL54_43 S77 lv84 hlv84_0 ⟨(hI83).1, hG77⟩ fr82 (show (1001 - ((S77.1 30)).toInt).toNat < _ by omega)
                  · have q85 : (1 : Int) = (0 : Int) := aw_t_ne (a := (1 : Int)) (b := (0 : Int)) hb77 rfl q85
                    exfalso
                    omega
            · skip
              clear pb74
              show aw_W _ _ _ _ 88 lv49 [.int b74] _ _
              refine aw_z (tgt := 98) aj_d204 rfl rfl (fun q87 => ?_) (fun q87 => ?_)
              · have q87 : (0 : Int) = (0 : Int) := aw_t_eq (a := (0 : Int)) (b := (0 : Int)) hb74 rfl q87
                refine aw_l2 aj_d204 rfl rfl hlv49_0 ?_
                refine aw_n aj_d204 rfl rfl ?_
                refine aw_k hU.1 aj_d204 rfl rfl [_] rfl rfl rfl (Nat.le_of_ble_eq_true rfl) (ar_isWord hU (by omega) (b := (2 : Int)) rfl) ?_
                rintro _ S89 ⟨eS89, b88, rfl, kb88⟩
                rw [eS89]
                rcases kb88 with ⟨hb88, pb88, qb88⟩ | ⟨hb88, pb88⟩
                · skip
                  have pb88 : ((S48.1 26)).toInt = 4 := pb88
                  have qb88 : ((S48.1 29)).toInt = (2 : Int) := qb88
                  show aw_W _ _ _ _ 103 lv49 [.int b88] _ _
                  refine aw_z (tgt := 113) aj_d204 rfl rfl (fun q90 => ?_) (fun q90 => ?_)
                  · have q90 : (1 : Int) = (0 : Int) := aw_t_eq (a := (1 : Int)) (b := (0 : Int)) hb88 rfl q90
                    exfalso
                    omega
                  · have q90 : (1 : Int) ≠ (0 : Int) := aw_t_eq (a := (1 : Int)) (b := (0 : Int)) hb88 rfl q90
                    refine aw_l2 aj_d204 rfl rfl hlv49_0 ?_
                    refine aw_k hU.1 aj_d204 rfl rfl [] rfl rfl rfl (Nat.le_of_ble_eq_true rfl) (ar_rowTold hU (hI52).1 hI50.2 (by omega) ⟨by omega, by omega⟩) ?_
                    rintro _ S91 ⟨hT91, fc91, ⟨b91, rfl, hb91, hB91⟩ | ⟨b91, rfl, hb91, hG91, ck91⟩⟩
                    · skip
                      have fr92 := aw_fr_tr fr51 (aw_fr_sub (F := [24, 25, 26, 27, 28, 29, 30, 31, 33, 34, 35, 36, 38, 39, 40, 41, 43, 44]) (A := [14, 17, 18, 19, 20, 22]) (by decide) (by decide) fc91)
                      have hI93 : aw_I s h (aw_sm S91) S91 := ⟨hT91, aw_sm_rf⟩
                      show aw_W _ _ _ _ 110 lv49 [.int b91] _ _
                      refine aw_n aj_d204 rfl rfl ?_
                      refine aw_t0 (j := 1) aj_d204 rfl (by decide) rfl ?_
                      obtain ⟨lv94, elv94⟩ : ∃ l, l = aj_set1 lv49 1 (.int b91) := ⟨_, rfl⟩
                      rw [← elv94]
                      have hlv94_0 : aj_lv lv94 0 = some (.ref 117) := cw_e1 elv94 hlv49_0 (by decide) (Or.inr rfl)
                      have hlv94_1 : aj_lv lv94 1 = some (.int b91) := by rw [elv94]; exact ak_set1_eq _ _ _
                      show aw_W _ _ _ _ 153 lv94 [] _ _
                      refine aw_l0 aj_d204 rfl rfl hlv94_1 ?_
                      refine aw_z (tgt := 159) aj_d204 rfl rfl (fun q95 => ?_) (fun q95 => ?_)
                      · have q95 : (0 : Int) ≠ (0 : Int) := aw_t_ne (a := (0 : Int)) (b := (0 : Int)) hb91 rfl q95
                        exfalso
                        omega
                      · have q95 : (0 : Int) = (0 : Int) := aw_t_ne (a := (0 : Int)) (b := (0 : Int)) hb91 rfl q95
                        refine aw_n aj_d204 rfl rfl ?_
                        refine aw_e aj_d204 rfl rfl ?_
                        exact ⟨(hI93).1, fr92, Or.inl ⟨_, rfl, rfl, hB91⟩⟩
                    · skip
                      have ck91 : ((S48.1 30)).toInt + 1 ≤ (S91.1 30).toInt := ck91
                      have fr96 := aw_fr_tr fr51 (aw_fr_sub (F := [24, 25, 26, 27, 28, 29, 30, 31, 33, 34, 35, 36, 38, 39, 40, 41, 43, 44]) (A := [14, 17, 18, 19, 20, 22]) (by decide) (by decide) fc91)
                      have hI97 : aw_I s h (aw_sm S91) S91 := ⟨hT91, aw_sm_rf⟩
                      show aw_W _ _ _ _ 110 lv49 [.int b91] _ _
                      refine aw_n aj_d204 rfl rfl ?_
                      refine aw_t0 (j := 1) aj_d204 rfl (by decide) rfl ?_
                      obtain ⟨lv98, elv98⟩ : ∃ l, l = aj_set1 lv49 1 (.int b91) := ⟨_, rfl⟩
                      rw [← elv98]
                      have hlv98_0 : aj_lv lv98 0 = some (.ref 117) := cw_e1 elv98 hlv49_0 (by decide) (Or.inr rfl)
                      have hlv98_1 : aj_lv lv98 1 = some (.int b91) := by rw [elv98]; exact ak_set1_eq _ _ _
                      show aw_W _ _ _ _ 153 lv98 [] _ _
                      refine aw_l0 aj_d204 rfl rfl hlv98_1 ?_
                      refine aw_z (tgt := 159) aj_d204 rfl rfl (fun q99 => ?_) (fun q99 => ?_)
                      · have q99 : (1 : Int) ≠ (0 : Int) := aw_t_ne (a := (1 : Int)) (b := (0 : Int)) hb91 rfl q99
                        refine aw_n aj_d204 rfl rfl ?_
                        have b100 : 0 ≤ (S91.1 30).toInt ∧ (S91.1 30).toInt ≤ 1001 := aw_bd_f hs (hI97).1 (by decide) rfl
                        exact ihL54_43 S91 lv98 hlv98_0 ⟨(hI97).1, hG91⟩ fr96 (show (1001 - ((S91.1 30)).toInt).toNat < _ by omega)
                      · have q99 : (1 : Int) = (0 : Int) := aw_t_ne (a := (1 : Int)) (b := (0 : Int)) hb91 rfl q99
                        exfalso
                        omega
                · skip
                  clear pb88
                  show aw_W _ _ _ _ 103 lv49 [.int b88] _ _
                  refine aw_z (tgt := 113) aj_d204 rfl rfl (fun q101 => ?_) (fun q101 => ?_)
                  · have q101 : (0 : Int) = (0 : Int) := aw_t_eq (a := (0 : Int)) (b := (0 : Int)) hb88 rfl q101
                    refine aw_l2 aj_d204 rfl rfl hlv49_0 ?_
                    refine aw_n aj_d204 rfl rfl ?_
                    refine aw_k hU.1 aj_d204 rfl rfl [_] rfl rfl rfl (Nat.le_of_ble_eq_true rfl) (ar_isWord hU (by omega) (b := (4 : Int)) rfl) ?_
                    rintro _ S103 ⟨eS103, b102, rfl, kb102⟩
                    rw [eS103]
                    rcases kb102 with ⟨hb102, pb102, qb102⟩ | ⟨hb102, pb102⟩
                    · skip
                      have pb102 : ((S48.1 26)).toInt = 4 := pb102
                      have qb102 : ((S48.1 29)).toInt = (4 : Int) := qb102
                      show aw_W _ _ _ _ 118 lv49 [.int b102] _ _
                      refine aw_z (tgt := 128) aj_d204 rfl rfl (fun q104 => ?_) (fun q104 => ?_)
                      · have q104 : (1 : Int) = (0 : Int) := aw_t_eq (a := (1 : Int)) (b := (0 : Int)) hb102 rfl q104
                        exfalso
                        omega
                      · have q104 : (1 : Int) ≠ (0 : Int) := aw_t_eq (a := (1 : Int)) (b := (0 : Int)) hb102 rfl q104
                        refine aw_l2 aj_d204 rfl rfl hlv49_0 ?_
                        refine aw_k hU.1 aj_d204 rfl rfl [] rfl rfl rfl (Nat.le_of_ble_eq_true rfl) (ar_alwaysTold hU (hI52).1 hI50.2 (by omega) ⟨by omega, by omega⟩) ?_
                        rintro _ S105 ⟨hT105, fc105, ⟨b105, rfl, hb105, hB105⟩ | ⟨b105, rfl, hb105, hG105, ck105⟩⟩
                        · skip
                          have fr106 := aw_fr_tr fr51 (aw_fr_sub (F := [24, 25, 26, 27, 28, 29, 30, 31, 33, 34, 35, 36, 38, 39, 40, 41, 43, 44, 45]) (A := [10, 12, 20, 22]) (by decide) (by decide) fc105)
                          have hI107 : aw_I s h (aw_sm S105) S105 := ⟨hT105, aw_sm_rf⟩
                          show aw_W _ _ _ _ 125 lv49 [.int b105] _ _
                          refine aw_n aj_d204 rfl rfl ?_
                          refine aw_t0 (j := 1) aj_d204 rfl (by decide) rfl ?_
                          obtain ⟨lv108, elv108⟩ : ∃ l, l = aj_set1 lv49 1 (.int b105) := ⟨_, rfl⟩
                          rw [← elv108]
                          have hlv108_0 : aj_lv lv108 0 = some (.ref 117) := cw_e1 elv108 hlv49_0 (by decide) (Or.inr rfl)
                          have hlv108_1 : aj_lv lv108 1 = some (.int b105) := by rw [elv108]; exact ak_set1_eq _ _ _
                          show aw_W _ _ _ _ 153 lv108 [] _ _
                          refine aw_l0 aj_d204 rfl rfl hlv108_1 ?_
                          refine aw_z (tgt := 159) aj_d204 rfl rfl (fun q109 => ?_) (fun q109 => ?_)
                          · have q109 : (0 : Int) ≠ (0 : Int) := aw_t_ne (a := (0 : Int)) (b := (0 : Int)) hb105 rfl q109
                            exfalso
                            omega
                          · have q109 : (0 : Int) = (0 : Int) := aw_t_ne (a := (0 : Int)) (b := (0 : Int)) hb105 rfl q109
                            refine aw_n aj_d204 rfl rfl ?_
                            refine aw_e aj_d204 rfl rfl ?_
                            exact ⟨(hI107).1, fr106, Or.inl ⟨_, rfl, rfl, hB105⟩⟩
                        · skip
                          have ck105 : ((S48.1 30)).toInt + 1 ≤ (S105.1 30).toInt := ck105
                          have fr110 := aw_fr_tr fr51 (aw_fr_sub (F := [24, 25, 26, 27, 28, 29, 30, 31, 33, 34, 35, 36, 38, 39, 40, 41, 43, 44, 45]) (A := [10, 12, 20, 22]) (by decide) (by decide) fc105)
                          have hI111 : aw_I s h (aw_sm S105) S105 := ⟨hT105, aw_sm_rf⟩
                          show aw_W _ _ _ _ 125 lv49 [.int b105] _ _
                          refine aw_n aj_d204 rfl rfl ?_
                          refine aw_t0 (j := 1) aj_d204 rfl (by decide) rfl ?_
                          obtain ⟨lv112, elv112⟩ : ∃ l, l = aj_set1 lv49 1 (.int b105) := ⟨_, rfl⟩
                          rw [← elv112]
                          have hlv112_0 : aj_lv lv112 0 = some (.ref 117) := cw_e1 elv112 hlv49_0 (by decide) (Or.inr rfl)
                          have hlv112_1 : aj_lv lv112 1 = some (.int b105) := by rw [elv112]; exact ak_set1_eq _ _ _
                          show aw_W _ _ _ _ 153 lv112 [] _ _
                          refine aw_l0 aj_d204 rfl rfl hlv112_1 ?_
                          refine aw_z (tgt := 159) aj_d204 rfl rfl (fun q113 => ?_) (fun q113 => ?_)
                          · have q113 : (1 : Int) ≠ (0 : Int) := aw_t_ne (a := (1 : Int)) (b := (0 : Int)) hb105 rfl q113
                            refine aw_n aj_d204 rfl rfl ?_
                            have b114 : 0 ≤ (S105.1 30).toInt ∧ (S105.1 30).toInt ≤ 1001 := aw_bd_f hs (hI111).1 (by decide) rfl
                            exact ihL54_43 S105 lv112 hlv112_0 ⟨(hI111).1, hG105⟩ fr110 (show (1001 - ((S105.1 30)).toInt).toNat < _ by omega)
                          · have q113 : (1 : Int) = (0 : Int) := aw_t_ne (a := (1 : Int)) (b := (0 : Int)) hb105 rfl q113
                            exfalso
                            omega
                    · skip
                      clear pb102
                      show aw_W _ _ _ _ 118 lv49 [.int b102] _ _
                      refine aw_z (tgt := 128) aj_d204 rfl rfl (fun q115 => ?_) (fun q115 => ?_)
                      · have q115 : (0 : Int) = (0 : Int) := aw_t_eq (a := (0 : Int)) (b := (0 : Int)) hb102 rfl q115
                        refine aw_l2 aj_d204 rfl rfl hlv49_0 ?_
                        refine aw_n aj_d204 rfl rfl ?_
                        refine aw_k hU.1 aj_d204 rfl rfl [_] rfl rfl rfl (Nat.le_of_ble_eq_true rfl) (ar_isWord hU (by omega) (b := (5 : Int)) rfl) ?_
                        rintro _ S117 ⟨eS117, b116, rfl, kb116⟩
                        rw [eS117]
                        rcases kb116 with ⟨hb116, pb116, qb116⟩ | ⟨hb116, pb116⟩
                        · skip
                          have pb116 : ((S48.1 26)).toInt = 4 := pb116
                          have qb116 : ((S48.1 29)).toInt = (5 : Int) := qb116
                          show aw_W _ _ _ _ 133 lv49 [.int b116] _ _
                          refine aw_z (tgt := 143) aj_d204 rfl rfl (fun q118 => ?_) (fun q118 => ?_)
                          · have q118 : (1 : Int) = (0 : Int) := aw_t_eq (a := (1 : Int)) (b := (0 : Int)) hb116 rfl q118
                            exfalso
                            omega
                          · have q118 : (1 : Int) ≠ (0 : Int) := aw_t_eq (a := (1 : Int)) (b := (0 : Int)) hb116 rfl q118
                            refine aw_l2 aj_d204 rfl rfl hlv49_0 ?_
                            refine aw_k hU.1 aj_d204 rfl rfl [] rfl rfl rfl (Nat.le_of_ble_eq_true rfl) (ar_answerTold hU (hI52).1 hI50.2 (by omega) ⟨by omega, Or.inr (by omega)⟩) ?_
                            rintro _ S119 ⟨hT119, fc119, ⟨b119, rfl, hb119, hB119⟩ | ⟨b119, rfl, hb119, hG119, ck119⟩⟩
                            · skip
                              have fr120 := aw_fr_tr fr51 (aw_fr_sub (F := [24, 25, 26, 27, 28, 29, 30, 31, 33, 34, 35, 36, 38, 39, 40, 46, 47, 50, 51, 52, 53, 54, 56, 58]) (A := [7, 8, 9, 14, 15, 16, 17, 18, 19, 23, 24, 25, 26, 27]) (by decide) (by decide) fc119)
                              have hI121 : aw_I s h (aw_sm S119) S119 := ⟨hT119, aw_sm_rf⟩
                              show aw_W _ _ _ _ 140 lv49 [.int b119] _ _
                              refine aw_n aj_d204 rfl rfl ?_
                              refine aw_t0 (j := 1) aj_d204 rfl (by decide) rfl ?_
                              obtain ⟨lv122, elv122⟩ : ∃ l, l = aj_set1 lv49 1 (.int b119) := ⟨_, rfl⟩
                              rw [← elv122]
                              have hlv122_0 : aj_lv lv122 0 = some (.ref 117) := cw_e1 elv122 hlv49_0 (by decide) (Or.inr rfl)
                              have hlv122_1 : aj_lv lv122 1 = some (.int b119) := by rw [elv122]; exact ak_set1_eq _ _ _
                              show aw_W _ _ _ _ 153 lv122 [] _ _
                              refine aw_l0 aj_d204 rfl rfl hlv122_1 ?_
                              refine aw_z (tgt := 159) aj_d204 rfl rfl (fun q123 => ?_) (fun q123 => ?_)
                              · have q123 : (0 : Int) ≠ (0 : Int) := aw_t_ne (a := (0 : Int)) (b := (0 : Int)) hb119 rfl q123
                                exfalso
                                omega
                              · have q123 : (0 : Int) = (0 : Int) := aw_t_ne (a := (0 : Int)) (b := (0 : Int)) hb119 rfl q123
                                refine aw_n aj_d204 rfl rfl ?_
                                refine aw_e aj_d204 rfl rfl ?_
                                exact ⟨(hI121).1, fr120, Or.inl ⟨_, rfl, rfl, hB119⟩⟩
                            · skip
                              have ck119 : ((S48.1 30)).toInt + 1 ≤ (S119.1 30).toInt := ck119
                              have fr124 := aw_fr_tr fr51 (aw_fr_sub (F := [24, 25, 26, 27, 28, 29, 30, 31, 33, 34, 35, 36, 38, 39, 40, 46, 47, 50, 51, 52, 53, 54, 56, 58]) (A := [7, 8, 9, 14, 15, 16, 17, 18, 19, 23, 24, 25, 26, 27]) (by decide) (by decide) fc119)
                              have hI125 : aw_I s h (aw_sm S119) S119 := ⟨hT119, aw_sm_rf⟩
                              show aw_W _ _ _ _ 140 lv49 [.int b119] _ _
                              refine aw_n aj_d204 rfl rfl ?_
                              refine aw_t0 (j := 1) aj_d204 rfl (by decide) rfl ?_
                              obtain ⟨lv126, elv126⟩ : ∃ l, l = aj_set1 lv49 1 (.int b119) := ⟨_, rfl⟩
                              rw [← elv126]
                              have hlv126_0 : aj_lv lv126 0 = some (.ref 117) := cw_e1 elv126 hlv49_0 (by decide) (Or.inr rfl)
                              have hlv126_1 : aj_lv lv126 1 = some (.int b119) := by rw [elv126]; exact ak_set1_eq _ _ _
                              show aw_W _ _ _ _ 153 lv126 [] _ _
                              refine aw_l0 aj_d204 rfl rfl hlv126_1 ?_
                              refine aw_z (tgt := 159) aj_d204 rfl rfl (fun q127 => ?_) (fun q127 => ?_)
                              · have q127 : (1 : Int) ≠ (0 : Int) := aw_t_ne (a := (1 : Int)) (b := (0 : Int)) hb119 rfl q127
                                refine aw_n aj_d204 rfl rfl ?_
                                have b128 : 0 ≤ (S119.1 30).toInt ∧ (S119.1 30).toInt ≤ 1001 := aw_bd_f hs (hI125).1 (by decide) rfl
                                exact ihL54_43 S119 lv126 hlv126_0 ⟨(hI125).1, hG119⟩ fr124 (show (1001 - ((S119.1 30)).toInt).toNat < _ by omega)
                              · have q127 : (1 : Int) = (0 : Int) := aw_t_ne (a := (1 : Int)) (b := (0 : Int)) hb119 rfl q127
                                exfalso
                                omega
                        · skip
                          clear pb116
                          show aw_W _ _ _ _ 133 lv49 [.int b116] _ _
                          refine aw_z (tgt := 143) aj_d204 rfl rfl (fun q129 => ?_) (fun q129 => ?_)
                          · have q129 : (0 : Int) = (0 : Int) := aw_t_eq (a := (0 : Int)) (b := (0 : Int)) hb116 rfl q129
                            refine aw_l2 aj_d204 rfl rfl hlv49_0 ?_
                            refine aw_n aj_d204 rfl rfl ?_
                            refine aw_l2 aj_d204 rfl rfl hlv49_0 ?_
                            have b130 : 0 ≤ (S48.1 27).toInt ∧ (S48.1 27).toInt ≤ 4000 := aw_bd_f hs (hI52).1 (by decide) rfl
                            refine aw_g hU.1 aj_d204 rfl rfl (by decide) (v := .int (S48.1 27)) rfl ?_
                            refine aw_k hU.1 aj_d204 rfl rfl [_, _] rfl rfl rfl (Nat.le_of_ble_eq_true rfl) (ar_stop hU (hI52).1 (by omega) (a := (1 : Int)) rfl) ?_
                            rintro _ S131 ⟨hT131, fc131, rfl, hz131⟩
                            have hG131 := aw_G_stop hI50.2 fc131 (by omega)
                            have fr132 := aw_fr_tr fr51 (aw_fr_sub (F := [24, 25, 31]) (A := []) (by decide) (by decide) fc131)
                            have hI133 : aw_I s h (aw_sm S131) S131 := ⟨hT131, aw_sm_rf⟩
                            show aw_W _ _ _ _ 152 lv49 [.int (Int32.ofInt 0)] _ _
                            refine aw_t0 (j := 1) aj_d204 rfl (by decide) rfl ?_
                            obtain ⟨lv134, elv134⟩ : ∃ l, l = aj_set1 lv49 1 (.int (Int32.ofInt 0)) := ⟨_, rfl⟩
                            rw [← elv134]
                            have hlv134_0 : aj_lv lv134 0 = some (.ref 117) := cw_e1 elv134 hlv49_0 (by decide) (Or.inr rfl)
                            have hlv134_1 : aj_lv lv134 1 = some (.int (Int32.ofInt 0)) := by rw [elv134]; exact ak_set1_eq _ _ _
                            show aw_W _ _ _ _ 153 lv134 [] _ _
                            refine aw_l0 aj_d204 rfl rfl hlv134_1 ?_
                            refine aw_z (tgt := 159) aj_d204 rfl rfl (fun q135 => ?_) (fun q135 => ?_)
                            · have q135 : (0 : Int) ≠ (0 : Int) := aw_t_ne (a := (0 : Int)) (b := (0 : Int)) rfl rfl q135
                              exfalso
                              omega
                            · have q135 : (0 : Int) = (0 : Int) := aw_t_ne (a := (0 : Int)) (b := (0 : Int)) rfl rfl q135
                              refine aw_n aj_d204 rfl rfl ?_
                              refine aw_e aj_d204 rfl rfl ?_
                              exact ⟨(hI133).1, fr132, Or.inl ⟨_, rfl, rfl, aw_G_B hG131⟩⟩
                          · have q129 : (0 : Int) ≠ (0 : Int) := aw_t_eq (a := (0 : Int)) (b := (0 : Int)) hb116 rfl q129
                            exfalso
                            omega
                      · have q115 : (0 : Int) ≠ (0 : Int) := aw_t_eq (a := (0 : Int)) (b := (0 : Int)) hb102 rfl q115
                        exfalso
                        omega
                  · have q101 : (0 : Int) ≠ (0 : Int) := aw_t_eq (a := (0 : Int)) (b := (0 : Int)) hb88 rfl q101
                    exfalso
                    omega
              · have q87 : (0 : Int) ≠ (0 : Int) := aw_t_eq (a := (0 : Int)) (b := (0 : Int)) hb74 rfl q87
                exfalso
                omega
          · have q73 : (0 : Int) ≠ (0 : Int) := aw_t_eq (a := (0 : Int)) (b := (0 : Int)) hb60 rfl q73
            exfalso
            omega
theorem ar_text (hU : aw_U tb s h) (hT : ak_Ty ak_TN s (aj_mh h S)) (htx : aw_tx la S) (hd : 12 ≤ d) : aw_K tb h d 204 [.ref 117] S (ar_QB s h [24, 25, 26, 27, 28, 29, 30, 31, 33, 34, 35, 36, 38, 39, 40, 41, 43, 44, 45, 46, 47, 50, 51, 52, 53, 54, 56, 58] [1, 2, 3, 4, 5, 6, 7, 8, 9, 10, 11, 12, 14, 15, 16, 17, 18, 19, 20, 22, 23, 24, 25, 26, 27] S aw_B (fun S' => aw_G (fun _ => True, false, la, 0, 0, 0) S' ∧ (S'.1 26).toInt = 0)) := by
  obtain ⟨d, rfl⟩ : ∃ e, d = e + 1 := ⟨d - 1, by omega⟩
  have b0 : aw_hh S ≤ 1 := by
    have b := aw_bd_f (aw_hy_sT hU.2.2) hT (k := 0) (lo := 0) (hi := 1) (by decide) rfl
    unfold aw_hh
    omega
  have hs : aw_sT s := aw_hy_sT hU.2.2
  refine aw_m aj_m204_at rfl (Nat.le_of_ble_eq_true rfl) ?_
  show aw_W _ _ _ _ 0 [(0, .ref 117)] [] _ _
  obtain ⟨lv21, elv21⟩ : ∃ l : aj_V, l = [(0, .ref 117)] := ⟨_, rfl⟩
  rw [← elv21]
  have hlv21_0 : aj_lv lv21 0 = some (.ref 117) := by rw [elv21]; rfl
  have hI22 : aw_I s h (aw_sm S) S := ⟨hT, aw_sm_rf⟩
  have fr23 : aw_fr [24, 25, 26, 27, 28, 29, 30, 31, 33, 34, 35, 36, 38, 39, 40, 41, 43, 44, 45, 46, 47, 50, 51, 52, 53, 54, 56, 58] [1, 2, 3, 4, 5, 6, 7, 8, 9, 10, 11, 12, 14, 15, 16, 17, 18, 19, 20, 22, 23, 24, 25, 26, 27] S S := aw_fr_rf
  refine aw_l2 aj_d204 rfl rfl hlv21_0 ?_
  refine aw_g hU.1 aj_d204 rfl rfl (by decide) (v := .ref 118) rfl ?_
  refine aw_l2 aj_d204 rfl rfl hlv21_0 ?_
  have b24 : 0 ≤ (S.1 37).toInt ∧ (S.1 37).toInt ≤ 1 := aw_bd_f hs (hI22).1 (by decide) rfl
  refine aw_g hU.1 aj_d204 rfl rfl (by decide) (v := .int (S.1 37)) rfl ?_
  refine aw_n aj_d204 rfl rfl ?_
  refine aw_st (k := 1) hU.1 aj_d204 (Or.inl ⟨rfl, rfl⟩) rfl (by decide) (by decide) rfl (a := (S.1 37).toInt) rfl (by omega) (by omega) ?_
  have hI25 : aw_I s h (aw_sm (aw_wa S 1 ((S.1 37).toInt).toNat (aj_nar 0 (Int32.ofInt 0)))) (aw_wa S 1 ((S.1 37).toInt).toNat (aj_nar 0 (Int32.ofInt 0))) := ⟨aw_T_a hU.2.1 hs hU.1.1 (hI22).1 (by decide) (by decide) rfl (by decide) (by decide) rfl (aw_bp (a := (0 : Int)) rfl (by omega) (by omega)), aw_sm_rf⟩
  have fr26 := aw_fr_a (k := 1) (j := ((S.1 37).toInt).toNat) (v := aj_nar 0 (Int32.ofInt 0)) (by decide) fr23
  have fl27 := aw_fr_a (k := 1) (j := ((S.1 37).toInt).toNat) (v := aj_nar 0 (Int32.ofInt 0)) (by decide) (aw_fr_rf : aw_fr [26, 27, 28, 29, 30, 31, 41, 45, 46, 47] [1, 5, 7, 10, 11] S S)
  refine aw_l2 aj_d204 rfl rfl hlv21_0 ?_
  refine aw_g hU.1 aj_d204 rfl rfl (by decide) (v := .ref 124) rfl ?_
  refine aw_l2 aj_d204 rfl rfl hlv21_0 ?_
  refine aw_g hU.1 aj_d204 rfl rfl (by decide) (v := .int (S.1 37)) rfl ?_
  refine aw_n aj_d204 rfl rfl ?_
  refine aw_st (k := 7) hU.1 aj_d204 (Or.inl ⟨rfl, rfl⟩) rfl (by decide) (by decide) rfl (a := (S.1 37).toInt) rfl (by omega) (by omega) ?_
  have hI28 : aw_I s h (aw_sm (aw_wa (aw_wa S 1 ((S.1 37).toInt).toNat (aj_nar 0 (Int32.ofInt 0))) 7 ((S.1 37).toInt).toNat (aj_nar 0 (Int32.ofInt 0)))) (aw_wa (aw_wa S 1 ((S.1 37).toInt).toNat (aj_nar 0 (Int32.ofInt 0))) 7 ((S.1 37).toInt).toNat (aj_nar 0 (Int32.ofInt 0))) := ⟨aw_T_a hU.2.1 hs hU.1.1 (hI25).1 (by decide) (by decide) rfl (by decide) (by decide) rfl (aw_bp (a := (0 : Int)) rfl (by omega) (by omega)), aw_sm_rf⟩
  have fr29 := aw_fr_a (k := 7) (j := ((S.1 37).toInt).toNat) (v := aj_nar 0 (Int32.ofInt 0)) (by decide) fr26
  have fl30 := aw_fr_a (k := 7) (j := ((S.1 37).toInt).toNat) (v := aj_nar 0 (Int32.ofInt 0)) (by decide) fl27
  refine aw_l2 aj_d204 rfl rfl hlv21_0 ?_
  refine aw_g hU.1 aj_d204 rfl rfl (by decide) (v := .ref 127) rfl ?_
  refine aw_l2 aj_d204 rfl rfl hlv21_0 ?_
  refine aw_g hU.1 aj_d204 rfl rfl (by decide) (v := .int (S.1 37)) rfl ?_
  refine aw_n aj_d204 rfl rfl ?_
  refine aw_st (k := 10) hU.1 aj_d204 (Or.inl ⟨rfl, rfl⟩) rfl (by decide) (by decide) rfl (a := (S.1 37).toInt) rfl (by omega) (by omega) ?_
  have hI31 : aw_I s h (aw_sm (aw_wa (aw_wa (aw_wa S 1 ((S.1 37).toInt).toNat (aj_nar 0 (Int32.ofInt 0))) 7 ((S.1 37).toInt).toNat (aj_nar 0 (Int32.ofInt 0))) 10 ((S.1 37).toInt).toNat (aj_nar 0 (Int32.ofInt 0)))) (aw_wa (aw_wa (aw_wa S 1 ((S.1 37).toInt).toNat (aj_nar 0 (Int32.ofInt 0))) 7 ((S.1 37).toInt).toNat (aj_nar 0 (Int32.ofInt 0))) 10 ((S.1 37).toInt).toNat (aj_nar 0 (Int32.ofInt 0))) := ⟨aw_T_a hU.2.1 hs hU.1.1 (hI28).1 (by decide) (by decide) rfl (by decide) (by decide) rfl (aw_bp (a := (0 : Int)) rfl (by omega) (by omega)), aw_sm_rf⟩
  have fr32 := aw_fr_a (k := 10) (j := ((S.1 37).toInt).toNat) (v := aj_nar 0 (Int32.ofInt 0)) (by decide) fr29
  have fl33 := aw_fr_a (k := 10) (j := ((S.1 37).toInt).toNat) (v := aj_nar 0 (Int32.ofInt 0)) (by decide) fl30
  refine aw_l2 aj_d204 rfl rfl hlv21_0 ?_
  refine aw_g hU.1 aj_d204 rfl rfl (by decide) (v := .ref 128) rfl ?_
  refine aw_l2 aj_d204 rfl rfl hlv21_0 ?_
  refine aw_g hU.1 aj_d204 rfl rfl (by decide) (v := .int (S.1 37)) rfl ?_
  refine aw_n aj_d204 rfl rfl ?_
  refine aw_st (k := 11) hU.1 aj_d204 (Or.inl ⟨rfl, rfl⟩) rfl (by decide) (by decide) rfl (a := (S.1 37).toInt) rfl (by omega) (by omega) ?_
  have hI34 : aw_I s h (aw_sm (aw_wa (aw_wa (aw_wa (aw_wa S 1 ((S.1 37).toInt).toNat (aj_nar 0 (Int32.ofInt 0))) 7 ((S.1 37).toInt).toNat (aj_nar 0 (Int32.ofInt 0))) 10 ((S.1 37).toInt).toNat (aj_nar 0 (Int32.ofInt 0))) 11 ((S.1 37).toInt).toNat (aj_nar 0 (Int32.ofInt 0)))) (aw_wa (aw_wa (aw_wa (aw_wa S 1 ((S.1 37).toInt).toNat (aj_nar 0 (Int32.ofInt 0))) 7 ((S.1 37).toInt).toNat (aj_nar 0 (Int32.ofInt 0))) 10 ((S.1 37).toInt).toNat (aj_nar 0 (Int32.ofInt 0))) 11 ((S.1 37).toInt).toNat (aj_nar 0 (Int32.ofInt 0))) := ⟨aw_T_a hU.2.1 hs hU.1.1 (hI31).1 (by decide) (by decide) rfl (by decide) (by decide) rfl (aw_bp (a := (0 : Int)) rfl (by omega) (by omega)), aw_sm_rf⟩
  have fr35 := aw_fr_a (k := 11) (j := ((S.1 37).toInt).toNat) (v := aj_nar 0 (Int32.ofInt 0)) (by decide) fr32
  have fl36 := aw_fr_a (k := 11) (j := ((S.1 37).toInt).toNat) (v := aj_nar 0 (Int32.ofInt 0)) (by decide) fl33
  refine aw_l2 aj_d204 rfl rfl hlv21_0 ?_
  refine aw_g hU.1 aj_d204 rfl rfl (by decide) (v := .ref 122) rfl ?_
  refine aw_l2 aj_d204 rfl rfl hlv21_0 ?_
  refine aw_g hU.1 aj_d204 rfl rfl (by decide) (v := .int (S.1 37)) rfl ?_
  refine aw_n aj_d204 rfl rfl ?_
  refine aw_st (k := 5) hU.1 aj_d204 (Or.inl ⟨rfl, rfl⟩) rfl (by decide) (by decide) rfl (a := (S.1 37).toInt) rfl (by omega) (by omega) ?_
  have hI37 : aw_I s h (aw_sm (aw_wa (aw_wa (aw_wa (aw_wa (aw_wa S 1 ((S.1 37).toInt).toNat (aj_nar 0 (Int32.ofInt 0))) 7 ((S.1 37).toInt).toNat (aj_nar 0 (Int32.ofInt 0))) 10 ((S.1 37).toInt).toNat (aj_nar 0 (Int32.ofInt 0))) 11 ((S.1 37).toInt).toNat (aj_nar 0 (Int32.ofInt 0))) 5 ((S.1 37).toInt).toNat (aj_nar 0 (Int32.ofInt 1)))) (aw_wa (aw_wa (aw_wa (aw_wa (aw_wa S 1 ((S.1 37).toInt).toNat (aj_nar 0 (Int32.ofInt 0))) 7 ((S.1 37).toInt).toNat (aj_nar 0 (Int32.ofInt 0))) 10 ((S.1 37).toInt).toNat (aj_nar 0 (Int32.ofInt 0))) 11 ((S.1 37).toInt).toNat (aj_nar 0 (Int32.ofInt 0))) 5 ((S.1 37).toInt).toNat (aj_nar 0 (Int32.ofInt 1))) := ⟨aw_T_a hU.2.1 hs hU.1.1 (hI34).1 (by decide) (by decide) rfl (by decide) (by decide) rfl (aw_bp (a := (1 : Int)) rfl (by omega) (by omega)), aw_sm_rf⟩
  have fr38 := aw_fr_a (k := 5) (j := ((S.1 37).toInt).toNat) (v := aj_nar 0 (Int32.ofInt 1)) (by decide) fr35
  have fl39 := aw_fr_a (k := 5) (j := ((S.1 37).toInt).toNat) (v := aj_nar 0 (Int32.ofInt 1)) (by decide) fl36
  refine aw_l2 aj_d204 rfl rfl hlv21_0 ?_
  refine aw_k hU.1 aj_d204 rfl rfl [] rfl rfl rfl (Nat.le_of_ble_eq_true rfl) (ar_start hU (hI37).1 (by omega)) ?_
  rintro _ S40 ⟨rfl, hT40, fc40, j40, z40, y40, ga40⟩
  have fr41 := aw_fr_tr fr38 (aw_fr_sub (F := [26, 27, 28, 29, 30, 31, 41, 45, 46, 47]) (A := []) (by decide) (by decide) fc40)
  have fl42 := aw_fr_tr fl39 (aw_fr_sub (F := [26, 27, 28, 29, 30, 31, 41, 45, 46, 47]) (A := []) (by decide) (by decide) fc40)
  have hI43 : aw_I s h (aw_sm S40) S40 := ⟨hT40, aw_sm_rf⟩
  show aw_W _ _ _ _ 54 lv21 [] _ _
  have fz45 : aw_fr [26, 27, 28, 29, 30, 31, 41, 45, 46, 47] [1, 5, 7, 10, 11] S S40 := fl42
  have hne : ¬ aw_hh S = ((S.1 37).toInt).toNat := by
    have v1 := htx.2.1
    have v1 : ((S.1 37).toInt).toNat = 1 - aw_hh S := v1
    omega
  have hG46 : aw_G (fun _ => True, false, la, 0, 0, 0) S40 := aw_tx_G htx b0 fz45 (by rw [(fc40.2 1 (by decide)).1]; show (upd (S.2.2.1 1) ((S.1 37).toInt).toNat _ ((S.1 37).toInt).toNat).toInt = 0; unfold upd; rw [if_pos rfl]; rfl) (by rw [(fc40.2 5 (by decide)).1]; show (upd (S.2.2.1 5) ((S.1 37).toInt).toNat _ ((S.1 37).toInt).toNat).toInt = 1; unfold upd; rw [if_pos rfl]; rfl) (by rw [(fc40.2 7 (by decide)).1]; show (upd (S.2.2.1 7) ((S.1 37).toInt).toNat _ ((S.1 37).toInt).toNat).toInt = 0; unfold upd; rw [if_pos rfl]; rfl) (by rw [(fc40.2 10 (by decide)).1]; show (upd (S.2.2.1 10) ((S.1 37).toInt).toNat _ ((S.1 37).toInt).toNat).toInt = 0; unfold upd; rw [if_pos rfl]; rfl) (by rw [(fc40.2 11 (by decide)).1]; show (upd (S.2.2.1 11) ((S.1 37).toInt).toNat _ ((S.1 37).toInt).toNat).toInt = 0; unfold upd; rw [if_pos rfl]; rfl) (by rw [(fc40.2 5 (by decide)).1]; show (upd (S.2.2.1 5) ((S.1 37).toInt).toNat _ (aw_hh S)) = _; unfold upd; rw [if_neg hne]) (by rw [(fc40.2 10 (by decide)).1]; show (upd (S.2.2.1 10) ((S.1 37).toInt).toNat _ (aw_hh S)) = _; unfold upd; rw [if_neg hne]) (by rw [(fc40.2 11 (by decide)).1]; show (upd (S.2.2.1 11) ((S.1 37).toInt).toNat _ (aw_hh S)) = _; unfold upd; rw [if_neg hne]) j40 y40 ga40
  have hI47 : aw_I s h (aw_sm S40) S40 := ⟨(hI43).1, aw_sm_rf⟩
  exact (ar_txt_L54_43 hU hd ) _ S40 lv21 hlv21_0 ⟨(hI47).1, hG46⟩ fr41 (Nat.lt_succ_self _)
end ARA26
