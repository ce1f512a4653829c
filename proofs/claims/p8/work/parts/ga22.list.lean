/-! WHOLE, WHERE THERE IS NO NUMBER (printed by wip/p2/ref/r22.py) -/
section ARA22
variable {tb : aj_T} {s : List Nat} {h : aj_H} {S S' S1 S2 : aj_S} {d n : Nat} {g g' : aw_gh} {F A : List Nat} {G : aj_S → Prop}
theorem ar_whole0 (hU : aw_U tb s h) (hT : ak_Ty ak_TN s (aj_mh h S)) (hG : aw_G g S) (hd : 5 ≤ d) (hk : (S.1 26).toInt ≠ 2 ∧ ¬ ((S.1 26).toInt = 3 ∧ (S.1 29).toInt = 45)) : aw_K tb h d 221 [.ref 117] S (ar_QT s h g [24, 25, 26, 27, 28, 29, 30, 31, 35, 36] [] S (fun _ => False)) := by
  obtain ⟨d, rfl⟩ : ∃ e, d = e + 1 := ⟨d - 1, by omega⟩
  have hs : aw_sT s := aw_hy_sT hU.2.2
  refine aw_m aj_m221_at rfl (Nat.le_of_ble_eq_true rfl) ?_
  show aw_W _ _ _ _ 0 [(0, .ref 117)] [] _ _
  obtain ⟨lv1, elv1⟩ : ∃ l : aj_V, l = [(0, .ref 117)] := ⟨_, rfl⟩
  rw [← elv1]
  have hlv1_0 : aj_lv lv1 0 = some (.ref 117) := by rw [elv1]; rfl
  have hI2 : aw_I s h (aw_sm S) S := ⟨hT, aw_sm_rf⟩
  have fr3 : aw_fr [24, 25, 26, 27, 28, 29, 30, 31, 35, 36] [] S S := aw_fr_rf
  refine aw_l2 aj_d221 rfl rfl hlv1_0 ?_
  refine aw_l2 aj_d221 rfl rfl hlv1_0 ?_
  have b4 : 0 ≤ (S.1 27).toInt ∧ (S.1 27).toInt ≤ 4000 := aw_bd_f hs (hI2).1 (by decide) rfl
  refine aw_g hU.1 aj_d221 rfl rfl (by decide) (v := .int (S.1 27)) rfl ?_
  refine aw_p hU.1 aj_d221 rfl rfl (by decide) rfl ?_
  have hI5 := aw_I_f (aw_UV hU aw_Gs_sm) (k := 36) (v := (S.1 27)) hI2 (by decide) (by decide) rfl (aw_full _)
  have fr6 := aw_fr_f (k := 36) (v := (S.1 27)) (by decide) fr3
  refine aw_n aj_d221 rfl rfl ?_
  refine aw_t0 (j := 1) aj_d221 rfl (by decide) rfl ?_
  obtain ⟨lv7, elv7⟩ : ∃ l, l = aj_set1 lv1 1 (.int (Int32.ofInt 1)) := ⟨_, rfl⟩
  rw [← elv7]
  have hlv7_0 : aj_lv lv7 0 = some (.ref 117) := cw_e1 elv7 hlv1_0 (by decide) (Or.inr rfl)
  have hlv7_1 : aj_lv lv7 1 = some (.int (Int32.ofInt 1)) := by rw [elv7]; exact ak_set1_eq _ _ _
  show aw_W _ _ _ _ 10 lv7 [] _ _
  refine aw_l2 aj_d221 rfl rfl hlv7_0 ?_
  refine aw_n aj_d221 rfl rfl ?_
  refine aw_k hU.1 aj_d221 rfl rfl [_] rfl rfl rfl (Nat.le_of_ble_eq_true rfl) (ar_isSign hU (by omega) (b := (45 : Int)) rfl) ?_
  have b10 : 0 ≤ (S.1 26).toInt ∧ (S.1 26).toInt ≤ 5 := aw_bd_f hs (hI2).1 (by decide) rfl
  rintro _ S9 ⟨eS9, b8, rfl, kb8⟩
  rw [eS9]
  rcases kb8 with ⟨hb8, pb8, qb8⟩ | ⟨hb8, pb8⟩
  · skip
    have pb8 : ((S.1 26)).toInt = 3 := pb8
    have qb8 : ((S.1 29)).toInt = (45 : Int) := qb8
    show aw_W _ _ _ _ 16 lv7 [.int b8] _ _
    refine aw_z (tgt := 30) aj_d221 rfl rfl (fun q11 => ?_) (fun q11 => ?_)
    · have q11 : (1 : Int) = (0 : Int) := aw_t_eq (a := (1 : Int)) (b := (0 : Int)) hb8 rfl q11
      exfalso
      omega
    · have q11 : (1 : Int) ≠ (0 : Int) := aw_t_eq (a := (1 : Int)) (b := (0 : Int)) hb8 rfl q11
      exfalso
      omega
  · skip
    clear pb8
    show aw_W _ _ _ _ 16 lv7 [.int b8] _ _
    refine aw_z (tgt := 30) aj_d221 rfl rfl (fun q12 => ?_) (fun q12 => ?_)
    · have q12 : (0 : Int) = (0 : Int) := aw_t_eq (a := (0 : Int)) (b := (0 : Int)) hb8 rfl q12
      refine aw_l2 aj_d221 rfl rfl hlv7_0 ?_
      refine aw_g hU.1 aj_d221 rfl rfl (by decide) (v := .int (S.1 26)) rfl ?_
      refine aw_n aj_d221 rfl rfl ?_
      refine aw_c (tgt := 48) aj_d221 rfl rfl (fun q13 => ?_) (fun q13 => ?_)
      · have q13 : (S.1 26).toInt = (2 : Int) := aw_t_eq (a := (S.1 26).toInt) (b := (2 : Int)) rfl rfl q13
        exfalso
        omega
      · have q13 : (S.1 26).toInt ≠ (2 : Int) := aw_t_eq (a := (S.1 26).toInt) (b := (2 : Int)) rfl rfl q13
        refine aw_l2 aj_d221 rfl rfl hlv7_0 ?_
        refine aw_n aj_d221 rfl rfl ?_
        refine aw_l2 aj_d221 rfl rfl hlv7_0 ?_
        refine aw_g hU.1 aj_d221 rfl rfl (by decide) (v := .int (S.1 27)) rfl ?_
        refine aw_k hU.1 aj_d221 rfl rfl [_, _] rfl rfl rfl (Nat.le_of_ble_eq_true rfl) (ar_stop hU (hI5).1 (by omega) (a := (1 : Int)) rfl) ?_
        rintro _ S14 ⟨hT14, fc14, rfl, hz14⟩
        have hG14 := aw_G_stop (aw_G_sm hI5.2 hG) fc14 (by omega)
        have fr15 := aw_fr_tr fr6 (aw_fr_sub (F := [24, 25, 31]) (A := []) (by decide) (by decide) fc14)
        have hI16 : aw_I s h (aw_sm S14) S14 := ⟨hT14, aw_sm_rf⟩
        show aw_W _ _ _ _ 47 lv7 [.int (Int32.ofInt 0)] _ _
        refine aw_e aj_d221 rfl rfl ?_
        have b17 : 0 ≤ (S.1 30).toInt ∧ (S.1 30).toInt ≤ 1001 := aw_bd_f hs (hI2).1 (by decide) rfl
        have c18 : (S14.1 30).toInt = (S.1 30).toInt := (congrArg Int32.toInt (fc14.1 30 (by decide)).1).trans rfl
        have b19 : 0 ≤ (S14.1 30).toInt ∧ (S14.1 30).toInt ≤ 1001 := aw_bd_f hs (hI16).1 (by decide) rfl
        exact ⟨(hI16).1, fr15, Or.inl ⟨_, rfl, rfl, hG14, (show _ ≤ ((S14.1 30)).toInt by omega)⟩⟩
    · have q12 : (0 : Int) ≠ (0 : Int) := aw_t_eq (a := (0 : Int)) (b := (0 : Int)) hb8 rfl q12
      exfalso
      omega
end ARA22
