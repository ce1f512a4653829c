/-! JOINED, DONE, Qs (printed by wip/p2/ref/r12.py) -/
def ar_mp (x : Int32) : Int32 := if x.toInt = 40 then 40 else if x.toInt = 43 ∨ x.toInt = 45 then 124 else if x.toInt = 42 then 38 else 0
def ar_mf (f : Nat → Int32) : Nat → Int32 := fun i => ar_mp (f i)
section ARA12
variable {tb : aj_T} {s : List Nat} {h : aj_H} {S S' S1 S2 : aj_S} {d n : Nat} {g g' : aw_gh} {F A : List Nat} {G : aj_S → Prop} {nm : Int64 → Prop} {fl : Bool} {la ho hu ht q t c : Nat} {f : Nat → Int32} {m w w' hd' hd'' o : Int}
theorem ar_nw_c (c : Nat) : ar_nw S t c ≤ c := by
  induction c with
  | zero => exact Nat.le_refl _
  | succ c ih =>
    by_cases z : ar_fd S t c
    · rw [ar_nw_1 z]
      omega
    · rw [ar_nw_2 z]
      omega
theorem ar_mf_upd {v : Int32} : ar_mf (upd f n v) = upd (ar_mf f) n (ar_mp v) := by
  funext i
  unfold ar_mf upd
  split <;> rfl
theorem ar_mp_n33 (x : Int32) : (ar_mp x).toInt ≠ 33 := by
  unfold ar_mp
  split
  · decide
  · split
    · decide
    · split <;> decide
theorem ar_mp_40 {x : Int32} : (ar_mp x).toInt = 40 ↔ x.toInt = 40 := by
  unfold ar_mp
  by_cases h : x.toInt = 40
  · rw [if_pos h]
    exact ⟨fun _ => h, fun _ => by decide⟩
  · rw [if_neg h]
    split
    · exact ⟨fun z => absurd z (by decide), fun z => absurd z h⟩
    · split
      · exact ⟨fun z => absurd z (by decide), fun z => absurd z h⟩
      · exact ⟨fun z => absurd z (by decide), fun z => absurd z h⟩
theorem ar_mp_124 {x : Int32} (h : x.toInt = 43 ∨ x.toInt = 45) : ar_mp x = 124 := by
  unfold ar_mp
  rw [if_neg (by omega), if_pos h]
theorem ar_mp_42 {x : Int32} (h : x.toInt = 42) : ar_mp x = 38 := by
  unfold ar_mp
  rw [if_neg (by omega), if_neg (by omega), if_pos h]
theorem ar_mp_i38 {x : Int32} (h : (ar_mp x).toInt = 38) : x.toInt = 42 := by
  unfold ar_mp at h
  split at h
  · exact absurd h (by decide)
  · split at h
    · exact absurd h (by decide)
    · split at h
      · assumption
      · exact absurd h (by decide)
theorem ar_mp_i124 {x : Int32} (h : (ar_mp x).toInt = 124) : x.toInt = 43 ∨ x.toInt = 45 := by
  unfold ar_mp at h
  split at h
  · exact absurd h (by decide)
  · split at h
    · assumption
    · split at h <;> exact absurd h (by decide)
theorem ar_joined (hU : aw_U tb s h) (hT : ak_Ty ak_TN s (aj_mh h S)) (hG : aw_G g S) (hd : 5 ≤ d) {x y : Int32} (hx : 20 ≤ x.toInt ∧ x.toInt ≤ 47) : aw_K tb h d 275 [.ref 117, .int x, .int y] S (ar_QB s h [24, 25, 31] [14, 15, 16, 17, 18, 19] S (fun S' => aw_G g S' ∧ (S.1 30).toInt ≤ (S'.1 30).toInt) (fun S' => aw_G g S' ∧ (S.1 30).toInt + 0 ≤ (S'.1 30).toInt)) := by
  obtain ⟨d, rfl⟩ : ∃ e, d = e + 1 := ⟨d - 1, by omega⟩
  have hs : aw_sT s := aw_hy_sT hU.2.2
  refine aw_m aj_m275_at rfl (Nat.le_of_ble_eq_true rfl) ?_
  show aw_W _ _ _ _ 0 [(0, .ref 117), (1, .int x), (2, .int y)] [] _ _
  obtain ⟨lv1, elv1⟩ : ∃ l : aj_V, l = [(0, .ref 117), (1, .int x), (2, .int y)] := ⟨_, rfl⟩
  rw [← elv1]
  have hlv1_0 : aj_lv lv1 0 = some (.ref 117) := by rw [elv1]; rfl
  have hlv1_1 : aj_lv lv1 1 = some (.int x) := by rw [elv1]; rfl
  have hlv1_2 : aj_lv lv1 2 = some (.int y) := by rw [elv1]; rfl
  have hI2 : aw_I s h (aw_sm S) S := ⟨hT, aw_sm_rf⟩
  have fr3 : aw_fr [24, 25, 31] [14, 15, 16, 17, 18, 19] S S := aw_fr_rf
  refine aw_l2 aj_d275 rfl rfl hlv1_0 ?_
  refine aw_g hU.1 aj_d275 rfl rfl (by decide) (v := .ref 132) rfl ?_
  refine aw_l0 aj_d275 rfl rfl hlv1_1 ?_
  refine aw_ld (k := 15) hU.1 aj_d275 (Or.inl ⟨rfl, rfl⟩) rfl (by decide) (by decide) rfl (a := x.toInt) rfl (by omega) (by omega) (fun x4 ex4 => ?_)
  have bx4 : (-1) ≤ x4.toInt ∧ x4.toInt ≤ 6 := by
    rw [ex4]
    exact aw_bd_a hs (hI2).1 (k := 15) (by decide) (by decide) rfl (by decide) rfl (by omega)
  have ftx4 : x4.toInt = (S.2.2.1 15 (x.toInt).toNat).toInt := congrArg Int32.toInt (ex4.trans (congrFun rfl _))
  refine aw_z (tgt := 20) aj_d275 rfl rfl (fun q5 => ?_) (fun q5 => ?_)
  · have q5 : x4.toInt < (0 : Int) := aw_t_lt (a := x4.toInt) (b := (0 : Int)) rfl rfl q5
    refine aw_n aj_d275 rfl rfl ?_
    refine aw_n aj_d275 rfl rfl ?_
    refine aw_t0 (j := 3) aj_d275 rfl (by decide) rfl ?_
    obtain ⟨lv6, elv6⟩ : ∃ l, l = aj_set1 lv1 3 (.int (Int32.ofInt (-1))) := ⟨_, rfl⟩
    rw [← elv6]
    have hlv6_0 : aj_lv lv6 0 = some (.ref 117) := cw_e1 elv6 hlv1_0 (by decide) (Or.inl (by decide))
    have hlv6_1 : aj_lv lv6 1 = some (.int x) := cw_e1 elv6 hlv1_1 (by decide) (Or.inl (by decide))
    have hlv6_2 : aj_lv lv6 2 = some (.int y) := cw_e1 elv6 hlv1_2 (by decide) (Or.inr rfl)
    have hlv6_3 : aj_lv lv6 3 = some (.int (Int32.ofInt (-1))) := by rw [elv6]; exact ak_set1_eq _ _ _
    show aw_W _ _ _ _ 31 lv6 [] _ _
    refine aw_n aj_d275 rfl rfl ?_
    refine aw_t0 (j := 4) aj_d275 rfl (by decide) rfl ?_
    obtain ⟨lv7, elv7⟩ : ∃ l, l = aj_set1 lv6 4 (.int (Int32.ofInt 0)) := ⟨_, rfl⟩
    rw [← elv7]
    have hlv7_0 : aj_lv lv7 0 = some (.ref 117) := cw_e1 elv7 hlv6_0 (by decide) (Or.inl (by decide))
    have hlv7_1 : aj_lv lv7 1 = some (.int x) := cw_e1 elv7 hlv6_1 (by decide) (Or.inl (by decide))
    have hlv7_2 : aj_lv lv7 2 = some (.int y) := cw_e1 elv7 hlv6_2 (by decide) (Or.inl (by decide))
    have hlv7_3 : aj_lv lv7 3 = some (.int (Int32.ofInt (-1))) := cw_e1 elv7 hlv6_3 (by decide) (Or.inr rfl)
    have hlv7_4 : aj_lv lv7 4 = some (.int (Int32.ofInt 0)) := by rw [elv7]; exact ak_set1_eq _ _ _
    show aw_W _ _ _ _ 34 lv7 [] _ _
    refine aw_l0 aj_d275 rfl rfl hlv7_3 ?_
    refine aw_z (tgt := 82) aj_d275 rfl rfl (fun q8 => ?_) (fun q8 => ?_)
    · have q8 : (-1 : Int) < (0 : Int) := aw_t_lt (a := (-1 : Int)) (b := (0 : Int)) rfl rfl q8
      refine aw_l0 aj_d275 rfl rfl hlv7_3 ?_
      refine aw_n aj_d275 rfl rfl ?_
      refine aw_c (tgt := 96) aj_d275 rfl rfl (fun q9 => ?_) (fun q9 => ?_)
      · have q9 : (-1 : Int) ≤ (6 : Int) := aw_t_le (a := (-1 : Int)) (b := (6 : Int)) rfl rfl q9
        refine aw_l0 aj_d275 rfl rfl hlv7_3 ?_
        refine aw_z (tgt := 109) aj_d275 rfl rfl (fun q10 => ?_) (fun q10 => ?_)
        · have q10 : (-1 : Int) ≥ (0 : Int) := aw_t_ge (a := (-1 : Int)) (b := (0 : Int)) rfl rfl q10
          exfalso
          omega
        · have q10 : (-1 : Int) < (0 : Int) := aw_t_ge (a := (-1 : Int)) (b := (0 : Int)) rfl rfl q10
          refine aw_l2 aj_d275 rfl rfl hlv7_0 ?_
          refine aw_g hU.1 aj_d275 rfl rfl (by decide) (v := .ref 132) rfl ?_
          refine aw_l0 aj_d275 rfl rfl hlv7_1 ?_
          refine aw_n aj_d275 rfl rfl ?_
          refine aw_st (k := 15) hU.1 aj_d275 (Or.inl ⟨rfl, rfl⟩) rfl (by decide) (by decide) rfl (a := x.toInt) rfl (by omega) (by omega) ?_
          have hI11 := aw_I_a (aw_UV hU aw_Gs_sm) (k := 15) (j := (x.toInt).toNat) (v := aj_nar 0 (Int32.ofInt (-1))) hI2 (by decide) (by decide) (by decide) rfl (by decide) (by decide) rfl (aw_bp (a := (-1 : Int)) rfl (by omega) (by omega))
          have fr12 := aw_fr_a (k := 15) (j := (x.toInt).toNat) (v := aj_nar 0 (Int32.ofInt (-1))) (by decide) fr3
          refine aw_n aj_d275 rfl rfl ?_
          refine aw_e aj_d275 rfl rfl ?_
          have b13 : 0 ≤ (S.1 30).toInt ∧ (S.1 30).toInt ≤ 1001 := aw_bd_f hs (hI2).1 (by decide) rfl
          exact ⟨(hI11).1, fr12, Or.inr ⟨_, rfl, rfl, (aw_G_sm hI11.2 hG), (show _ + 0 ≤ ((S.1 30)).toInt by omega)⟩⟩
      · have q9 : (-1 : Int) > (6 : Int) := aw_t_le (a := (-1 : Int)) (b := (6 : Int)) rfl rfl q9
        exfalso
        omega
    · have q8 : (-1 : Int) ≥ (0 : Int) := aw_t_lt (a := (-1 : Int)) (b := (0 : Int)) rfl rfl q8
      exfalso
      omega
  · have q5 : x4.toInt ≥ (0 : Int) := aw_t_lt (a := x4.toInt) (b := (0 : Int)) rfl rfl q5
    refine aw_l2 aj_d275 rfl rfl hlv1_0 ?_
    refine aw_g hU.1 aj_d275 rfl rfl (by decide) (v := .ref 132) rfl ?_
    refine aw_l0 aj_d275 rfl rfl hlv1_1 ?_
    refine aw_n aj_d275 rfl rfl ?_
    refine aw_add aj_d275 rfl (a := x.toInt) (b := (1 : Int)) rfl rfl (by omega) (by omega) (fun x14 ex14 => ?_)
    have ib15 : (x14.toInt).toNat = (x.toInt).toNat + 1 := by omega
    refine aw_ld (k := 15) hU.1 aj_d275 (Or.inl ⟨rfl, rfl⟩) rfl (by decide) (by decide) rfl (a := x14.toInt) rfl (by omega) (by omega) (fun x16 ex16 => ?_)
    have bx16 : (-1) ≤ x16.toInt ∧ x16.toInt ≤ 6 := by
      rw [ex16]
      exact aw_bd_a hs (hI2).1 (k := 15) (by decide) (by decide) rfl (by decide) rfl (by omega)
    have ftx16 : x16.toInt = (S.2.2.1 15 (x14.toInt).toNat).toInt := congrArg Int32.toInt (ex16.trans (congrFun rfl _))
    rw [ib15] at ftx16
    refine aw_z (tgt := 24) aj_d275 rfl rfl (fun q17 => ?_) (fun q17 => ?_)
    · have q17 : x16.toInt ≥ (0 : Int) := aw_t_ge (a := x16.toInt) (b := (0 : Int)) rfl rfl q17
      refine aw_l2 aj_d275 rfl rfl hlv1_0 ?_
      refine aw_g hU.1 aj_d275 rfl rfl (by decide) (v := .ref 132) rfl ?_
      refine aw_l0 aj_d275 rfl rfl hlv1_1 ?_
      refine aw_ld (k := 15) hU.1 aj_d275 (Or.inl ⟨rfl, rfl⟩) rfl (by decide) (by decide) rfl (a := x.toInt) rfl (by omega) (by omega) (fun x18 ex18 => ?_)
      have bx18 : (-1) ≤ x18.toInt ∧ x18.toInt ≤ 6 := by
        rw [ex18]
        exact aw_bd_a hs (hI2).1 (k := 15) (by decide) (by decide) rfl (by decide) rfl (by omega)
      have ftx18 : x18.toInt = (S.2.2.1 15 (x.toInt).toNat).toInt := congrArg Int32.toInt (ex18.trans (congrFun rfl _))
      refine aw_t0 (j := 3) aj_d275 rfl (by decide) rfl ?_
      obtain ⟨lv19, elv19⟩ : ∃ l, l = aj_set1 lv1 3 (.int x18) := ⟨_, rfl⟩
      rw [← elv19]
      have hlv19_0 : aj_lv lv19 0 = some (.ref 117) := cw_e1 elv19 hlv1_0 (by decide) (Or.inl (by decide))
      have hlv19_1 : aj_lv lv19 1 = some (.int x) := cw_e1 elv19 hlv1_1 (by decide) (Or.inl (by decide))
      have hlv19_2 : aj_lv lv19 2 = some (.int y) := cw_e1 elv19 hlv1_2 (by decide) (Or.inr rfl)
      have hlv19_3 : aj_lv lv19 3 = some (.int x18) := by rw [elv19]; exact ak_set1_eq _ _ _
      show aw_W _ _ _ _ 31 lv19 [] _ _
      refine aw_n aj_d275 rfl rfl ?_
      refine aw_t0 (j := 4) aj_d275 rfl (by decide) rfl ?_
      obtain ⟨lv20, elv20⟩ : ∃ l, l = aj_set1 lv19 4 (.int (Int32.ofInt 0)) := ⟨_, rfl⟩
      rw [← elv20]
      have hlv20_0 : aj_lv lv20 0 = some (.ref 117) := cw_e1 elv20 hlv19_0 (by decide) (Or.inl (by decide))
      have hlv20_1 : aj_lv lv20 1 = some (.int x) := cw_e1 elv20 hlv19_1 (by decide) (Or.inl (by decide))
      have hlv20_2 : aj_lv lv20 2 = some (.int y) := cw_e1 elv20 hlv19_2 (by decide) (Or.inl (by decide))
      have hlv20_3 : aj_lv lv20 3 = some (.int x18) := cw_e1 elv20 hlv19_3 (by decide) (Or.inr rfl)
      have hlv20_4 : aj_lv lv20 4 = some (.int (Int32.ofInt 0)) := by rw [elv20]; exact ak_set1_eq _ _ _
      show aw_W _ _ _ _ 34 lv20 [] _ _
      have L34_20 : ∀ (N : Nat) (lv23 : aj_V) (x24 : Int32) (x25 : Int32), (aj_lv lv23 0 = some (.ref 117)) → (aj_lv lv23 1 = some (.int x)) → (aj_lv lv23 2 = some (.int y)) → (aj_lv lv23 3 = some (.int x24)) → (aj_lv lv23 4 = some (.int x25)) → (0 ≤ x24.toInt ∧ x24.toInt ≤ 13) → (0 ≤ x25.toInt ∧ x25.toInt ≤ 6) → (x24.toInt = (S.2.2.1 15 (x.toInt).toNat).toInt + ar_nw S (x.toInt).toNat (x25.toInt).toNat) → (x25.toInt ≤ (S.2.2.1 15 ((x.toInt).toNat + 1)).toInt) → (6 - x25.toInt).toNat < N → aw_W tb h d aj_m275 34 lv23 [] S ((ar_QB s h [24, 25, 31] [14, 15, 16, 17, 18, 19] S (fun S' => aw_G g S' ∧ (S.1 30).toInt ≤ (S'.1 30).toInt) (fun S' => aw_G g S' ∧ (S.1 30).toInt + 0 ≤ (S'.1 30).toInt))) := by
        intro N
        induction N with
        | zero =>
          intro  lv23 x24 x25 hlv23_0 hlv23_1 hlv23_2 hlv23_3 hlv23_4 bx24 bx25 n34 c34 hm
          omega
        | succ N ihL34_20 =>
          intro  lv23 x24 x25 hlv23_0 hlv23_1 hlv23_2 hlv23_3 hlv23_4 bx24 bx25 n34 c34 hm
          have ncx : ar_nw S (x.toInt).toNat ((x25.toInt).toNat + 1) ≤ (x25.toInt).toNat + 1 := ar_nw_c _
          have bcd := aw_bd_a hs (hI2).1 (k := 15) (j := (x.toInt).toNat) (by decide) (by decide) rfl (by decide) rfl (by omega)
          refine aw_l0 aj_d275 rfl rfl hlv23_3 ?_
          refine aw_z (tgt := 82) aj_d275 rfl rfl (fun q28 => ?_) (fun q28 => ?_)
          · have q28 : x24.toInt < (0 : Int) := aw_t_lt (a := x24.toInt) (b := (0 : Int)) rfl rfl q28
            exfalso
            omega
          · have q28 : x24.toInt ≥ (0 : Int) := aw_t_lt (a := x24.toInt) (b := (0 : Int)) rfl rfl q28
            refine aw_l0 aj_d275 rfl rfl hlv23_4 ?_
            refine aw_l2 aj_d275 rfl rfl hlv23_0 ?_
            refine aw_g hU.1 aj_d275 rfl rfl (by decide) (v := .ref 132) rfl ?_
            refine aw_l0 aj_d275 rfl rfl hlv23_1 ?_
            refine aw_n aj_d275 rfl rfl ?_
            refine aw_add aj_d275 rfl (a := x.toInt) (b := (1 : Int)) rfl rfl (by omega) (by omega) (fun x29 ex29 => ?_)
            have ib30 : (x29.toInt).toNat = (x.toInt).toNat + 1 := by omega
            refine aw_ld (k := 15) hU.1 aj_d275 (Or.inl ⟨rfl, rfl⟩) rfl (by decide) (by decide) rfl (a := x29.toInt) rfl (by omega) (by omega) (fun x31 ex31 => ?_)
            have bx31 : (-1) ≤ x31.toInt ∧ x31.toInt ≤ 6 := by
              rw [ex31]
              exact aw_bd_a hs (hI2).1 (k := 15) (by decide) (by decide) rfl (by decide) rfl (by omega)
            have ftx31 : x31.toInt = (S.2.2.1 15 (x29.toInt).toNat).toInt := congrArg Int32.toInt (ex31.trans (congrFun rfl _))
            rw [ib30] at ftx31
            refine aw_c (tgt := 82) aj_d275 rfl rfl (fun q32 => ?_) (fun q32 => ?_)
            · have q32 : x25.toInt ≥ x31.toInt := aw_t_ge (a := x25.toInt) (b := x31.toInt) rfl rfl q32
              refine aw_l0 aj_d275 rfl rfl hlv23_3 ?_
              refine aw_n aj_d275 rfl rfl ?_
              refine aw_c (tgt := 96) aj_d275 rfl rfl (fun q33 => ?_) (fun q33 => ?_)
              · have q33 : x24.toInt ≤ (6 : Int) := aw_t_le (a := x24.toInt) (b := (6 : Int)) rfl rfl q33
                refine aw_l0 aj_d275 rfl rfl hlv23_3 ?_
                refine aw_z (tgt := 109) aj_d275 rfl rfl (fun q34 => ?_) (fun q34 => ?_)
                · have q34 : x24.toInt ≥ (0 : Int) := aw_t_ge (a := x24.toInt) (b := (0 : Int)) rfl rfl q34
                  refine aw_l2 aj_d275 rfl rfl hlv23_0 ?_
                  refine aw_l0 aj_d275 rfl rfl hlv23_1 ?_
                  refine aw_l0 aj_d275 rfl rfl hlv23_2 ?_
                  have b36 : 0 ≤ (S.1 30).toInt ∧ (S.1 30).toInt ≤ 1001 := aw_bd_f hs (hI2).1 (by decide) rfl
                  refine aw_k hU.1 aj_d275 rfl rfl [_, _] rfl rfl rfl (Nat.le_of_ble_eq_true rfl) (ar_join hU (hI2).1 hG (by omega) (by omega) ((x.toInt).toNat) rfl ⟨by omega, by omega, by rw [show ((S.2.2.1 15 ((x.toInt).toNat + 1)).toInt).toNat = (x25.toInt).toNat by omega]; omega⟩) ?_
                  rintro _ S35 ⟨hT35, fc35, ⟨b35, rfl, hb35, hG35, ck35⟩ | ⟨b35, rfl, hb35, hG35, ck35⟩⟩
                  · skip
                    have fr37 := aw_fr_tr fr3 (aw_fr_sub (F := [24, 25, 31]) (A := [14, 15, 16, 17, 18, 19]) (by decide) (by decide) fc35)
                    have hI38 : aw_I s h (aw_sm S35) S35 := ⟨hT35, aw_sm_rf⟩
                    show aw_W _ _ _ _ 115 lv23 [.int b35] _ _
                    refine aw_e aj_d275 rfl (cw_irb rfl (by omega)) ?_
                    have c39 : (S35.1 30).toInt = (S.1 30).toInt := (congrArg Int32.toInt (fc35.1 30 (by decide)).1).trans rfl
                    have b40 : 0 ≤ (S35.1 30).toInt ∧ (S35.1 30).toInt ≤ 1001 := aw_bd_f hs (hI38).1 (by decide) rfl
                    exact ⟨(hI38).1, fr37, Or.inl ⟨_, rfl, hb35, hG35, (show _ ≤ ((S35.1 30)).toInt by omega)⟩⟩
                  · skip
                    have fr41 := aw_fr_tr fr3 (aw_fr_sub (F := [24, 25, 31]) (A := [14, 15, 16, 17, 18, 19]) (by decide) (by decide) fc35)
                    have hI42 : aw_I s h (aw_sm S35) S35 := ⟨hT35, aw_sm_rf⟩
                    show aw_W _ _ _ _ 115 lv23 [.int b35] _ _
                    refine aw_e aj_d275 rfl (cw_irb rfl (by omega)) ?_
                    have c43 : (S35.1 30).toInt = (S.1 30).toInt := (congrArg Int32.toInt (fc35.1 30 (by decide)).1).trans rfl
                    have b44 : 0 ≤ (S35.1 30).toInt ∧ (S35.1 30).toInt ≤ 1001 := aw_bd_f hs (hI42).1 (by decide) rfl
                    exact ⟨(hI42).1, fr41, Or.inr ⟨_, rfl, hb35, hG35, (show _ + 0 ≤ ((S35.1 30)).toInt by omega)⟩⟩
                · have q34 : x24.toInt < (0 : Int) := aw_t_ge (a := x24.toInt) (b := (0 : Int)) rfl rfl q34
                  exfalso
                  omega
              · have q33 : x24.toInt > (6 : Int) := aw_t_le (a := x24.toInt) (b := (6 : Int)) rfl rfl q33
                refine aw_l2 aj_d275 rfl rfl hlv23_0 ?_
                refine aw_n aj_d275 rfl rfl ?_
                refine aw_l0 aj_d275 rfl rfl hlv23_2 ?_
                refine aw_k hU.1 aj_d275 rfl rfl [_, _] rfl rfl rfl (Nat.le_of_ble_eq_true rfl) (ar_tell hU (hI2).1 (by omega) (a := (5 : Int)) rfl (by omega)) ?_
                rintro _ S45 ⟨hT45, fc45, rfl, hz45, hw45⟩
                have hG45 := aw_G_tell hG fc45 hz45
                have b46 : 0 ≤ (S.1 32).toInt ∧ (S.1 32).toInt ≤ 1 := aw_bd_f hs (hI2).1 (by decide) rfl
                have hz45 : ((S.1 32)).toInt = 0 → (S45.1 24).toInt ≠ 0 := hz45
                have fr47 := aw_fr_tr fr3 (aw_fr_sub (F := [24, 25]) (A := []) (by decide) (by decide) fc45)
                have hI48 : aw_I s h (aw_sm S45) S45 := ⟨hT45, aw_sm_rf⟩
                show aw_W _ _ _ _ 94 lv23 [] _ _
                refine aw_n aj_d275 rfl rfl ?_
                refine aw_t0 (j := 3) aj_d275 rfl (by decide) rfl ?_
                obtain ⟨lv49, elv49⟩ : ∃ l, l = aj_set1 lv23 3 (.int (Int32.ofInt (-1))) := ⟨_, rfl⟩
                rw [← elv49]
                have hlv49_0 : aj_lv lv49 0 = some (.ref 117) := cw_e1 elv49 hlv23_0 (by decide) (Or.inl (by decide))
                have hlv49_1 : aj_lv lv49 1 = some (.int x) := cw_e1 elv49 hlv23_1 (by decide) (Or.inl (by decide))
                have hlv49_2 : aj_lv lv49 2 = some (.int y) := cw_e1 elv49 hlv23_2 (by decide) (Or.inr rfl)
                have hlv49_3 : aj_lv lv49 3 = some (.int (Int32.ofInt (-1))) := by rw [elv49]; exact ak_set1_eq _ _ _
                show aw_W _ _ _ _ 96 lv49 [] _ _
                refine aw_l0 aj_d275 rfl rfl hlv49_3 ?_
                refine aw_z (tgt := 109) aj_d275 rfl rfl (fun q50 => ?_) (fun q50 => ?_)
                · have q50 : (-1 : Int) ≥ (0 : Int) := aw_t_ge (a := (-1 : Int)) (b := (0 : Int)) rfl rfl q50
                  exfalso
                  omega
                · have q50 : (-1 : Int) < (0 : Int) := aw_t_ge (a := (-1 : Int)) (b := (0 : Int)) rfl rfl q50
                  refine aw_l2 aj_d275 rfl rfl hlv49_0 ?_
                  refine aw_g hU.1 aj_d275 rfl rfl (by decide) (v := .ref 132) rfl ?_
                  refine aw_l0 aj_d275 rfl rfl hlv49_1 ?_
                  refine aw_n aj_d275 rfl rfl ?_
                  refine aw_st (k := 15) hU.1 aj_d275 (Or.inl ⟨rfl, rfl⟩) rfl (by decide) (by decide) rfl (a := x.toInt) rfl (by omega) (by omega) ?_
                  have hI51 := aw_I_a (aw_UV hU aw_Gs_sm) (k := 15) (j := (x.toInt).toNat) (v := aj_nar 0 (Int32.ofInt (-1))) hI48 (by decide) (by decide) (by decide) rfl (by decide) (by decide) rfl (aw_bp (a := (-1 : Int)) rfl (by omega) (by omega))
                  have fr52 := aw_fr_a (k := 15) (j := (x.toInt).toNat) (v := aj_nar 0 (Int32.ofInt (-1))) (by decide) fr47
                  refine aw_n aj_d275 rfl rfl ?_
                  refine aw_e aj_d275 rfl rfl ?_
                  have b53 : 0 ≤ (S.1 30).toInt ∧ (S.1 30).toInt ≤ 1001 := aw_bd_f hs (hI2).1 (by decide) rfl
                  have c54 : (S45.1 30).toInt = (S.1 30).toInt := (congrArg Int32.toInt (fc45.1 30 (by decide)).1).trans rfl
                  have b55 : 0 ≤ (S45.1 30).toInt ∧ (S45.1 30).toInt ≤ 1001 := aw_bd_f hs (hI48).1 (by decide) rfl
                  exact ⟨(hI51).1, fr52, Or.inr ⟨_, rfl, rfl, (aw_G_sm hI51.2 hG45), (show _ + 0 ≤ ((S45.1 30)).toInt by omega)⟩⟩
            · have q32 : x25.toInt < x31.toInt := aw_t_ge (a := x25.toInt) (b := x31.toInt) rfl rfl q32
              refine aw_l2 aj_d275 rfl rfl hlv23_0 ?_
              refine aw_l0 aj_d275 rfl rfl hlv23_1 ?_
              refine aw_l2 aj_d275 rfl rfl hlv23_0 ?_
              refine aw_g hU.1 aj_d275 rfl rfl (by decide) (v := .ref 133) rfl ?_
              refine aw_l0 aj_d275 rfl rfl hlv23_1 ?_
              refine aw_n aj_d275 rfl rfl ?_
              refine aw_add aj_d275 rfl (a := x.toInt) (b := (1 : Int)) rfl rfl (by omega) (by omega) (fun x56 ex56 => ?_)
              refine aw_n aj_d275 rfl rfl ?_
              refine aw_mul aj_d275 rfl (a := x56.toInt) (b := (8 : Int)) rfl rfl (by omega) (by omega) (fun x57 ex57 => ?_)
              refine aw_l0 aj_d275 rfl rfl hlv23_4 ?_
              refine aw_add aj_d275 rfl (a := x57.toInt) (b := x25.toInt) rfl rfl (by omega) (by omega) (fun x58 ex58 => ?_)
              refine aw_ldl (k := 16) hU.1 aj_d275 rfl (by decide) (by decide) rfl (a := x58.toInt) rfl (by omega) (by omega) (fun y59 ey59 => ?_)
              refine aw_k hU.1 aj_d275 rfl rfl [_, _] rfl rfl rfl (Nat.le_of_ble_eq_true rfl) (aw_columnOfK (aw_UV hU aw_Gs_sm) hI2 (by omega) (t := (x.toInt).toNat) (by omega) (by omega)) ?_
              rintro _ zb60 ⟨b60, rfl, fb60, hfb60⟩
              rw [fb60]
              have bdb60 := aw_bd_a hs (hI2).1 (k := 15) (j := (x.toInt).toNat) (by decide) (by decide) rfl (by decide) rfl (by omega)
              have hdb60 := ar_fd_of (c := (x25.toInt).toNat) ar_J2_rf (by omega) (by omega) bdb60.2 (by omega) ey59 hfb60
              have nwb60 : ((0 ≤ b60.toInt ∧ ar_nw S (x.toInt).toNat ((x25.toInt).toNat + 1) = ar_nw S (x.toInt).toNat (x25.toInt).toNat) ∨ (b60.toInt = -1 ∧ ar_nw S (x.toInt).toNat ((x25.toInt).toNat + 1) = ar_nw S (x.toInt).toNat (x25.toInt).toNat + 1)) := by
                rcases hdb60 with ⟨z1, z2, z3⟩ | ⟨z1, z2⟩
                · exact Or.inl ⟨z1, ar_nw_1 z3⟩
                · exact Or.inr ⟨z1, ar_nw_2 z2⟩
              have b5b60 : -1 ≤ b60.toInt ∧ b60.toInt ≤ 5 := by
                rcases hdb60 with ⟨z1, z2, z3⟩ | ⟨z1, z2⟩
                · omega
                · omega
              clear hdb60 hfb60 bdb60
              show aw_W _ _ _ _ 70 lv23 [.int b60] _ _
              refine aw_z (tgt := 76) aj_d275 rfl rfl (fun q61 => ?_) (fun q61 => ?_)
              · have q61 : b60.toInt ≥ (0 : Int) := aw_t_ge (a := b60.toInt) (b := (0 : Int)) rfl rfl q61
                refine aw_inc aj_d275 rfl hlv23_4 (a := x25.toInt) rfl (by omega) (by omega) (by decide) (by decide) (fun x62 ex62 => ?_)
                obtain ⟨lv63, elv63⟩ : ∃ l, l = aj_set1 lv23 4 (.int x62) := ⟨_, rfl⟩
                rw [← elv63]
                have hlv63_0 : aj_lv lv63 0 = some (.ref 117) := cw_e1 elv63 hlv23_0 (by decide) (Or.inl (by decide))
                have hlv63_1 : aj_lv lv63 1 = some (.int x) := cw_e1 elv63 hlv23_1 (by decide) (Or.inl (by decide))
                have hlv63_2 : aj_lv lv63 2 = some (.int y) := cw_e1 elv63 hlv23_2 (by decide) (Or.inl (by decide))
                have hlv63_3 : aj_lv lv63 3 = some (.int x24) := cw_e1 elv63 hlv23_3 (by decide) (Or.inr rfl)
                have hlv63_4 : aj_lv lv63 4 = some (.int x62) := by rw [elv63]; exact ak_set1_eq _ _ _
                show aw_W _ _ _ _ 79 lv63 [] _ _
                refine aw_n aj_d275 rfl rfl ?_
                exact ihL34_20 lv63 (x24) (x62) hlv63_0 hlv63_1 hlv63_2 hlv63_3 hlv63_4 (by omega) (by omega) (by rw [show (x62.toInt).toNat = (x25.toInt).toNat + 1 by omega]; omega) (by omega) (by omega)
              · have q61 : b60.toInt < (0 : Int) := aw_t_ge (a := b60.toInt) (b := (0 : Int)) rfl rfl q61
                refine aw_inc aj_d275 rfl hlv23_3 (a := x24.toInt) rfl (by omega) (by omega) (by decide) (by decide) (fun x64 ex64 => ?_)
                obtain ⟨lv65, elv65⟩ : ∃ l, l = aj_set1 lv23 3 (.int x64) := ⟨_, rfl⟩
                rw [← elv65]
                have hlv65_0 : aj_lv lv65 0 = some (.ref 117) := cw_e1 elv65 hlv23_0 (by decide) (Or.inl (by decide))
                have hlv65_1 : aj_lv lv65 1 = some (.int x) := cw_e1 elv65 hlv23_1 (by decide) (Or.inl (by decide))
                have hlv65_2 : aj_lv lv65 2 = some (.int y) := cw_e1 elv65 hlv23_2 (by decide) (Or.inr rfl)
                have hlv65_4 : aj_lv lv65 4 = some (.int x25) := cw_e1 elv65 hlv23_4 (by decide) (Or.inl (by decide))
                have hlv65_3 : aj_lv lv65 3 = some (.int x64) := by rw [elv65]; exact ak_set1_eq _ _ _
                show aw_W _ _ _ _ 76 lv65 [] _ _
                refine aw_inc aj_d275 rfl hlv65_4 (a := x25.toInt) rfl (by omega) (by omega) (by decide) (by decide) (fun x66 ex66 => ?_)
                obtain ⟨lv67, elv67⟩ : ∃ l, l = aj_set1 lv65 4 (.int x66) := ⟨_, rfl⟩
                rw [← elv67]
                have hlv67_0 : aj_lv lv67 0 = some (.ref 117) := cw_e1 elv67 hlv65_0 (by decide) (Or.inl (by decide))
                have hlv67_1 : aj_lv lv67 1 = some (.int x) := cw_e1 elv67 hlv65_1 (by decide) (Or.inl (by decide))
                have hlv67_2 : aj_lv lv67 2 = some (.int y) := cw_e1 elv67 hlv65_2 (by decide) (Or.inl (by decide))
                have hlv67_3 : aj_lv lv67 3 = some (.int x64) := cw_e1 elv67 hlv65_3 (by decide) (Or.inr rfl)
                have hlv67_4 : aj_lv lv67 4 = some (.int x66) := by rw [elv67]; exact ak_set1_eq _ _ _
                show aw_W _ _ _ _ 79 lv67 [] _ _
                refine aw_n aj_d275 rfl rfl ?_
                exact ihL34_20 lv67 (x64) (x66) hlv67_0 hlv67_1 hlv67_2 hlv67_3 hlv67_4 (by omega) (by omega) (by rw [show (x66.toInt).toNat = (x25.toInt).toNat + 1 by omega]; omega) (by omega) (by omega)
      exact L34_20 _ lv20 (x18) ((Int32.ofInt 0)) hlv20_0 hlv20_1 hlv20_2 hlv20_3 hlv20_4 (by omega) (by first | omega | decide) (show (x18).toInt = (S.2.2.1 15 (x.toInt).toNat).toInt + (0 : Int) by omega) (show (0 : Int) ≤ (S.2.2.1 15 ((x.toInt).toNat + 1)).toInt by omega) (Nat.lt_succ_self _)
    · have q17 : x16.toInt < (0 : Int) := aw_t_ge (a := x16.toInt) (b := (0 : Int)) rfl rfl q17
      refine aw_n aj_d275 rfl rfl ?_
      refine aw_n aj_d275 rfl rfl ?_
      refine aw_t0 (j := 3) aj_d275 rfl (by decide) rfl ?_
      obtain ⟨lv68, elv68⟩ : ∃ l, l = aj_set1 lv1 3 (.int (Int32.ofInt (-1))) := ⟨_, rfl⟩
      rw [← elv68]
      have hlv68_0 : aj_lv lv68 0 = some (.ref 117) := cw_e1 elv68 hlv1_0 (by decide) (Or.inl (by decide))
      have hlv68_1 : aj_lv lv68 1 = some (.int x) := cw_e1 elv68 hlv1_1 (by decide) (Or.inl (by decide))
      have hlv68_2 : aj_lv lv68 2 = some (.int y) := cw_e1 elv68 hlv1_2 (by decide) (Or.inr rfl)
      have hlv68_3 : aj_lv lv68 3 = some (.int (Int32.ofInt (-1))) := by rw [elv68]; exact ak_set1_eq _ _ _
      show aw_W _ _ _ _ 31 lv68 [] _ _
      refine aw_n aj_d275 rfl rfl ?_
      refine aw_t0 (j := 4) aj_d275 rfl (by decide) rfl ?_
      obtain ⟨lv69, elv69⟩ : ∃ l, l = aj_set1 lv68 4 (.int (Int32.ofInt 0)) := ⟨_, rfl⟩
      rw [← elv69]
      have hlv69_0 : aj_lv lv69 0 = some (.ref 117) := cw_e1 elv69 hlv68_0 (by decide) (Or.inl (by decide))
      have hlv69_1 : aj_lv lv69 1 = some (.int x) := cw_e1 elv69 hlv68_1 (by decide) (Or.inl (by decide))
      have hlv69_2 : aj_lv lv69 2 = some (.int y) := cw_e1 elv69 hlv68_2 (by decide) (Or.inl (by decide))
      have hlv69_3 : aj_lv lv69 3 = some (.int (Int32.ofInt (-1))) := cw_e1 elv69 hlv68_3 (by decide) (Or.inr rfl)
      have hlv69_4 : aj_lv lv69 4 = some (.int (Int32.ofInt 0)) := by rw [elv69]; exact ak_set1_eq _ _ _
      show aw_W _ _ _ _ 34 lv69 [] _ _
      refine aw_l0 aj_d275 rfl rfl hlv69_3 ?_
      refine aw_z (tgt := 82) aj_d275 rfl rfl (fun q70 => ?_) (fun q70 => ?_)
      · have q70 : (-1 : Int) < (0 : Int) := aw_t_lt (a := (-1 : Int)) (b := (0 : Int)) rfl rfl q70
        refine aw_l0 aj_d275 rfl rfl hlv69_3 ?_
        refine aw_n aj_d275 rfl rfl ?_
        refine aw_c (tgt := 96) aj_d275 rfl rfl (fun q71 => ?_) (fun q71 => ?_)
        · have q71 : (-1 : Int) ≤ (6 : Int) := aw_t_le (a := (-1 : Int)) (b := (6 : Int)) rfl rfl q71
          refine aw_l0 aj_d275 rfl rfl hlv69_3 ?_
          refine aw_z (tgt := 109) aj_d275 rfl rfl (fun q72 => ?_) (fun q72 => ?_)
          · have q72 : (-1 : Int) ≥ (0 : Int) := aw_t_ge (a := (-1 : Int)) (b := (0 : Int)) rfl rfl q72
            exfalso
            omega
          · have q72 : (-1 : Int) < (0 : Int) := aw_t_ge (a := (-1 : Int)) (b := (0 : Int)) rfl rfl q72
            refine aw_l2 aj_d275 rfl rfl hlv69_0 ?_
            refine aw_g hU.1 aj_d275 rfl rfl (by decide) (v := .ref 132) rfl ?_
            refine aw_l0 aj_d275 rfl rfl hlv69_1 ?_
            refine aw_n aj_d275 rfl rfl ?_
            refine aw_st (k := 15) hU.1 aj_d275 (Or.inl ⟨rfl, rfl⟩) rfl (by decide) (by decide) rfl (a := x.toInt) rfl (by omega) (by omega) ?_
            have hI73 := aw_I_a (aw_UV hU aw_Gs_sm) (k := 15) (j := (x.toInt).toNat) (v := aj_nar 0 (Int32.ofInt (-1))) hI2 (by decide) (by decide) (by decide) rfl (by decide) (by decide) rfl (aw_bp (a := (-1 : Int)) rfl (by omega) (by omega))
            have fr74 := aw_fr_a (k := 15) (j := (x.toInt).toNat) (v := aj_nar 0 (Int32.ofInt (-1))) (by decide) fr3
            refine aw_n aj_d275 rfl rfl ?_
            refine aw_e aj_d275 rfl rfl ?_
            have b75 : 0 ≤ (S.1 30).toInt ∧ (S.1 30).toInt ≤ 1001 := aw_bd_f hs (hI2).1 (by decide) rfl
            exact ⟨(hI73).1, fr74, Or.inr ⟨_, rfl, rfl, (aw_G_sm hI73.2 hG), (show _ + 0 ≤ ((S.1 30)).toInt by omega)⟩⟩
        · have q71 : (-1 : Int) > (6 : Int) := aw_t_le (a := (-1 : Int)) (b := (6 : Int)) rfl rfl q71
          exfalso
          omega
      · have q70 : (-1 : Int) ≥ (0 : Int) := aw_t_lt (a := (-1 : Int)) (b := (0 : Int)) rfl rfl q70
        exfalso
        omega
theorem ar_done (hU : aw_U tb s h) (hT : ak_Ty ak_TN s (aj_mh h S)) (hG : aw_G g S) (hd : 6 ≤ d) (h50 : 1 ≤ (S.1 50).toInt) (h51 : 22 ≤ (S.1 51).toInt) : aw_K tb h d 274 [.ref 117] S (ar_QB s h [24, 25, 31, 50, 51] [14, 15, 16, 17, 18, 19] S (fun S' => aw_G g S' ∧ (S.1 30).toInt ≤ (S'.1 30).toInt) (fun S' => aw_G g S' ∧ (S.1 30).toInt ≤ (S'.1 30).toInt ∧ (S'.1 50).toInt = (S.1 50).toInt - 1 ∧ (S'.1 51).toInt = (S.1 51).toInt - 1)) := by
  obtain ⟨d, rfl⟩ : ∃ e, d = e + 1 := ⟨d - 1, by omega⟩
  have hs : aw_sT s := aw_hy_sT hU.2.2
  refine aw_m aj_m274_at rfl (Nat.le_of_ble_eq_true rfl) ?_
  show aw_W _ _ _ _ 0 [(0, .ref 117)] [] _ _
  obtain ⟨lv76, elv76⟩ : ∃ l : aj_V, l = [(0, .ref 117)] := ⟨_, rfl⟩
  rw [← elv76]
  have hlv76_0 : aj_lv lv76 0 = some (.ref 117) := by rw [elv76]; rfl
  have hI77 : aw_I s h (aw_sm S) S := ⟨hT, aw_sm_rf⟩
  have fr78 : aw_fr [24, 25, 31, 50, 51] [14, 15, 16, 17, 18, 19] S S := aw_fr_rf
  refine aw_l2 aj_d274 rfl rfl hlv76_0 ?_
  refine aw_n aj_d274 rfl rfl ?_
  have b79 : 0 ≤ (S.1 50).toInt ∧ (S.1 50).toInt ≤ 63 := aw_bd_f hs (hI77).1 (by decide) rfl
  refine aw_g hU.1 aj_d274 rfl rfl (by decide) (v := .int (S.1 50)) rfl ?_
  refine aw_n aj_d274 rfl rfl ?_
  refine aw_sub aj_d274 rfl (a := (S.1 50).toInt) (b := (1 : Int)) rfl rfl (by omega) (by omega) (fun x80 ex80 => ?_)
  refine aw_p hU.1 aj_d274 rfl rfl (by decide) rfl ?_
  have hI81 := aw_I_f (aw_UV hU aw_Gs_sm) (k := 50) (v := x80) hI77 (by decide) (by decide) rfl (aw_bp (a := x80.toInt) rfl (by omega) (by omega))
  have fr82 := aw_fr_f (k := 50) (v := x80) (by decide) fr78
  refine aw_l2 aj_d274 rfl rfl hlv76_0 ?_
  refine aw_g hU.1 aj_d274 rfl rfl (by decide) (v := .ref 140) rfl ?_
  refine aw_l2 aj_d274 rfl rfl hlv76_0 ?_
  refine aw_g hU.1 aj_d274 rfl rfl (by decide) (v := .int x80) rfl ?_
  refine aw_ld (k := 23) hU.1 aj_d274 (Or.inl ⟨rfl, rfl⟩) rfl (by decide) (by decide) rfl (a := x80.toInt) rfl (by omega) (by omega) (fun x83 ex83 => ?_)
  refine aw_t0 (j := 1) aj_d274 rfl (by decide) rfl ?_
  obtain ⟨lv84, elv84⟩ : ∃ l, l = aj_set1 lv76 1 (.int x83) := ⟨_, rfl⟩
  rw [← elv84]
  have hlv84_0 : aj_lv lv84 0 = some (.ref 117) := cw_e1 elv84 hlv76_0 (by decide) (Or.inr rfl)
  have hlv84_1 : aj_lv lv84 1 = some (.int x83) := by rw [elv84]; exact ak_set1_eq _ _ _
  show aw_W _ _ _ _ 20 lv84 [] _ _
  refine aw_l2 aj_d274 rfl rfl hlv84_0 ?_
  refine aw_g hU.1 aj_d274 rfl rfl (by decide) (v := .ref 141) rfl ?_
  refine aw_l2 aj_d274 rfl rfl hlv84_0 ?_
  refine aw_g hU.1 aj_d274 rfl rfl (by decide) (v := .int x80) rfl ?_
  refine aw_ld (k := 24) hU.1 aj_d274 (Or.inl ⟨rfl, rfl⟩) rfl (by decide) (by decide) rfl (a := x80.toInt) rfl (by omega) (by omega) (fun x85 ex85 => ?_)
  refine aw_t0 (j := 2) aj_d274 rfl (by decide) rfl ?_
  obtain ⟨lv86, elv86⟩ : ∃ l, l = aj_set1 lv84 2 (.int x85) := ⟨_, rfl⟩
  rw [← elv86]
  have hlv86_0 : aj_lv lv86 0 = some (.ref 117) := cw_e1 elv86 hlv84_0 (by decide) (Or.inl (by decide))
  have hlv86_1 : aj_lv lv86 1 = some (.int x83) := cw_e1 elv86 hlv84_1 (by decide) (Or.inr rfl)
  have hlv86_2 : aj_lv lv86 2 = some (.int x85) := by rw [elv86]; exact ak_set1_eq _ _ _
  show aw_W _ _ _ _ 30 lv86 [] _ _
  refine aw_l2 aj_d274 rfl rfl hlv86_0 ?_
  refine aw_n aj_d274 rfl rfl ?_
  have b87 : 0 ≤ (S.1 51).toInt ∧ (S.1 51).toInt ≤ 48 := aw_bd_f hs (hI77).1 (by decide) rfl
  refine aw_g hU.1 aj_d274 rfl rfl (by decide) (v := .int (S.1 51)) rfl ?_
  refine aw_n aj_d274 rfl rfl ?_
  refine aw_sub aj_d274 rfl (a := (S.1 51).toInt) (b := (1 : Int)) rfl rfl (by omega) (by omega) (fun x88 ex88 => ?_)
  refine aw_p hU.1 aj_d274 rfl rfl (by decide) rfl ?_
  have hI89 := aw_I_f (aw_UV hU aw_Gs_sm) (k := 51) (v := x88) hI81 (by decide) (by decide) rfl (aw_bp (a := x88.toInt) rfl (by omega) (by omega))
  have fr90 := aw_fr_f (k := 51) (v := x88) (by decide) fr82
  refine aw_l2 aj_d274 rfl rfl hlv86_0 ?_
  refine aw_g hU.1 aj_d274 rfl rfl (by decide) (v := .int x88) rfl ?_
  refine aw_n aj_d274 rfl rfl ?_
  refine aw_sub aj_d274 rfl (a := x88.toInt) (b := (1 : Int)) rfl rfl (by omega) (by omega) (fun x91 ex91 => ?_)
  refine aw_t0 (j := 3) aj_d274 rfl (by decide) rfl ?_
  obtain ⟨lv92, elv92⟩ : ∃ l, l = aj_set1 lv86 3 (.int x91) := ⟨_, rfl⟩
  rw [← elv92]
  have hlv92_0 : aj_lv lv92 0 = some (.ref 117) := cw_e1 elv92 hlv86_0 (by decide) (Or.inl (by decide))
  have hlv92_1 : aj_lv lv92 1 = some (.int x83) := cw_e1 elv92 hlv86_1 (by decide) (Or.inl (by decide))
  have hlv92_2 : aj_lv lv92 2 = some (.int x85) := cw_e1 elv92 hlv86_2 (by decide) (Or.inr rfl)
  have hlv92_3 : aj_lv lv92 3 = some (.int x91) := by rw [elv92]; exact ak_set1_eq _ _ _
  show aw_W _ _ _ _ 47 lv92 [] _ _
  refine aw_l0 aj_d274 rfl rfl hlv92_1 ?_
  refine aw_n aj_d274 rfl rfl ?_
  refine aw_c (tgt := 60) aj_d274 rfl rfl (fun q93 => ?_) (fun q93 => ?_)
  · have q93 : x83.toInt ≠ (42 : Int) := aw_t_ne (a := x83.toInt) (b := (42 : Int)) rfl rfl q93
    refine aw_l2 aj_d274 rfl rfl hlv92_0 ?_
    refine aw_g hU.1 aj_d274 rfl rfl (by decide) (v := .ref 132) rfl ?_
    refine aw_l0 aj_d274 rfl rfl hlv92_3 ?_
    refine aw_ld (k := 15) hU.1 aj_d274 (Or.inl ⟨rfl, rfl⟩) rfl (by decide) (by decide) rfl (a := x91.toInt) rfl (by omega) (by omega) (fun x94 ex94 => ?_)
    have bx94 : (-1) ≤ x94.toInt ∧ x94.toInt ≤ 6 := by
      rw [ex94]
      exact aw_bd_a hs (hI89).1 (k := 15) (by decide) (by decide) rfl (by decide) rfl (by omega)
    refine aw_z (tgt := 84) aj_d274 rfl rfl (fun q95 => ?_) (fun q95 => ?_)
    · have q95 : x94.toInt < (0 : Int) := aw_t_lt (a := x94.toInt) (b := (0 : Int)) rfl rfl q95
      refine aw_n aj_d274 rfl rfl ?_
      refine aw_t0 (j := 4) aj_d274 rfl (by decide) rfl ?_
      obtain ⟨lv96, elv96⟩ : ∃ l, l = aj_set1 lv92 4 (.int (Int32.ofInt 0)) := ⟨_, rfl⟩
      rw [← elv96]
      have hlv96_0 : aj_lv lv96 0 = some (.ref 117) := cw_e1 elv96 hlv92_0 (by decide) (Or.inl (by decide))
      have hlv96_1 : aj_lv lv96 1 = some (.int x83) := cw_e1 elv96 hlv92_1 (by decide) (Or.inl (by decide))
      have hlv96_2 : aj_lv lv96 2 = some (.int x85) := cw_e1 elv96 hlv92_2 (by decide) (Or.inl (by decide))
      have hlv96_3 : aj_lv lv96 3 = some (.int x91) := cw_e1 elv96 hlv92_3 (by decide) (Or.inr rfl)
      have hlv96_4 : aj_lv lv96 4 = some (.int (Int32.ofInt 0)) := by rw [elv96]; exact ak_set1_eq _ _ _
      show aw_W _ _ _ _ 87 lv96 [] _ _
      refine aw_l0 aj_d274 rfl rfl hlv96_4 ?_
      refine aw_z (tgt := 109) aj_d274 rfl rfl (fun q97 => ?_) (fun q97 => ?_)
      · have q97 : (0 : Int) = (0 : Int) := aw_t_eq (a := (0 : Int)) (b := (0 : Int)) rfl rfl q97
        refine aw_l0 aj_d274 rfl rfl hlv96_4 ?_
        refine aw_z (tgt := 125) aj_d274 rfl rfl (fun q98 => ?_) (fun q98 => ?_)
        · have q98 : (0 : Int) = (0 : Int) := aw_t_eq (a := (0 : Int)) (b := (0 : Int)) rfl rfl q98
          refine aw_l2 aj_d274 rfl rfl hlv96_0 ?_
          refine aw_g hU.1 aj_d274 rfl rfl (by decide) (v := .ref 132) rfl ?_
          refine aw_l0 aj_d274 rfl rfl hlv96_3 ?_
          refine aw_n aj_d274 rfl rfl ?_
          refine aw_st (k := 15) hU.1 aj_d274 (Or.inl ⟨rfl, rfl⟩) rfl (by decide) (by decide) rfl (a := x91.toInt) rfl (by omega) (by omega) ?_
          have hI99 := aw_I_a (aw_UV hU aw_Gs_sm) (k := 15) (j := (x91.toInt).toNat) (v := aj_nar 0 (Int32.ofInt (-1))) hI89 (by decide) (by decide) (by decide) rfl (by decide) (by decide) rfl (aw_bp (a := (-1 : Int)) rfl (by omega) (by omega))
          have fr100 := aw_fr_a (k := 15) (j := (x91.toInt).toNat) (v := aj_nar 0 (Int32.ofInt (-1))) (by decide) fr90
          refine aw_n aj_d274 rfl rfl ?_
          refine aw_e aj_d274 rfl rfl ?_
          have b101 : 0 ≤ (S.1 30).toInt ∧ (S.1 30).toInt ≤ 1001 := aw_bd_f hs (hI77).1 (by decide) rfl
          exact ⟨(hI99).1, fr100, Or.inr ⟨_, rfl, rfl, (aw_G_sm hI99.2 hG), (show _ ≤ ((S.1 30)).toInt by omega), (show (x80).toInt = _ by omega), (show (x88).toInt = _ by omega)⟩⟩
        · have q98 : (0 : Int) ≠ (0 : Int) := aw_t_eq (a := (0 : Int)) (b := (0 : Int)) rfl rfl q98
          exfalso
          omega
      · have q97 : (0 : Int) ≠ (0 : Int) := aw_t_eq (a := (0 : Int)) (b := (0 : Int)) rfl rfl q97
        exfalso
        omega
    · have q95 : x94.toInt ≥ (0 : Int) := aw_t_lt (a := x94.toInt) (b := (0 : Int)) rfl rfl q95
      refine aw_l2 aj_d274 rfl rfl hlv92_0 ?_
      refine aw_g hU.1 aj_d274 rfl rfl (by decide) (v := .ref 132) rfl ?_
      refine aw_l0 aj_d274 rfl rfl hlv92_3 ?_
      refine aw_n aj_d274 rfl rfl ?_
      refine aw_add aj_d274 rfl (a := x91.toInt) (b := (1 : Int)) rfl rfl (by omega) (by omega) (fun x102 ex102 => ?_)
      refine aw_ld (k := 15) hU.1 aj_d274 (Or.inl ⟨rfl, rfl⟩) rfl (by decide) (by decide) rfl (a := x102.toInt) rfl (by omega) (by omega) (fun x103 ex103 => ?_)
      have bx103 : (-1) ≤ x103.toInt ∧ x103.toInt ≤ 6 := by
        rw [ex103]
        exact aw_bd_a hs (hI89).1 (k := 15) (by decide) (by decide) rfl (by decide) rfl (by omega)
      refine aw_z (tgt := 84) aj_d274 rfl rfl (fun q104 => ?_) (fun q104 => ?_)
      · have q104 : x103.toInt < (0 : Int) := aw_t_lt (a := x103.toInt) (b := (0 : Int)) rfl rfl q104
        refine aw_n aj_d274 rfl rfl ?_
        refine aw_t0 (j := 4) aj_d274 rfl (by decide) rfl ?_
        obtain ⟨lv105, elv105⟩ : ∃ l, l = aj_set1 lv92 4 (.int (Int32.ofInt 0)) := ⟨_, rfl⟩
        rw [← elv105]
        have hlv105_0 : aj_lv lv105 0 = some (.ref 117) := cw_e1 elv105 hlv92_0 (by decide) (Or.inl (by decide))
        have hlv105_1 : aj_lv lv105 1 = some (.int x83) := cw_e1 elv105 hlv92_1 (by decide) (Or.inl (by decide))
        have hlv105_2 : aj_lv lv105 2 = some (.int x85) := cw_e1 elv105 hlv92_2 (by decide) (Or.inl (by decide))
        have hlv105_3 : aj_lv lv105 3 = some (.int x91) := cw_e1 elv105 hlv92_3 (by decide) (Or.inr rfl)
        have hlv105_4 : aj_lv lv105 4 = some (.int (Int32.ofInt 0)) := by rw [elv105]; exact ak_set1_eq _ _ _
        show aw_W _ _ _ _ 87 lv105 [] _ _
        refine aw_l0 aj_d274 rfl rfl hlv105_4 ?_
        refine aw_z (tgt := 109) aj_d274 rfl rfl (fun q106 => ?_) (fun q106 => ?_)
        · have q106 : (0 : Int) = (0 : Int) := aw_t_eq (a := (0 : Int)) (b := (0 : Int)) rfl rfl q106
          refine aw_l0 aj_d274 rfl rfl hlv105_4 ?_
          refine aw_z (tgt := 125) aj_d274 rfl rfl (fun q107 => ?_) (fun q107 => ?_)
          · have q107 : (0 : Int) = (0 : Int) := aw_t_eq (a := (0 : Int)) (b := (0 : Int)) rfl rfl q107
            refine aw_l2 aj_d274 rfl rfl hlv105_0 ?_
            refine aw_g hU.1 aj_d274 rfl rfl (by decide) (v := .ref 132) rfl ?_
            refine aw_l0 aj_d274 rfl rfl hlv105_3 ?_
            refine aw_n aj_d274 rfl rfl ?_
            refine aw_st (k := 15) hU.1 aj_d274 (Or.inl ⟨rfl, rfl⟩) rfl (by decide) (by decide) rfl (a := x91.toInt) rfl (by omega) (by omega) ?_
            have hI108 := aw_I_a (aw_UV hU aw_Gs_sm) (k := 15) (j := (x91.toInt).toNat) (v := aj_nar 0 (Int32.ofInt (-1))) hI89 (by decide) (by decide) (by decide) rfl (by decide) (by decide) rfl (aw_bp (a := (-1 : Int)) rfl (by omega) (by omega))
            have fr109 := aw_fr_a (k := 15) (j := (x91.toInt).toNat) (v := aj_nar 0 (Int32.ofInt (-1))) (by decide) fr90
            refine aw_n aj_d274 rfl rfl ?_
            refine aw_e aj_d274 rfl rfl ?_
            have b110 : 0 ≤ (S.1 30).toInt ∧ (S.1 30).toInt ≤ 1001 := aw_bd_f hs (hI77).1 (by decide) rfl
            exact ⟨(hI108).1, fr109, Or.inr ⟨_, rfl, rfl, (aw_G_sm hI108.2 hG), (show _ ≤ ((S.1 30)).toInt by omega), (show (x80).toInt = _ by omega), (show (x88).toInt = _ by omega)⟩⟩
          · have q107 : (0 : Int) ≠ (0 : Int) := aw_t_eq (a := (0 : Int)) (b := (0 : Int)) rfl rfl q107
            exfalso
            omega
        · have q106 : (0 : Int) ≠ (0 : Int) := aw_t_eq (a := (0 : Int)) (b := (0 : Int)) rfl rfl q106
          exfalso
          omega
      · have q104 : x103.toInt ≥ (0 : Int) := aw_t_lt (a := x103.toInt) (b := (0 : Int)) rfl rfl q104
        refine aw_n aj_d274 rfl rfl ?_
        refine aw_n aj_d274 rfl rfl ?_
        refine aw_t0 (j := 4) aj_d274 rfl (by decide) rfl ?_
        obtain ⟨lv111, elv111⟩ : ∃ l, l = aj_set1 lv92 4 (.int (Int32.ofInt 1)) := ⟨_, rfl⟩
        rw [← elv111]
        have hlv111_0 : aj_lv lv111 0 = some (.ref 117) := cw_e1 elv111 hlv92_0 (by decide) (Or.inl (by decide))
        have hlv111_1 : aj_lv lv111 1 = some (.int x83) := cw_e1 elv111 hlv92_1 (by decide) (Or.inl (by decide))
        have hlv111_2 : aj_lv lv111 2 = some (.int x85) := cw_e1 elv111 hlv92_2 (by decide) (Or.inl (by decide))
        have hlv111_3 : aj_lv lv111 3 = some (.int x91) := cw_e1 elv111 hlv92_3 (by decide) (Or.inr rfl)
        have hlv111_4 : aj_lv lv111 4 = some (.int (Int32.ofInt 1)) := by rw [elv111]; exact ak_set1_eq _ _ _
        show aw_W _ _ _ _ 87 lv111 [] _ _
        refine aw_l0 aj_d274 rfl rfl hlv111_4 ?_
        refine aw_z (tgt := 109) aj_d274 rfl rfl (fun q112 => ?_) (fun q112 => ?_)
        · have q112 : (1 : Int) = (0 : Int) := aw_t_eq (a := (1 : Int)) (b := (0 : Int)) rfl rfl q112
          exfalso
          omega
        · have q112 : (1 : Int) ≠ (0 : Int) := aw_t_eq (a := (1 : Int)) (b := (0 : Int)) rfl rfl q112
          refine aw_l2 aj_d274 rfl rfl hlv111_0 ?_
          refine aw_l0 aj_d274 rfl rfl hlv111_3 ?_
          refine aw_l0 aj_d274 rfl rfl hlv111_3 ?_
          refine aw_n aj_d274 rfl rfl ?_
          refine aw_add aj_d274 rfl (a := x91.toInt) (b := (1 : Int)) rfl rfl (by omega) (by omega) (fun x113 ex113 => ?_)
          have b114 : 0 ≤ (S.1 30).toInt ∧ (S.1 30).toInt ≤ 1001 := aw_bd_f hs (hI77).1 (by decide) rfl
          refine aw_k hU.1 aj_d274 rfl rfl [_, _] rfl rfl rfl (Nat.le_of_ble_eq_true rfl) (aw_toK hU aw_Gs_sm (con := ac_c277) (by omega) (ar_277 hU.2.1 (aw_SPc hU.2.2 aw_Gs_sm) aw_kpc) ⟨(hI89).1, aw_sm_rf⟩ ⟨(aw_g117 hU.2.2), (cw_gw (a := x91.toInt) rfl (by omega) (by omega)), (cw_gw (a := x113.toInt) rfl (by omega) (by omega)), trivial⟩ (fun e he => nomatch he)) ?_
          rintro r115 S115 ⟨hr115, hJ115, fc115, po115, -⟩
          have hT115 := hJ115.1
          replace fc115 := aw_fr_sub (F' := []) (A' := []) (by decide) (by decide) fc115
          rcases ar_bool hU (hI89).1 hT115 hr115 po115 with ⟨b115, rfl, hb115, cf115⟩ | ⟨b115, rfl, hb115, ck115, gq115⟩
          · skip
            clear cf115
            have fr116 := aw_fr_tr fr90 (aw_fr_sub (F := []) (A := []) (by decide) (by decide) fc115)
            have hI117 : aw_I s h (aw_sm S) S115 := ⟨hT115, aw_sm_tr hI89.2 (aw_fr_sm (by decide) (by decide) (by decide) (F := []) (A := []) fc115)⟩
            show aw_W _ _ _ _ 100 lv111 [.int b115] _ _
            refine aw_z (tgt := 109) aj_d274 rfl rfl (fun q118 => ?_) (fun q118 => ?_)
            · have q118 : (0 : Int) ≠ (0 : Int) := aw_t_ne (a := (0 : Int)) (b := (0 : Int)) hb115 rfl q118
              exfalso
              omega
            · have q118 : (0 : Int) = (0 : Int) := aw_t_ne (a := (0 : Int)) (b := (0 : Int)) hb115 rfl q118
              refine aw_l2 aj_d274 rfl rfl hlv111_0 ?_
              refine aw_n aj_d274 rfl rfl ?_
              refine aw_l0 aj_d274 rfl rfl hlv111_2 ?_
              refine aw_k hU.1 aj_d274 rfl rfl [_, _] rfl rfl rfl (Nat.le_of_ble_eq_true rfl) (ar_tell hU (hI117).1 (by omega) (a := (5 : Int)) rfl (by omega)) ?_
              rintro _ S119 ⟨hT119, fc119, rfl, hz119, hw119⟩
              have hG119 := aw_G_tell (aw_G_sm hI117.2 hG) fc119 hz119
              have b120 : 0 ≤ (S.1 32).toInt ∧ (S.1 32).toInt ≤ 1 := aw_bd_f hs (hI77).1 (by decide) rfl
              have c121 : (S115.1 32).toInt = (S.1 32).toInt := (congrArg Int32.toInt (fc115.1 32 (by decide)).1).trans rfl
              have b122 : 0 ≤ (S115.1 32).toInt ∧ (S115.1 32).toInt ≤ 1 := aw_bd_f hs (hI117).1 (by decide) rfl
              have hz119 : ((S115.1 32)).toInt = 0 → (S119.1 24).toInt ≠ 0 := hz119
              have fr123 := aw_fr_tr fr116 (aw_fr_sub (F := [24, 25]) (A := []) (by decide) (by decide) fc119)
              have hI124 : aw_I s h (aw_sm S119) S119 := ⟨hT119, aw_sm_rf⟩
              show aw_W _ _ _ _ 109 lv111 [] _ _
              refine aw_l0 aj_d274 rfl rfl hlv111_4 ?_
              refine aw_z (tgt := 125) aj_d274 rfl rfl (fun q125 => ?_) (fun q125 => ?_)
              · have q125 : (1 : Int) = (0 : Int) := aw_t_eq (a := (1 : Int)) (b := (0 : Int)) rfl rfl q125
                exfalso
                omega
              · have q125 : (1 : Int) ≠ (0 : Int) := aw_t_eq (a := (1 : Int)) (b := (0 : Int)) rfl rfl q125
                refine aw_l2 aj_d274 rfl rfl hlv111_0 ?_
                refine aw_l0 aj_d274 rfl rfl hlv111_3 ?_
                refine aw_l0 aj_d274 rfl rfl hlv111_3 ?_
                refine aw_n aj_d274 rfl rfl ?_
                refine aw_add aj_d274 rfl (a := x91.toInt) (b := (1 : Int)) rfl rfl (by omega) (by omega) (fun x126 ex126 => ?_)
                have c127 : (S115.1 30).toInt = (S.1 30).toInt := (congrArg Int32.toInt (fc115.1 30 (by decide)).1).trans rfl
                have b128 : 0 ≤ (S115.1 30).toInt ∧ (S115.1 30).toInt ≤ 1001 := aw_bd_f hs (hI117).1 (by decide) rfl
                have c129 : (S119.1 30).toInt = (S.1 30).toInt := (congrArg Int32.toInt (fc119.1 30 (by decide)).1).trans c127
                have b130 : 0 ≤ (S119.1 30).toInt ∧ (S119.1 30).toInt ≤ 1001 := aw_bd_f hs (hI124).1 (by decide) rfl
                refine aw_k hU.1 aj_d274 rfl rfl [_, _] rfl rfl rfl (Nat.le_of_ble_eq_true rfl) (aw_toK hU aw_Gs_sm (con := ac_c277) (by omega) (ar_277 hU.2.1 (aw_SPc hU.2.2 aw_Gs_sm) aw_kpc) ⟨(hI124).1, aw_sm_rf⟩ ⟨(aw_g117 hU.2.2), (cw_gw (a := x91.toInt) rfl (by omega) (by omega)), (cw_gw (a := x126.toInt) rfl (by omega) (by omega)), trivial⟩ (fun e he => nomatch he)) ?_
                rintro r131 S131 ⟨hr131, hJ131, fc131, po131, -⟩
                have hT131 := hJ131.1
                replace fc131 := aw_fr_sub (F' := []) (A' := []) (by decide) (by decide) fc131
                rcases ar_bool hU (hI124).1 hT131 hr131 po131 with ⟨b131, rfl, hb131, cf131⟩ | ⟨b131, rfl, hb131, ck131, gq131⟩
                · skip
                  clear cf131
                  have fr132 := aw_fr_tr fr123 (aw_fr_sub (F := []) (A := []) (by decide) (by decide) fc131)
                  have hI133 : aw_I s h (aw_sm S119) S131 := ⟨hT131, aw_sm_tr hI124.2 (aw_fr_sm (by decide) (by decide) (by decide) (F := []) (A := []) fc131)⟩
                  show aw_W _ _ _ _ 122 lv111 [.int b131] _ _
                  refine aw_z (tgt := 134) aj_d274 rfl rfl (fun q134 => ?_) (fun q134 => ?_)
                  · have q134 : (0 : Int) ≠ (0 : Int) := aw_t_ne (a := (0 : Int)) (b := (0 : Int)) hb131 rfl q134
                    exfalso
                    omega
                  · have q134 : (0 : Int) = (0 : Int) := aw_t_ne (a := (0 : Int)) (b := (0 : Int)) hb131 rfl q134
                    refine aw_l2 aj_d274 rfl rfl hlv111_0 ?_
                    refine aw_g hU.1 aj_d274 rfl rfl (by decide) (v := .ref 132) rfl ?_
                    refine aw_l0 aj_d274 rfl rfl hlv111_3 ?_
                    refine aw_n aj_d274 rfl rfl ?_
                    refine aw_st (k := 15) hU.1 aj_d274 (Or.inl ⟨rfl, rfl⟩) rfl (by decide) (by decide) rfl (a := x91.toInt) rfl (by omega) (by omega) ?_
                    have hI135 := aw_I_a (aw_UV hU aw_Gs_sm) (k := 15) (j := (x91.toInt).toNat) (v := aj_nar 0 (Int32.ofInt (-1))) hI133 (by decide) (by decide) (by decide) rfl (by decide) (by decide) rfl (aw_bp (a := (-1 : Int)) rfl (by omega) (by omega))
                    have fr136 := aw_fr_a (k := 15) (j := (x91.toInt).toNat) (v := aj_nar 0 (Int32.ofInt (-1))) (by decide) fr132
                    refine aw_n aj_d274 rfl rfl ?_
                    refine aw_e aj_d274 rfl rfl ?_
                    have c137 : (S131.1 30).toInt = (S.1 30).toInt := (congrArg Int32.toInt (fc131.1 30 (by decide)).1).trans c129
                    have b138 : 0 ≤ (S131.1 30).toInt ∧ (S131.1 30).toInt ≤ 1001 := aw_bd_f hs (hI133).1 (by decide) rfl
                    have c139 : (S115.1 50).toInt = x80.toInt := (congrArg Int32.toInt (fc115.1 50 (by decide)).1).trans rfl
                    have b140 : 0 ≤ (S115.1 50).toInt ∧ (S115.1 50).toInt ≤ 63 := aw_bd_f hs (hI117).1 (by decide) rfl
                    have c141 : (S119.1 50).toInt = x80.toInt := (congrArg Int32.toInt (fc119.1 50 (by decide)).1).trans c139
                    have b142 : 0 ≤ (S119.1 50).toInt ∧ (S119.1 50).toInt ≤ 63 := aw_bd_f hs (hI124).1 (by decide) rfl
                    have c143 : (S131.1 50).toInt = x80.toInt := (congrArg Int32.toInt (fc131.1 50 (by decide)).1).trans c141
                    have b144 : 0 ≤ (S131.1 50).toInt ∧ (S131.1 50).toInt ≤ 63 := aw_bd_f hs (hI133).1 (by decide) rfl
                    have c145 : (S115.1 51).toInt = x88.toInt := (congrArg Int32.toInt (fc115.1 51 (by decide)).1).trans rfl
                    have b146 : 0 ≤ (S115.1 51).toInt ∧ (S115.1 51).toInt ≤ 48 := aw_bd_f hs (hI117).1 (by decide) rfl
                    have c147 : (S119.1 51).toInt = x88.toInt := (congrArg Int32.toInt (fc119.1 51 (by decide)).1).trans c145
                    have b148 : 0 ≤ (S119.1 51).toInt ∧ (S119.1 51).toInt ≤ 48 := aw_bd_f hs (hI124).1 (by decide) rfl
                    have c149 : (S131.1 51).toInt = x88.toInt := (congrArg Int32.toInt (fc131.1 51 (by decide)).1).trans c147
                    have b150 : 0 ≤ (S131.1 51).toInt ∧ (S131.1 51).toInt ≤ 48 := aw_bd_f hs (hI133).1 (by decide) rfl
                    exact ⟨(hI135).1, fr136, Or.inr ⟨_, rfl, rfl, (aw_G_sm hI135.2 hG119), (show _ ≤ ((S131.1 30)).toInt by omega), (show ((S131.1 50)).toInt = _ by omega), (show ((S131.1 51)).toInt = _ by omega)⟩⟩
                · skip
                  have fr151 := aw_fr_tr fr123 (aw_fr_sub (F := []) (A := []) (by decide) (by decide) fc131)
                  have hI152 : aw_I s h (aw_sm S119) S131 := ⟨hT131, aw_sm_tr hI124.2 (aw_fr_sm (by decide) (by decide) (by decide) (F := []) (A := []) fc131)⟩
                  show aw_W _ _ _ _ 122 lv111 [.int b131] _ _
                  refine aw_z (tgt := 134) aj_d274 rfl rfl (fun q153 => ?_) (fun q153 => ?_)
                  · have q153 : (1 : Int) ≠ (0 : Int) := aw_t_ne (a := (1 : Int)) (b := (0 : Int)) hb131 rfl q153
                    refine aw_l2 aj_d274 rfl rfl hlv111_0 ?_
                    have c154 : (S119.1 32).toInt = (S.1 32).toInt := (congrArg Int32.toInt (fc119.1 32 (by decide)).1).trans c121
                    have b155 : 0 ≤ (S119.1 32).toInt ∧ (S119.1 32).toInt ≤ 1 := aw_bd_f hs (hI124).1 (by decide) rfl
                    have c156 : (S131.1 32).toInt = (S.1 32).toInt := (congrArg Int32.toInt (fc131.1 32 (by decide)).1).trans c154
                    have b157 : 0 ≤ (S131.1 32).toInt ∧ (S131.1 32).toInt ≤ 1 := aw_bd_f hs (hI152).1 (by decide) rfl
                    refine aw_g hU.1 aj_d274 rfl rfl (by decide) (v := .int (S131.1 32)) rfl ?_
                    refine aw_z (tgt := 167) aj_d274 rfl rfl (fun q158 => ?_) (fun q158 => ?_)
                    · have q158 : (S.1 32).toInt = (0 : Int) := aw_t_eq (a := (S.1 32).toInt) (b := (0 : Int)) c156 rfl q158
                      refine aw_n aj_d274 rfl rfl ?_
                      refine aw_n aj_d274 rfl rfl ?_
                      refine aw_e aj_d274 rfl rfl ?_
                      have c159 : (S131.1 30).toInt = (S.1 30).toInt := (congrArg Int32.toInt (fc131.1 30 (by decide)).1).trans c129
                      have b160 : 0 ≤ (S131.1 30).toInt ∧ (S131.1 30).toInt ≤ 1001 := aw_bd_f hs (hI152).1 (by decide) rfl
                      have c161 : (S115.1 50).toInt = x80.toInt := (congrArg Int32.toInt (fc115.1 50 (by decide)).1).trans rfl
                      have b162 : 0 ≤ (S115.1 50).toInt ∧ (S115.1 50).toInt ≤ 63 := aw_bd_f hs (hI117).1 (by decide) rfl
                      have c163 : (S119.1 50).toInt = x80.toInt := (congrArg Int32.toInt (fc119.1 50 (by decide)).1).trans c161
                      have b164 : 0 ≤ (S119.1 50).toInt ∧ (S119.1 50).toInt ≤ 63 := aw_bd_f hs (hI124).1 (by decide) rfl
                      have c165 : (S131.1 50).toInt = x80.toInt := (congrArg Int32.toInt (fc131.1 50 (by decide)).1).trans c163
                      have b166 : 0 ≤ (S131.1 50).toInt ∧ (S131.1 50).toInt ≤ 63 := aw_bd_f hs (hI152).1 (by decide) rfl
                      have c167 : (S115.1 51).toInt = x88.toInt := (congrArg Int32.toInt (fc115.1 51 (by decide)).1).trans rfl
                      have b168 : 0 ≤ (S115.1 51).toInt ∧ (S115.1 51).toInt ≤ 48 := aw_bd_f hs (hI117).1 (by decide) rfl
                      have c169 : (S119.1 51).toInt = x88.toInt := (congrArg Int32.toInt (fc119.1 51 (by decide)).1).trans c167
                      have b170 : 0 ≤ (S119.1 51).toInt ∧ (S119.1 51).toInt ≤ 48 := aw_bd_f hs (hI124).1 (by decide) rfl
                      have c171 : (S131.1 51).toInt = x88.toInt := (congrArg Int32.toInt (fc131.1 51 (by decide)).1).trans c169
                      have b172 : 0 ≤ (S131.1 51).toInt ∧ (S131.1 51).toInt ≤ 48 := aw_bd_f hs (hI152).1 (by decide) rfl
                      exact ⟨(hI152).1, fr151, Or.inr ⟨_, rfl, rfl, (aw_G_sm hI152.2 hG119), (show _ ≤ ((S131.1 30)).toInt by omega), (show ((S131.1 50)).toInt = _ by omega), (show ((S131.1 51)).toInt = _ by omega)⟩⟩
                    · have q158 : (S.1 32).toInt ≠ (0 : Int) := aw_t_eq (a := (S.1 32).toInt) (b := (0 : Int)) c156 rfl q158
                      refine aw_l0 aj_d274 rfl rfl hlv111_1 ?_
                      refine aw_n aj_d274 rfl rfl ?_
                      refine aw_c (tgt := 159) aj_d274 rfl rfl (fun q173 => ?_) (fun q173 => ?_)
                      · have q173 : x83.toInt ≠ (43 : Int) := aw_t_ne (a := x83.toInt) (b := (43 : Int)) rfl rfl q173
                        refine aw_l2 aj_d274 rfl rfl hlv111_0 ?_
                        refine aw_l0 aj_d274 rfl rfl hlv111_3 ?_
                        have c174 : (S131.1 30).toInt = (S.1 30).toInt := (congrArg Int32.toInt (fc131.1 30 (by decide)).1).trans c129
                        have b175 : 0 ≤ (S131.1 30).toInt ∧ (S131.1 30).toInt ≤ 1001 := aw_bd_f hs (hI152).1 (by decide) rfl
                        refine aw_k hU.1 aj_d274 rfl rfl [_] rfl rfl rfl (Nat.le_of_ble_eq_true rfl) (aw_toK hU aw_Gs_G (con := ac_c279) (by omega) (ar_279 hU.2.1 (aw_SPc hU.2.2 aw_Gs_G) aw_kpc (arc_258 hU aw_Gs_G (fun _ hq => hq.2.2.2.2.1))) ⟨(hI152).1, (aw_G_sm hI152.2 hG119)⟩ ⟨(aw_g117 hU.2.2), (cw_gw (a := x91.toInt) rfl (by omega) (by omega)), trivial⟩ (fun e he => nomatch he)) ?_
                        rintro r176 S176 ⟨hr176, hJ176, fc176, po176, -⟩
                        have hT176 := hJ176.1
                        replace fc176 := aw_fr_sub (F' := []) (A' := [19]) (by decide) (by decide) fc176
                        have fr177 := aw_fr_tr fr151 (aw_fr_sub (F := []) (A := [19]) (by decide) (by decide) fc176)
                        have hI178 : aw_I s h (aw_sm S119) S176 := ⟨hT176, aw_sm_tr hI152.2 (aw_fr_sm (by decide) (by decide) (by decide) (F := []) (A := [19]) fc176)⟩
                        obtain ⟨b176, rfl, bb176⟩ := cw_rI hr176
                        show aw_W _ _ _ _ 164 lv111 [.int b176] _ _
                        refine aw_z (tgt := 171) aj_d274 rfl rfl (fun q179 => ?_) (fun q179 => ?_)
                        · have q179 : b176.toInt = (0 : Int) := aw_t_eq (a := b176.toInt) (b := (0 : Int)) rfl rfl q179
                          refine aw_n aj_d274 rfl rfl ?_
                          refine aw_e aj_d274 rfl rfl ?_
                          have c180 : (S176.1 30).toInt = (S.1 30).toInt := (congrArg Int32.toInt (fc176.1 30 (by decide)).1).trans c174
                          have b181 : 0 ≤ (S176.1 30).toInt ∧ (S176.1 30).toInt ≤ 1001 := aw_bd_f hs (hI178).1 (by decide) rfl
                          exact ⟨(hI178).1, fr177, Or.inl ⟨_, rfl, rfl, (aw_G_sm hI178.2 hG119), (show _ ≤ ((S176.1 30)).toInt by omega)⟩⟩
                        · have q179 : b176.toInt ≠ (0 : Int) := aw_t_eq (a := b176.toInt) (b := (0 : Int)) rfl rfl q179
                          refine aw_n aj_d274 rfl rfl ?_
                          refine aw_n aj_d274 rfl rfl ?_
                          refine aw_e aj_d274 rfl rfl ?_
                          have c182 : (S176.1 30).toInt = (S.1 30).toInt := (congrArg Int32.toInt (fc176.1 30 (by decide)).1).trans c174
                          have b183 : 0 ≤ (S176.1 30).toInt ∧ (S176.1 30).toInt ≤ 1001 := aw_bd_f hs (hI178).1 (by decide) rfl
                          have c184 : (S115.1 50).toInt = x80.toInt := (congrArg Int32.toInt (fc115.1 50 (by decide)).1).trans rfl
                          have b185 : 0 ≤ (S115.1 50).toInt ∧ (S115.1 50).toInt ≤ 63 := aw_bd_f hs (hI117).1 (by decide) rfl
                          have c186 : (S119.1 50).toInt = x80.toInt := (congrArg Int32.toInt (fc119.1 50 (by decide)).1).trans c184
                          have b187 : 0 ≤ (S119.1 50).toInt ∧ (S119.1 50).toInt ≤ 63 := aw_bd_f hs (hI124).1 (by decide) rfl
                          have c188 : (S131.1 50).toInt = x80.toInt := (congrArg Int32.toInt (fc131.1 50 (by decide)).1).trans c186
                          have b189 : 0 ≤ (S131.1 50).toInt ∧ (S131.1 50).toInt ≤ 63 := aw_bd_f hs (hI152).1 (by decide) rfl
                          have c190 : (S176.1 50).toInt = x80.toInt := (congrArg Int32.toInt (fc176.1 50 (by decide)).1).trans c188
                          have b191 : 0 ≤ (S176.1 50).toInt ∧ (S176.1 50).toInt ≤ 63 := aw_bd_f hs (hI178).1 (by decide) rfl
                          have c192 : (S115.1 51).toInt = x88.toInt := (congrArg Int32.toInt (fc115.1 51 (by decide)).1).trans rfl
                          have b193 : 0 ≤ (S115.1 51).toInt ∧ (S115.1 51).toInt ≤ 48 := aw_bd_f hs (hI117).1 (by decide) rfl
                          have c194 : (S119.1 51).toInt = x88.toInt := (congrArg Int32.toInt (fc119.1 51 (by decide)).1).trans c192
                          have b195 : 0 ≤ (S119.1 51).toInt ∧ (S119.1 51).toInt ≤ 48 := aw_bd_f hs (hI124).1 (by decide) rfl
                          have c196 : (S131.1 51).toInt = x88.toInt := (congrArg Int32.toInt (fc131.1 51 (by decide)).1).trans c194
                          have b197 : 0 ≤ (S131.1 51).toInt ∧ (S131.1 51).toInt ≤ 48 := aw_bd_f hs (hI152).1 (by decide) rfl
                          have c198 : (S176.1 51).toInt = x88.toInt := (congrArg Int32.toInt (fc176.1 51 (by decide)).1).trans c196
                          have b199 : 0 ≤ (S176.1 51).toInt ∧ (S176.1 51).toInt ≤ 48 := aw_bd_f hs (hI178).1 (by decide) rfl
                          exact ⟨(hI178).1, fr177, Or.inr ⟨_, rfl, rfl, (aw_G_sm hI178.2 hG119), (show _ ≤ ((S176.1 30)).toInt by omega), (show ((S176.1 50)).toInt = _ by omega), (show ((S176.1 51)).toInt = _ by omega)⟩⟩
                      · have q173 : x83.toInt = (43 : Int) := aw_t_ne (a := x83.toInt) (b := (43 : Int)) rfl rfl q173
                        refine aw_l2 aj_d274 rfl rfl hlv111_0 ?_
                        refine aw_l0 aj_d274 rfl rfl hlv111_3 ?_
                        refine aw_l0 aj_d274 rfl rfl hlv111_2 ?_
                        refine aw_k hU.1 aj_d274 rfl rfl [_, _] rfl rfl rfl (Nat.le_of_ble_eq_true rfl) (ar_union hU (hI152).1 (aw_G_sm hI152.2 hG119) (by omega) (x := x91) (by omega)) ?_
                        rintro _ S200 ⟨hT200, fc200, ⟨b200, rfl, hb200, hG200, ck200⟩ | ⟨b200, rfl, hb200, hG200, ck200⟩⟩
                        · skip
                          have fr201 := aw_fr_tr fr151 (aw_fr_sub (F := [24, 25, 31]) (A := [14, 17, 18, 19]) (by decide) (by decide) fc200)
                          have hI202 : aw_I s h (aw_sm S200) S200 := ⟨hT200, aw_sm_rf⟩
                          show aw_W _ _ _ _ 153 lv111 [.int b200] _ _
                          refine aw_z (tgt := 171) aj_d274 rfl rfl (fun q203 => ?_) (fun q203 => ?_)
                          · have q203 : (0 : Int) = (0 : Int) := aw_t_eq (a := (0 : Int)) (b := (0 : Int)) hb200 rfl q203
                            refine aw_n aj_d274 rfl rfl ?_
                            refine aw_e aj_d274 rfl rfl ?_
                            have c204 : (S131.1 30).toInt = (S.1 30).toInt := (congrArg Int32.toInt (fc131.1 30 (by decide)).1).trans c129
                            have b205 : 0 ≤ (S131.1 30).toInt ∧ (S131.1 30).toInt ≤ 1001 := aw_bd_f hs (hI152).1 (by decide) rfl
                            have c206 : (S200.1 30).toInt = (S.1 30).toInt := (congrArg Int32.toInt (fc200.1 30 (by decide)).1).trans c204
                            have b207 : 0 ≤ (S200.1 30).toInt ∧ (S200.1 30).toInt ≤ 1001 := aw_bd_f hs (hI202).1 (by decide) rfl
                            exact ⟨(hI202).1, fr201, Or.inl ⟨_, rfl, rfl, hG200, (show _ ≤ ((S200.1 30)).toInt by omega)⟩⟩
                          · have q203 : (0 : Int) ≠ (0 : Int) := aw_t_eq (a := (0 : Int)) (b := (0 : Int)) hb200 rfl q203
                            exfalso
                            omega
                        · skip
                          have fr208 := aw_fr_tr fr151 (aw_fr_sub (F := [24, 25, 31]) (A := [14, 17, 18, 19]) (by decide) (by decide) fc200)
                          have hI209 : aw_I s h (aw_sm S200) S200 := ⟨hT200, aw_sm_rf⟩
                          show aw_W _ _ _ _ 153 lv111 [.int b200] _ _
                          refine aw_z (tgt := 171) aj_d274 rfl rfl (fun q210 => ?_) (fun q210 => ?_)
                          · have q210 : (1 : Int) = (0 : Int) := aw_t_eq (a := (1 : Int)) (b := (0 : Int)) hb200 rfl q210
                            exfalso
                            omega
                          · have q210 : (1 : Int) ≠ (0 : Int) := aw_t_eq (a := (1 : Int)) (b := (0 : Int)) hb200 rfl q210
                            refine aw_n aj_d274 rfl rfl ?_
                            refine aw_n aj_d274 rfl rfl ?_
                            refine aw_n aj_d274 rfl rfl ?_
                            refine aw_e aj_d274 rfl rfl ?_
                            have c211 : (S131.1 30).toInt = (S.1 30).toInt := (congrArg Int32.toInt (fc131.1 30 (by decide)).1).trans c129
                            have b212 : 0 ≤ (S131.1 30).toInt ∧ (S131.1 30).toInt ≤ 1001 := aw_bd_f hs (hI152).1 (by decide) rfl
                            have c213 : (S200.1 30).toInt = (S.1 30).toInt := (congrArg Int32.toInt (fc200.1 30 (by decide)).1).trans c211
                            have b214 : 0 ≤ (S200.1 30).toInt ∧ (S200.1 30).toInt ≤ 1001 := aw_bd_f hs (hI209).1 (by decide) rfl
                            have c215 : (S115.1 50).toInt = x80.toInt := (congrArg Int32.toInt (fc115.1 50 (by decide)).1).trans rfl
                            have b216 : 0 ≤ (S115.1 50).toInt ∧ (S115.1 50).toInt ≤ 63 := aw_bd_f hs (hI117).1 (by decide) rfl
                            have c217 : (S119.1 50).toInt = x80.toInt := (congrArg Int32.toInt (fc119.1 50 (by decide)).1).trans c215
                            have b218 : 0 ≤ (S119.1 50).toInt ∧ (S119.1 50).toInt ≤ 63 := aw_bd_f hs (hI124).1 (by decide) rfl
                            have c219 : (S131.1 50).toInt = x80.toInt := (congrArg Int32.toInt (fc131.1 50 (by decide)).1).trans c217
                            have b220 : 0 ≤ (S131.1 50).toInt ∧ (S131.1 50).toInt ≤ 63 := aw_bd_f hs (hI152).1 (by decide) rfl
                            have c221 : (S200.1 50).toInt = x80.toInt := (congrArg Int32.toInt (fc200.1 50 (by decide)).1).trans c219
                            have b222 : 0 ≤ (S200.1 50).toInt ∧ (S200.1 50).toInt ≤ 63 := aw_bd_f hs (hI209).1 (by decide) rfl
                            have c223 : (S115.1 51).toInt = x88.toInt := (congrArg Int32.toInt (fc115.1 51 (by decide)).1).trans rfl
                            have b224 : 0 ≤ (S115.1 51).toInt ∧ (S115.1 51).toInt ≤ 48 := aw_bd_f hs (hI117).1 (by decide) rfl
                            have c225 : (S119.1 51).toInt = x88.toInt := (congrArg Int32.toInt (fc119.1 51 (by decide)).1).trans c223
                            have b226 : 0 ≤ (S119.1 51).toInt ∧ (S119.1 51).toInt ≤ 48 := aw_bd_f hs (hI124).1 (by decide) rfl
                            have c227 : (S131.1 51).toInt = x88.toInt := (congrArg Int32.toInt (fc131.1 51 (by decide)).1).trans c225
                            have b228 : 0 ≤ (S131.1 51).toInt ∧ (S131.1 51).toInt ≤ 48 := aw_bd_f hs (hI152).1 (by decide) rfl
                            have c229 : (S200.1 51).toInt = x88.toInt := (congrArg Int32.toInt (fc200.1 51 (by decide)).1).trans c227
                            have b230 : 0 ≤ (S200.1 51).toInt ∧ (S200.1 51).toInt ≤ 48 := aw_bd_f hs (hI209).1 (by decide) rfl
                            exact ⟨(hI209).1, fr208, Or.inr ⟨_, rfl, rfl, hG200, (show _ ≤ ((S200.1 30)).toInt by omega), (show ((S200.1 50)).toInt = _ by omega), (show ((S200.1 51)).toInt = _ by omega)⟩⟩
                  · have q153 : (1 : Int) = (0 : Int) := aw_t_ne (a := (1 : Int)) (b := (0 : Int)) hb131 rfl q153
                    exfalso
                    omega
          · skip
            have fr231 := aw_fr_tr fr90 (aw_fr_sub (F := []) (A := []) (by decide) (by decide) fc115)
            have hI232 : aw_I s h (aw_sm S) S115 := ⟨hT115, aw_sm_tr hI89.2 (aw_fr_sm (by decide) (by decide) (by decide) (F := []) (A := []) fc115)⟩
            show aw_W _ _ _ _ 100 lv111 [.int b115] _ _
            refine aw_z (tgt := 109) aj_d274 rfl rfl (fun q233 => ?_) (fun q233 => ?_)
            · have q233 : (1 : Int) ≠ (0 : Int) := aw_t_ne (a := (1 : Int)) (b := (0 : Int)) hb115 rfl q233
              refine aw_l0 aj_d274 rfl rfl hlv111_4 ?_
              refine aw_z (tgt := 125) aj_d274 rfl rfl (fun q234 => ?_) (fun q234 => ?_)
              · have q234 : (1 : Int) = (0 : Int) := aw_t_eq (a := (1 : Int)) (b := (0 : Int)) rfl rfl q234
                exfalso
                omega
              · have q234 : (1 : Int) ≠ (0 : Int) := aw_t_eq (a := (1 : Int)) (b := (0 : Int)) rfl rfl q234
                refine aw_l2 aj_d274 rfl rfl hlv111_0 ?_
                refine aw_l0 aj_d274 rfl rfl hlv111_3 ?_
                refine aw_l0 aj_d274 rfl rfl hlv111_3 ?_
                refine aw_n aj_d274 rfl rfl ?_
                refine aw_add aj_d274 rfl (a := x91.toInt) (b := (1 : Int)) rfl rfl (by omega) (by omega) (fun x235 ex235 => ?_)
                have c236 : (S115.1 30).toInt = (S.1 30).toInt := (congrArg Int32.toInt (fc115.1 30 (by decide)).1).trans rfl
                have b237 : 0 ≤ (S115.1 30).toInt ∧ (S115.1 30).toInt ≤ 1001 := aw_bd_f hs (hI232).1 (by decide) rfl
                refine aw_k hU.1 aj_d274 rfl rfl [_, _] rfl rfl rfl (Nat.le_of_ble_eq_true rfl) (aw_toK hU aw_Gs_sm (con := ac_c277) (by omega) (ar_277 hU.2.1 (aw_SPc hU.2.2 aw_Gs_sm) aw_kpc) ⟨(hI232).1, aw_sm_rf⟩ ⟨(aw_g117 hU.2.2), (cw_gw (a := x91.toInt) rfl (by omega) (by omega)), (cw_gw (a := x235.toInt) rfl (by omega) (by omega)), trivial⟩ (fun e he => nomatch he)) ?_
                rintro r238 S238 ⟨hr238, hJ238, fc238, po238, -⟩
                have hT238 := hJ238.1
                replace fc238 := aw_fr_sub (F' := []) (A' := []) (by decide) (by decide) fc238
                rcases ar_bool hU (hI232).1 hT238 hr238 po238 with ⟨b238, rfl, hb238, cf238⟩ | ⟨b238, rfl, hb238, ck238, gq238⟩
                · skip
                  clear cf238
                  have fr239 := aw_fr_tr fr231 (aw_fr_sub (F := []) (A := []) (by decide) (by decide) fc238)
                  have hI240 : aw_I s h (aw_sm S) S238 := ⟨hT238, aw_sm_tr hI232.2 (aw_fr_sm (by decide) (by decide) (by decide) (F := []) (A := []) fc238)⟩
                  show aw_W _ _ _ _ 122 lv111 [.int b238] _ _
                  refine aw_z (tgt := 134) aj_d274 rfl rfl (fun q241 => ?_) (fun q241 => ?_)
                  · have q241 : (0 : Int) ≠ (0 : Int) := aw_t_ne (a := (0 : Int)) (b := (0 : Int)) hb238 rfl q241
                    exfalso
                    omega
                  · have q241 : (0 : Int) = (0 : Int) := aw_t_ne (a := (0 : Int)) (b := (0 : Int)) hb238 rfl q241
                    refine aw_l2 aj_d274 rfl rfl hlv111_0 ?_
                    refine aw_g hU.1 aj_d274 rfl rfl (by decide) (v := .ref 132) rfl ?_
                    refine aw_l0 aj_d274 rfl rfl hlv111_3 ?_
                    refine aw_n aj_d274 rfl rfl ?_
                    refine aw_st (k := 15) hU.1 aj_d274 (Or.inl ⟨rfl, rfl⟩) rfl (by decide) (by decide) rfl (a := x91.toInt) rfl (by omega) (by omega) ?_
                    have hI242 := aw_I_a (aw_UV hU aw_Gs_sm) (k := 15) (j := (x91.toInt).toNat) (v := aj_nar 0 (Int32.ofInt (-1))) hI240 (by decide) (by decide) (by decide) rfl (by decide) (by decide) rfl (aw_bp (a := (-1 : Int)) rfl (by omega) (by omega))
                    have fr243 := aw_fr_a (k := 15) (j := (x91.toInt).toNat) (v := aj_nar 0 (Int32.ofInt (-1))) (by decide) fr239
                    refine aw_n aj_d274 rfl rfl ?_
                    refine aw_e aj_d274 rfl rfl ?_
                    have c244 : (S238.1 30).toInt = (S.1 30).toInt := (congrArg Int32.toInt (fc238.1 30 (by decide)).1).trans c236
                    have b245 : 0 ≤ (S238.1 30).toInt ∧ (S238.1 30).toInt ≤ 1001 := aw_bd_f hs (hI240).1 (by decide) rfl
                    have c246 : (S115.1 50).toInt = x80.toInt := (congrArg Int32.toInt (fc115.1 50 (by decide)).1).trans rfl
                    have b247 : 0 ≤ (S115.1 50).toInt ∧ (S115.1 50).toInt ≤ 63 := aw_bd_f hs (hI232).1 (by decide) rfl
                    have c248 : (S238.1 50).toInt = x80.toInt := (congrArg Int32.toInt (fc238.1 50 (by decide)).1).trans c246
                    have b249 : 0 ≤ (S238.1 50).toInt ∧ (S238.1 50).toInt ≤ 63 := aw_bd_f hs (hI240).1 (by decide) rfl
                    have c250 : (S115.1 51).toInt = x88.toInt := (congrArg Int32.toInt (fc115.1 51 (by decide)).1).trans rfl
                    have b251 : 0 ≤ (S115.1 51).toInt ∧ (S115.1 51).toInt ≤ 48 := aw_bd_f hs (hI232).1 (by decide) rfl
                    have c252 : (S238.1 51).toInt = x88.toInt := (congrArg Int32.toInt (fc238.1 51 (by decide)).1).trans c250
                    have b253 : 0 ≤ (S238.1 51).toInt ∧ (S238.1 51).toInt ≤ 48 := aw_bd_f hs (hI240).1 (by decide) rfl
                    exact ⟨(hI242).1, fr243, Or.inr ⟨_, rfl, rfl, (aw_G_sm hI242.2 hG), (show _ ≤ ((S238.1 30)).toInt by omega), (show ((S238.1 50)).toInt = _ by omega), (show ((S238.1 51)).toInt = _ by omega)⟩⟩
                · skip
                  have fr254 := aw_fr_tr fr231 (aw_fr_sub (F := []) (A := []) (by decide) (by decide) fc238)
                  have hI255 : aw_I s h (aw_sm S) S238 := ⟨hT238, aw_sm_tr hI232.2 (aw_fr_sm (by decide) (by decide) (by decide) (F := []) (A := []) fc238)⟩
                  show aw_W _ _ _ _ 122 lv111 [.int b238] _ _
                  refine aw_z (tgt := 134) aj_d274 rfl rfl (fun q256 => ?_) (fun q256 => ?_)
                  · have q256 : (1 : Int) ≠ (0 : Int) := aw_t_ne (a := (1 : Int)) (b := (0 : Int)) hb238 rfl q256
                    refine aw_l2 aj_d274 rfl rfl hlv111_0 ?_
                    have b257 : 0 ≤ (S.1 32).toInt ∧ (S.1 32).toInt ≤ 1 := aw_bd_f hs (hI77).1 (by decide) rfl
                    have c258 : (S115.1 32).toInt = (S.1 32).toInt := (congrArg Int32.toInt (fc115.1 32 (by decide)).1).trans rfl
                    have b259 : 0 ≤ (S115.1 32).toInt ∧ (S115.1 32).toInt ≤ 1 := aw_bd_f hs (hI232).1 (by decide) rfl
                    have c260 : (S238.1 32).toInt = (S.1 32).toInt := (congrArg Int32.toInt (fc238.1 32 (by decide)).1).trans c258
                    have b261 : 0 ≤ (S238.1 32).toInt ∧ (S238.1 32).toInt ≤ 1 := aw_bd_f hs (hI255).1 (by decide) rfl
                    refine aw_g hU.1 aj_d274 rfl rfl (by decide) (v := .int (S238.1 32)) rfl ?_
                    refine aw_z (tgt := 167) aj_d274 rfl rfl (fun q262 => ?_) (fun q262 => ?_)
                    · have q262 : (S.1 32).toInt = (0 : Int) := aw_t_eq (a := (S.1 32).toInt) (b := (0 : Int)) c260 rfl q262
                      refine aw_n aj_d274 rfl rfl ?_
                      refine aw_n aj_d274 rfl rfl ?_
                      refine aw_e aj_d274 rfl rfl ?_
                      have c263 : (S238.1 30).toInt = (S.1 30).toInt := (congrArg Int32.toInt (fc238.1 30 (by decide)).1).trans c236
                      have b264 : 0 ≤ (S238.1 30).toInt ∧ (S238.1 30).toInt ≤ 1001 := aw_bd_f hs (hI255).1 (by decide) rfl
                      have c265 : (S115.1 50).toInt = x80.toInt := (congrArg Int32.toInt (fc115.1 50 (by decide)).1).trans rfl
                      have b266 : 0 ≤ (S115.1 50).toInt ∧ (S115.1 50).toInt ≤ 63 := aw_bd_f hs (hI232).1 (by decide) rfl
                      have c267 : (S238.1 50).toInt = x80.toInt := (congrArg Int32.toInt (fc238.1 50 (by decide)).1).trans c265
                      have b268 : 0 ≤ (S238.1 50).toInt ∧ (S238.1 50).toInt ≤ 63 := aw_bd_f hs (hI255).1 (by decide) rfl
                      have c269 : (S115.1 51).toInt = x88.toInt := (congrArg Int32.toInt (fc115.1 51 (by decide)).1).trans rfl
                      have b270 : 0 ≤ (S115.1 51).toInt ∧ (S115.1 51).toInt ≤ 48 := aw_bd_f hs (hI232).1 (by decide) rfl
                      have c271 : (S238.1 51).toInt = x88.toInt := (congrArg Int32.toInt (fc238.1 51 (by decide)).1).trans c269
                      have b272 : 0 ≤ (S238.1 51).toInt ∧ (S238.1 51).toInt ≤ 48 := aw_bd_f hs (hI255).1 (by decide) rfl
                      exact ⟨(hI255).1, fr254, Or.inr ⟨_, rfl, rfl, (aw_G_sm hI255.2 hG), (show _ ≤ ((S238.1 30)).toInt by omega), (show ((S238.1 50)).toInt = _ by omega), (show ((S238.1 51)).toInt = _ by omega)⟩⟩
                    · have q262 : (S.1 32).toInt ≠ (0 : Int) := aw_t_eq (a := (S.1 32).toInt) (b := (0 : Int)) c260 rfl q262
                      refine aw_l0 aj_d274 rfl rfl hlv111_1 ?_
                      refine aw_n aj_d274 rfl rfl ?_
                      refine aw_c (tgt := 159) aj_d274 rfl rfl (fun q273 => ?_) (fun q273 => ?_)
                      · have q273 : x83.toInt ≠ (43 : Int) := aw_t_ne (a := x83.toInt) (b := (43 : Int)) rfl rfl q273
                        refine aw_l2 aj_d274 rfl rfl hlv111_0 ?_
                        refine aw_l0 aj_d274 rfl rfl hlv111_3 ?_
                        have c274 : (S238.1 30).toInt = (S.1 30).toInt := (congrArg Int32.toInt (fc238.1 30 (by decide)).1).trans c236
                        have b275 : 0 ≤ (S238.1 30).toInt ∧ (S238.1 30).toInt ≤ 1001 := aw_bd_f hs (hI255).1 (by decide) rfl
                        refine aw_k hU.1 aj_d274 rfl rfl [_] rfl rfl rfl (Nat.le_of_ble_eq_true rfl) (aw_toK hU aw_Gs_G (con := ac_c279) (by omega) (ar_279 hU.2.1 (aw_SPc hU.2.2 aw_Gs_G) aw_kpc (arc_258 hU aw_Gs_G (fun _ hq => hq.2.2.2.2.1))) ⟨(hI255).1, (aw_G_sm hI255.2 hG)⟩ ⟨(aw_g117 hU.2.2), (cw_gw (a := x91.toInt) rfl (by omega) (by omega)), trivial⟩ (fun e he => nomatch he)) ?_
                        rintro r276 S276 ⟨hr276, hJ276, fc276, po276, -⟩
                        have hT276 := hJ276.1
                        replace fc276 := aw_fr_sub (F' := []) (A' := [19]) (by decide) (by decide) fc276
                        have fr277 := aw_fr_tr fr254 (aw_fr_sub (F := []) (A := [19]) (by decide) (by decide) fc276)
                        have hI278 : aw_I s h (aw_sm S) S276 := ⟨hT276, aw_sm_tr hI255.2 (aw_fr_sm (by decide) (by decide) (by decide) (F := []) (A := [19]) fc276)⟩
                        obtain ⟨b276, rfl, bb276⟩ := cw_rI hr276
                        show aw_W _ _ _ _ 164 lv111 [.int b276] _ _
                        refine aw_z (tgt := 171) aj_d274 rfl rfl (fun q279 => ?_) (fun q279 => ?_)
                        · have q279 : b276.toInt = (0 : Int) := aw_t_eq (a := b276.toInt) (b := (0 : Int)) rfl rfl q279
                          refine aw_n aj_d274 rfl rfl ?_
                          refine aw_e aj_d274 rfl rfl ?_
                          have c280 : (S276.1 30).toInt = (S.1 30).toInt := (congrArg Int32.toInt (fc276.1 30 (by decide)).1).trans c274
                          have b281 : 0 ≤ (S276.1 30).toInt ∧ (S276.1 30).toInt ≤ 1001 := aw_bd_f hs (hI278).1 (by decide) rfl
                          exact ⟨(hI278).1, fr277, Or.inl ⟨_, rfl, rfl, (aw_G_sm hI278.2 hG), (show _ ≤ ((S276.1 30)).toInt by omega)⟩⟩
                        · have q279 : b276.toInt ≠ (0 : Int) := aw_t_eq (a := b276.toInt) (b := (0 : Int)) rfl rfl q279
                          refine aw_n aj_d274 rfl rfl ?_
                          refine aw_n aj_d274 rfl rfl ?_
                          refine aw_e aj_d274 rfl rfl ?_
                          have c282 : (S276.1 30).toInt = (S.1 30).toInt := (congrArg Int32.toInt (fc276.1 30 (by decide)).1).trans c274
                          have b283 : 0 ≤ (S276.1 30).toInt ∧ (S276.1 30).toInt ≤ 1001 := aw_bd_f hs (hI278).1 (by decide) rfl
                          have c284 : (S115.1 50).toInt = x80.toInt := (congrArg Int32.toInt (fc115.1 50 (by decide)).1).trans rfl
                          have b285 : 0 ≤ (S115.1 50).toInt ∧ (S115.1 50).toInt ≤ 63 := aw_bd_f hs (hI232).1 (by decide) rfl
                          have c286 : (S238.1 50).toInt = x80.toInt := (congrArg Int32.toInt (fc238.1 50 (by decide)).1).trans c284
                          have b287 : 0 ≤ (S238.1 50).toInt ∧ (S238.1 50).toInt ≤ 63 := aw_bd_f hs (hI255).1 (by decide) rfl
                          have c288 : (S276.1 50).toInt = x80.toInt := (congrArg Int32.toInt (fc276.1 50 (by decide)).1).trans c286
                          have b289 : 0 ≤ (S276.1 50).toInt ∧ (S276.1 50).toInt ≤ 63 := aw_bd_f hs (hI278).1 (by decide) rfl
                          have c290 : (S115.1 51).toInt = x88.toInt := (congrArg Int32.toInt (fc115.1 51 (by decide)).1).trans rfl
                          have b291 : 0 ≤ (S115.1 51).toInt ∧ (S115.1 51).toInt ≤ 48 := aw_bd_f hs (hI232).1 (by decide) rfl
                          have c292 : (S238.1 51).toInt = x88.toInt := (congrArg Int32.toInt (fc238.1 51 (by decide)).1).trans c290
                          have b293 : 0 ≤ (S238.1 51).toInt ∧ (S238.1 51).toInt ≤ 48 := aw_bd_f hs (hI255).1 (by decide) rfl
                          have c294 : (S276.1 51).toInt = x88.toInt := (congrArg Int32.toInt (fc276.1 51 (by decide)).1).trans c292
                          have b295 : 0 ≤ (S276.1 51).toInt ∧ (S276.1 51).toInt ≤ 48 := aw_bd_f hs (hI278).1 (by decide) rfl
                          exact ⟨(hI278).1, fr277, Or.inr ⟨_, rfl, rfl, (aw_G_sm hI278.2 hG), (show _ ≤ ((S276.1 30)).toInt by omega), (show ((S276.1 50)).toInt = _ by omega), (show ((S276.1 51)).toInt = _ by omega)⟩⟩
                      · have q273 : x83.toInt = (43 : Int) := aw_t_ne (a := x83.toInt) (b := (43 : Int)) rfl rfl q273
                        refine aw_l2 aj_d274 rfl rfl hlv111_0 ?_
                        refine aw_l0 aj_d274 rfl rfl hlv111_3 ?_
                        refine aw_l0 aj_d274 rfl rfl hlv111_2 ?_
                        refine aw_k hU.1 aj_d274 rfl rfl [_, _] rfl rfl rfl (Nat.le_of_ble_eq_true rfl) (ar_union hU (hI255).1 (aw_G_sm hI255.2 hG) (by omega) (x := x91) (by omega)) ?_
                        rintro _ S296 ⟨hT296, fc296, ⟨b296, rfl, hb296, hG296, ck296⟩ | ⟨b296, rfl, hb296, hG296, ck296⟩⟩
                        · skip
                          have fr297 := aw_fr_tr fr254 (aw_fr_sub (F := [24, 25, 31]) (A := [14, 17, 18, 19]) (by decide) (by decide) fc296)
                          have hI298 : aw_I s h (aw_sm S296) S296 := ⟨hT296, aw_sm_rf⟩
                          show aw_W _ _ _ _ 153 lv111 [.int b296] _ _
                          refine aw_z (tgt := 171) aj_d274 rfl rfl (fun q299 => ?_) (fun q299 => ?_)
                          · have q299 : (0 : Int) = (0 : Int) := aw_t_eq (a := (0 : Int)) (b := (0 : Int)) hb296 rfl q299
                            refine aw_n aj_d274 rfl rfl ?_
                            refine aw_e aj_d274 rfl rfl ?_
                            have c300 : (S238.1 30).toInt = (S.1 30).toInt := (congrArg Int32.toInt (fc238.1 30 (by decide)).1).trans c236
                            have b301 : 0 ≤ (S238.1 30).toInt ∧ (S238.1 30).toInt ≤ 1001 := aw_bd_f hs (hI255).1 (by decide) rfl
                            have c302 : (S296.1 30).toInt = (S.1 30).toInt := (congrArg Int32.toInt (fc296.1 30 (by decide)).1).trans c300
                            have b303 : 0 ≤ (S296.1 30).toInt ∧ (S296.1 30).toInt ≤ 1001 := aw_bd_f hs (hI298).1 (by decide) rfl
                            exact ⟨(hI298).1, fr297, Or.inl ⟨_, rfl, rfl, hG296, (show _ ≤ ((S296.1 30)).toInt by omega)⟩⟩
                          · have q299 : (0 : Int) ≠ (0 : Int) := aw_t_eq (a := (0 : Int)) (b := (0 : Int)) hb296 rfl q299
                            exfalso
                            omega
                        · skip
                          have fr304 := aw_fr_tr fr254 (aw_fr_sub (F := [24, 25, 31]) (A := [14, 17, 18, 19]) (by decide) (by decide) fc296)
                          have hI305 : aw_I s h (aw_sm S296) S296 := ⟨hT296, aw_sm_rf⟩
                          show aw_W _ _ _ _ 153 lv111 [.int b296] _ _
                          refine aw_z (tgt := 171) aj_d274 rfl rfl (fun q306 => ?_) (fun q306 => ?_)
                          · have q306 : (1 : Int) = (0 : Int) := aw_t_eq (a := (1 : Int)) (b := (0 : Int)) hb296 rfl q306
                            exfalso
                            omega
                          · have q306 : (1 : Int) ≠ (0 : Int) := aw_t_eq (a := (1 : Int)) (b := (0 : Int)) hb296 rfl q306
                            refine aw_n aj_d274 rfl rfl ?_
                            refine aw_n aj_d274 rfl rfl ?_
                            refine aw_n aj_d274 rfl rfl ?_
                            refine aw_e aj_d274 rfl rfl ?_
                            have c307 : (S238.1 30).toInt = (S.1 30).toInt := (congrArg Int32.toInt (fc238.1 30 (by decide)).1).trans c236
                            have b308 : 0 ≤ (S238.1 30).toInt ∧ (S238.1 30).toInt ≤ 1001 := aw_bd_f hs (hI255).1 (by decide) rfl
                            have c309 : (S296.1 30).toInt = (S.1 30).toInt := (congrArg Int32.toInt (fc296.1 30 (by decide)).1).trans c307
                            have b310 : 0 ≤ (S296.1 30).toInt ∧ (S296.1 30).toInt ≤ 1001 := aw_bd_f hs (hI305).1 (by decide) rfl
                            have c311 : (S115.1 50).toInt = x80.toInt := (congrArg Int32.toInt (fc115.1 50 (by decide)).1).trans rfl
                            have b312 : 0 ≤ (S115.1 50).toInt ∧ (S115.1 50).toInt ≤ 63 := aw_bd_f hs (hI232).1 (by decide) rfl
                            have c313 : (S238.1 50).toInt = x80.toInt := (congrArg Int32.toInt (fc238.1 50 (by decide)).1).trans c311
                            have b314 : 0 ≤ (S238.1 50).toInt ∧ (S238.1 50).toInt ≤ 63 := aw_bd_f hs (hI255).1 (by decide) rfl
                            have c315 : (S296.1 50).toInt = x80.toInt := (congrArg Int32.toInt (fc296.1 50 (by decide)).1).trans c313
                            have b316 : 0 ≤ (S296.1 50).toInt ∧ (S296.1 50).toInt ≤ 63 := aw_bd_f hs (hI305).1 (by decide) rfl
                            have c317 : (S115.1 51).toInt = x88.toInt := (congrArg Int32.toInt (fc115.1 51 (by decide)).1).trans rfl
                            have b318 : 0 ≤ (S115.1 51).toInt ∧ (S115.1 51).toInt ≤ 48 := aw_bd_f hs (hI232).1 (by decide) rfl
                            have c319 : (S238.1 51).toInt = x88.toInt := (congrArg Int32.toInt (fc238.1 51 (by decide)).1).trans c317
                            have b320 : 0 ≤ (S238.1 51).toInt ∧ (S238.1 51).toInt ≤ 48 := aw_bd_f hs (hI255).1 (by decide) rfl
                            have c321 : (S296.1 51).toInt = x88.toInt := (congrArg Int32.toInt (fc296.1 51 (by decide)).1).trans c319
                            have b322 : 0 ≤ (S296.1 51).toInt ∧ (S296.1 51).toInt ≤ 48 := aw_bd_f hs (hI305).1 (by decide) rfl
                            exact ⟨(hI305).1, fr304, Or.inr ⟨_, rfl, rfl, hG296, (show _ ≤ ((S296.1 30)).toInt by omega), (show ((S296.1 50)).toInt = _ by omega), (show ((S296.1 51)).toInt = _ by omega)⟩⟩
                  · have q256 : (1 : Int) = (0 : Int) := aw_t_ne (a := (1 : Int)) (b := (0 : Int)) hb238 rfl q256
                    exfalso
                    omega
            · have q233 : (1 : Int) = (0 : Int) := aw_t_ne (a := (1 : Int)) (b := (0 : Int)) hb115 rfl q233
              exfalso
              omega
  · have q93 : x83.toInt = (42 : Int) := aw_t_ne (a := x83.toInt) (b := (42 : Int)) rfl rfl q93
    refine aw_l2 aj_d274 rfl rfl hlv92_0 ?_
    refine aw_l0 aj_d274 rfl rfl hlv92_3 ?_
    refine aw_l0 aj_d274 rfl rfl hlv92_2 ?_
    refine aw_k hU.1 aj_d274 rfl rfl [_, _] rfl rfl rfl (Nat.le_of_ble_eq_true rfl) (ar_joined hU (hI89).1 (aw_G_sm hI89.2 hG) (by omega) (x := x91) (by omega)) ?_
    rintro _ S323 ⟨hT323, fc323, ⟨b323, rfl, hb323, hG323, ck323⟩ | ⟨b323, rfl, hb323, hG323, ck323⟩⟩
    · skip
      have fr324 := aw_fr_tr fr90 (aw_fr_sub (F := [24, 25, 31]) (A := [14, 15, 16, 17, 18, 19]) (by decide) (by decide) fc323)
      have hI325 : aw_I s h (aw_sm S323) S323 := ⟨hT323, aw_sm_rf⟩
      show aw_W _ _ _ _ 59 lv92 [.int b323] _ _
      refine aw_e aj_d274 rfl (cw_irb rfl (by omega)) ?_
      have b326 : 0 ≤ (S.1 30).toInt ∧ (S.1 30).toInt ≤ 1001 := aw_bd_f hs (hI77).1 (by decide) rfl
      have c327 : (S323.1 30).toInt = (S.1 30).toInt := (congrArg Int32.toInt (fc323.1 30 (by decide)).1).trans rfl
      have b328 : 0 ≤ (S323.1 30).toInt ∧ (S323.1 30).toInt ≤ 1001 := aw_bd_f hs (hI325).1 (by decide) rfl
      exact ⟨(hI325).1, fr324, Or.inl ⟨_, rfl, hb323, hG323, (show _ ≤ ((S323.1 30)).toInt by omega)⟩⟩
    · skip
      have fr329 := aw_fr_tr fr90 (aw_fr_sub (F := [24, 25, 31]) (A := [14, 15, 16, 17, 18, 19]) (by decide) (by decide) fc323)
      have hI330 : aw_I s h (aw_sm S323) S323 := ⟨hT323, aw_sm_rf⟩
      show aw_W _ _ _ _ 59 lv92 [.int b323] _ _
      refine aw_e aj_d274 rfl (cw_irb rfl (by omega)) ?_
      have b331 : 0 ≤ (S.1 30).toInt ∧ (S.1 30).toInt ≤ 1001 := aw_bd_f hs (hI77).1 (by decide) rfl
      have c332 : (S323.1 30).toInt = (S.1 30).toInt := (congrArg Int32.toInt (fc323.1 30 (by decide)).1).trans rfl
      have b333 : 0 ≤ (S323.1 30).toInt ∧ (S323.1 30).toInt ≤ 1001 := aw_bd_f hs (hI330).1 (by decide) rfl
      have c334 : (S323.1 50).toInt = x80.toInt := (congrArg Int32.toInt (fc323.1 50 (by decide)).1).trans rfl
      have b335 : 0 ≤ (S323.1 50).toInt ∧ (S323.1 50).toInt ≤ 63 := aw_bd_f hs (hI330).1 (by decide) rfl
      have c336 : (S323.1 51).toInt = x88.toInt := (congrArg Int32.toInt (fc323.1 51 (by decide)).1).trans rfl
      have b337 : 0 ≤ (S323.1 51).toInt ∧ (S323.1 51).toInt ≤ 48 := aw_bd_f hs (hI330).1 (by decide) rfl
      exact ⟨(hI330).1, fr329, Or.inr ⟨_, rfl, hb323, hG323, (show _ ≤ ((S323.1 30)).toInt by omega), (show ((S323.1 50)).toInt = _ by omega), (show ((S323.1 51)).toInt = _ by omega)⟩⟩
end ARA12
