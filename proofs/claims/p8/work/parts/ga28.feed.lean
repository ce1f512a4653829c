/-! LEARN, UNDO, FEED, BACK (printed by wip/p2/ref/r28.py) -/
section ARA28
variable {tb : aj_T} {s : List Nat} {h : aj_H} {S S' S1 S2 : aj_S} {d n : Nat} {g g' : aw_gh} {F A : List Nat} {G : aj_S → Prop} {nm : Int64 → Prop} {fl : Bool} {la ho hu ht q t p : Nat}
theorem aw_held_u {i t w : Nat} {v : Int32} (hw : w ≤ 1023) (hp : (S.2.2.1 10 t).toInt ≤ 20) (ht : t ≤ 1) (hi : ∀ p : Nat, (p : Int) < (S.2.2.1 10 t).toInt → i < (t * 20 + p) * 32 ∨ (t * 20 + p) * 32 + 31 < i) (h0 : aw_held S t w) : aw_held (aw_wa S 12 i v) t w := by
  intro p hp2
  have hp2 : (p : Int) < (S.2.2.1 10 t).toInt := hp2
  have y := h0 p hp2
  have z := hi p hp2
  show (aj_bitV (upd (S.2.2.1 12) i v) _ _).toInt = 1
  rw [aw_bit_u (by omega) (by omega) (by omega)]
  exact y
theorem aw_B_p12 {i : Nat} {v : Int32} (hB : aw_B S) (b5 : (S.2.2.1 5 (aw_hh S)).toInt ≤ 1024) (b0 : aw_hh S ≤ 1) (b10 : 0 ≤ (S.2.2.1 10 (aw_hh S)).toInt ∧ (S.2.2.1 10 (aw_hh S)).toInt ≤ 20) (hi : (i : Int) / 32 = aw_hh S * 20 + (S.2.2.1 10 (aw_hh S)).toInt) : aw_B (aw_wa S 12 i v) := by
  obtain ⟨k1, k2, k3, k4⟩ := hB
  exact ⟨k1, (show aw_hold (aw_wa S 12 i v) (aw_hh S) from aw_hold_u b5 b10.2 b0 (fun p hp => by omega) k2), k3, k4⟩
theorem ar_learn (hU : aw_U tb s h) (hT : ak_Ty ak_TN s (aj_mh h S)) (hG : aw_B S) (hd : 10 ≤ d) : aw_K tb h d 281 [.ref 117] S (fun r S' => ak_Ty ak_TN s (aj_mh h S') ∧ aw_fr [23, 24, 25, 26, 27, 28, 29, 30, 31, 32, 33, 34, 35, 36, 37, 38, 39, 40, 41, 43, 44, 45, 46, 47, 68] [10, 11, 12, 20, 22] S S' ∧ (∃ z : Int32, r = some (.int z)) ∧ aw_B S' ∧ (S'.1 23).toInt = 0) := by
  obtain ⟨d, rfl⟩ : ∃ e, d = e + 1 := ⟨d - 1, by omega⟩
  have hs : aw_sT s := aw_hy_sT hU.2.2
  refine aw_m aj_m281_at rfl (Nat.le_of_ble_eq_true rfl) ?_
  show aw_W _ _ _ _ 0 [(0, .ref 117)] [] _ _
  obtain ⟨lv1, elv1⟩ : ∃ l : aj_V, l = [(0, .ref 117)] := ⟨_, rfl⟩
  rw [← elv1]
  have hlv1_0 : aj_lv lv1 0 = some (.ref 117) := by rw [elv1]; rfl
  have hI2 : aw_I s h (aw_sm S) S := ⟨hT, aw_sm_rf⟩
  have fr3 : aw_fr [23, 24, 25, 26, 27, 28, 29, 30, 31, 32, 33, 34, 35, 36, 37, 38, 39, 40, 41, 43, 44, 45, 46, 47, 68] [10, 11, 12, 20, 22] S S := aw_fr_rf
  refine aw_l2 aj_d281 rfl rfl hlv1_0 ?_
  refine aw_k hU.1 aj_d281 rfl rfl [] rfl rfl rfl (Nat.le_of_ble_eq_true rfl) (ar_asks hU (hI2).1 hG (by omega)) ?_
  rintro _ S4 ⟨hT4, fc4, ⟨b4, rfl, bb4⟩, hB4, j23⟩
  have fr5 := aw_fr_tr fr3 (aw_fr_sub (F := [23, 24, 25, 26, 27, 28, 29, 30, 31, 32, 33, 34, 35, 36, 37, 38, 39, 40, 41, 43, 44, 45, 46, 47]) (A := [20, 22]) (by decide) (by decide) fc4)
  have hI6 : aw_I s h (aw_sm S4) S4 := ⟨hT4, aw_sm_rf⟩
  have b7 : 0 ≤ (S.1 0).toInt ∧ (S.1 0).toInt ≤ 1 := aw_bd_f hs (hI2).1 (by decide) rfl
  have c8 : (S4.1 0).toInt = (S.1 0).toInt := (congrArg Int32.toInt (fc4.1 0 (by decide)).1).trans rfl
  have b9 : 0 ≤ (S4.1 0).toInt ∧ (S4.1 0).toInt ≤ 1 := aw_bd_f hs (hI6).1 (by decide) rfl
  have b10 : 0 ≤ (S4.1 23).toInt ∧ (S4.1 23).toInt ≤ 4000 := aw_bd_f hs (hI6).1 (by decide) rfl
  have lh : aw_hh S4 ≤ 1 := by unfold aw_hh; omega
  have b5 := aw_bd_a hs hT4 (k := 5) (j := aw_hh S4) (lo := 0) (hi := 1024) (by decide) (by decide) rfl (by decide) rfl (by omega)
  have b10 := aw_bd_a hs hT4 (k := 10) (j := aw_hh S4) (lo := 0) (hi := 20) (by decide) (by decide) rfl (by decide) rfl (by omega)
  have b11 := aw_bd_a hs hT4 (k := 11) (j := aw_hh S4) (lo := 0) (hi := 8) (by decide) (by decide) rfl (by decide) rfl (by omega)
  have k3 := hB4.2.2.1
  show aw_W _ _ _ _ 4 lv1 [.int b4] _ _
  refine aw_z (tgt := 9) aj_d281 rfl rfl (fun q11 => ?_) (fun q11 => ?_)
  · have q11 : b4.toInt ≠ (0 : Int) := aw_t_ne (a := b4.toInt) (b := (0 : Int)) rfl rfl q11
    refine aw_n aj_d281 rfl rfl ?_
    refine aw_t0 (j := 1) aj_d281 rfl (by decide) rfl ?_
    obtain ⟨lv12, elv12⟩ : ∃ l, l = aj_set1 lv1 1 (.int (Int32.ofInt 0)) := ⟨_, rfl⟩
    rw [← elv12]
    have hlv12_0 : aj_lv lv12 0 = some (.ref 117) := cw_e1 elv12 hlv1_0 (by decide) (Or.inr rfl)
    have hlv12_1 : aj_lv lv12 1 = some (.int (Int32.ofInt 0)) := by rw [elv12]; exact ak_set1_eq _ _ _
    show aw_W _ _ _ _ 11 lv12 [] _ _
    refine aw_n aj_d281 rfl rfl ?_
    refine aw_t0 (j := 2) aj_d281 rfl (by decide) rfl ?_
    obtain ⟨lv13, elv13⟩ : ∃ l, l = aj_set1 lv12 2 (.int (Int32.ofInt 0)) := ⟨_, rfl⟩
    rw [← elv13]
    have hlv13_0 : aj_lv lv13 0 = some (.ref 117) := cw_e1 elv13 hlv12_0 (by decide) (Or.inl (by decide))
    have hlv13_1 : aj_lv lv13 1 = some (.int (Int32.ofInt 0)) := cw_e1 elv13 hlv12_1 (by decide) (Or.inr rfl)
    have hlv13_2 : aj_lv lv13 2 = some (.int (Int32.ofInt 0)) := by rw [elv13]; exact ak_set1_eq _ _ _
    show aw_W _ _ _ _ 13 lv13 [] _ _
    have L13_13 : ∀ (N : Nat) (lv16 : aj_V) (x17 : Int32) (x18 : Int32), (aj_lv lv16 0 = some (.ref 117)) → (aj_lv lv16 1 = some (.int x17)) → (aj_lv lv16 2 = some (.int x18)) → (0 ≤ x17.toInt ∧ x17.toInt ≤ 1024) → (0 ≤ x18.toInt ∧ x18.toInt ≤ 1024) → (x17.toInt ≤ x18.toInt) → (ar_hd (1 ≤ x17.toInt → ∃ u : Nat, (u : Int) < (S4.2.2.1 5 (aw_hh S4)).toInt ∧ aw_held S4 (aw_hh S4) u ∧ (aj_bitV (S4.2.2.1 20) (nI 0) (nI u)).toInt = 1)) → (1024 - x18.toInt).toNat < N → aw_W tb h d aj_m281 13 lv16 [] S4 ((fun r S' => ak_Ty ak_TN s (aj_mh h S') ∧ aw_fr [23, 24, 25, 26, 27, 28, 29, 30, 31, 32, 33, 34, 35, 36, 37, 38, 39, 40, 41, 43, 44, 45, 46, 47, 68] [10, 11, 12, 20, 22] S S' ∧ (∃ z : Int32, r = some (.int z)) ∧ aw_B S' ∧ (S'.1 23).toInt = 0)) := by
      intro N
      induction N with
      | zero =>
        intro  lv16 x17 x18 hlv16_0 hlv16_1 hlv16_2 bx17 bx18 nw13 ex13 hm
        omega
      | succ N ihL13_13 =>
        intro  lv16 x17 x18 hlv16_0 hlv16_1 hlv16_2 bx17 bx18 nw13 ex13 hm
        refine aw_l0 aj_d281 rfl rfl hlv16_2 ?_
        refine aw_l2 aj_d281 rfl rfl hlv16_0 ?_
        refine aw_g hU.1 aj_d281 rfl rfl (by decide) (v := .ref 122) rfl ?_
        refine aw_l2 aj_d281 rfl rfl hlv16_0 ?_
        refine aw_g hU.1 aj_d281 rfl rfl (by decide) (v := .int (S4.1 0)) rfl ?_
        refine aw_ld (k := 5) hU.1 aj_d281 (Or.inl ⟨rfl, rfl⟩) rfl (by decide) (by decide) rfl (a := (S.1 0).toInt) c8 (by omega) (by omega) (fun x21 ex21 => ?_)
        have bx21 : 0 ≤ x21.toInt ∧ x21.toInt ≤ 1024 := by
          rw [ex21]
          exact aw_bd_a hs (hI6).1 (k := 5) (by decide) (by decide) rfl (by decide) rfl (by omega)
        have ftx21 : x21.toInt = (S.2.2.1 5 ((S.1 0).toInt).toNat).toInt := congrArg Int32.toInt (ex21.trans (congrFun ((fc4.2 5 (by decide)).1.trans rfl) _))
        have y5 : x21.toInt = (S4.2.2.1 5 (aw_hh S4)).toInt := (congrArg Int32.toInt ex21).trans (by first | exact congrArg (fun j => (S4.2.2.1 5 j).toInt) (by unfold aw_hh; omega) | (rw [show (S4).2.2.1 5 = S4.2.2.1 5 from ((fc4.2 5 (by decide)).1.trans rfl)]; exact congrArg (fun j => (S4.2.2.1 5 j).toInt) (by unfold aw_hh; omega)))
        refine aw_c (tgt := 64) aj_d281 rfl rfl (fun q22 => ?_) (fun q22 => ?_)
        · have q22 : x18.toInt ≥ x21.toInt := aw_t_ge (a := x18.toInt) (b := x21.toInt) rfl rfl q22
          refine aw_l0 aj_d281 rfl rfl hlv16_1 ?_
          refine aw_z (tgt := 71) aj_d281 rfl rfl (fun q23 => ?_) (fun q23 => ?_)
          · have q23 : x17.toInt ≠ (0 : Int) := aw_t_ne (a := x17.toInt) (b := (0 : Int)) rfl rfl q23
            obtain ⟨u0, u1, u2, u3⟩ := ar_un ex13 (by omega)
            refine aw_l2 aj_d281 rfl rfl hlv16_0 ?_
            refine aw_g hU.1 aj_d281 rfl rfl (by decide) (v := .ref 128) rfl ?_
            refine aw_l2 aj_d281 rfl rfl hlv16_0 ?_
            refine aw_g hU.1 aj_d281 rfl rfl (by decide) (v := .int (S4.1 0)) rfl ?_
            refine aw_ld (k := 11) hU.1 aj_d281 (Or.inl ⟨rfl, rfl⟩) rfl (by decide) (by decide) rfl (a := (S.1 0).toInt) c8 (by omega) (by omega) (fun x24 ex24 => ?_)
            have bx24 : 0 ≤ x24.toInt ∧ x24.toInt ≤ 8 := by
              rw [ex24]
              exact aw_bd_a hs (hI6).1 (k := 11) (by decide) (by decide) rfl (by decide) rfl (by omega)
            have ftx24 : x24.toInt = (S.2.2.1 11 ((S.1 0).toInt).toNat).toInt := congrArg Int32.toInt (ex24.trans (congrFun ((fc4.2 11 (by decide)).1.trans rfl) _))
            have y11 : x24.toInt = (S4.2.2.1 11 (aw_hh S4)).toInt := (congrArg Int32.toInt ex24).trans (by first | exact congrArg (fun j => (S4.2.2.1 11 j).toInt) (by unfold aw_hh; omega) | (rw [show (S4).2.2.1 11 = S4.2.2.1 11 from ((fc4.2 11 (by decide)).1.trans rfl)]; exact congrArg (fun j => (S4.2.2.1 11 j).toInt) (by unfold aw_hh; omega)))
            refine aw_n aj_d281 rfl rfl ?_
            refine aw_c (tgt := 88) aj_d281 rfl rfl (fun q25 => ?_) (fun q25 => ?_)
            · have q25 : x24.toInt ≠ (8 : Int) := aw_t_ne (a := x24.toInt) (b := (8 : Int)) rfl rfl q25
              refine aw_l2 aj_d281 rfl rfl hlv16_0 ?_
              refine aw_g hU.1 aj_d281 rfl rfl (by decide) (v := .int (S4.1 0)) rfl ?_
              refine aw_n aj_d281 rfl rfl ?_
              refine aw_mul aj_d281 rfl (a := (S.1 0).toInt) (b := (20 : Int)) c8 rfl (by omega) (by omega) (fun x26 ex26 => ?_)
              refine aw_l2 aj_d281 rfl rfl hlv16_0 ?_
              refine aw_g hU.1 aj_d281 rfl rfl (by decide) (v := .ref 127) rfl ?_
              refine aw_l2 aj_d281 rfl rfl hlv16_0 ?_
              refine aw_g hU.1 aj_d281 rfl rfl (by decide) (v := .int (S4.1 0)) rfl ?_
              refine aw_ld (k := 10) hU.1 aj_d281 (Or.inl ⟨rfl, rfl⟩) rfl (by decide) (by decide) rfl (a := (S.1 0).toInt) c8 (by omega) (by omega) (fun x27 ex27 => ?_)
              have bx27 : 0 ≤ x27.toInt ∧ x27.toInt ≤ 20 := by
                rw [ex27]
                exact aw_bd_a hs (hI6).1 (k := 10) (by decide) (by decide) rfl (by decide) rfl (by omega)
              have ftx27 : x27.toInt = (S.2.2.1 10 ((S.1 0).toInt).toNat).toInt := congrArg Int32.toInt (ex27.trans (congrFun ((fc4.2 10 (by decide)).1.trans rfl) _))
              have y10 : x27.toInt = (S4.2.2.1 10 (aw_hh S4)).toInt := (congrArg Int32.toInt ex27).trans (by first | exact congrArg (fun j => (S4.2.2.1 10 j).toInt) (by unfold aw_hh; omega) | (rw [show (S4).2.2.1 10 = S4.2.2.1 10 from ((fc4.2 10 (by decide)).1.trans rfl)]; exact congrArg (fun j => (S4.2.2.1 10 j).toInt) (by unfold aw_hh; omega)))
              refine aw_add aj_d281 rfl (a := x26.toInt) (b := x27.toInt) rfl rfl (by omega) (by omega) (fun x28 ex28 => ?_)
              refine aw_n aj_d281 rfl rfl ?_
              refine aw_mul aj_d281 rfl (a := x28.toInt) (b := (32 : Int)) rfl rfl (by omega) (by omega) (fun x29 ex29 => ?_)
              refine aw_t0 (j := 2) aj_d281 rfl (by decide) rfl ?_
              obtain ⟨lv30, elv30⟩ : ∃ l, l = aj_set1 lv16 2 (.int x29) := ⟨_, rfl⟩
              rw [← elv30]
              have hlv30_0 : aj_lv lv30 0 = some (.ref 117) := cw_e1 elv30 hlv16_0 (by decide) (Or.inl (by decide))
              have hlv30_1 : aj_lv lv30 1 = some (.int x17) := cw_e1 elv30 hlv16_1 (by decide) (Or.inr rfl)
              have hlv30_2 : aj_lv lv30 2 = some (.int x29) := by rw [elv30]; exact ak_set1_eq _ _ _
              show aw_W _ _ _ _ 109 lv30 [] _ _
              refine aw_n aj_d281 rfl rfl ?_
              refine aw_t0 (j := 3) aj_d281 rfl (by decide) rfl ?_
              obtain ⟨lv31, elv31⟩ : ∃ l, l = aj_set1 lv30 3 (.int (Int32.ofInt 0)) := ⟨_, rfl⟩
              rw [← elv31]
              have hlv31_0 : aj_lv lv31 0 = some (.ref 117) := cw_e1 elv31 hlv30_0 (by decide) (Or.inl (by decide))
              have hlv31_1 : aj_lv lv31 1 = some (.int x17) := cw_e1 elv31 hlv30_1 (by decide) (Or.inl (by decide))
              have hlv31_2 : aj_lv lv31 2 = some (.int x29) := cw_e1 elv31 hlv30_2 (by decide) (Or.inr rfl)
              have hlv31_3 : aj_lv lv31 3 = some (.int (Int32.ofInt 0)) := by rw [elv31]; exact ak_set1_eq _ _ _
              show aw_W _ _ _ _ 111 lv31 [] _ _
              have L111_31 : ∀ (N : Nat) (S33 : aj_S) (lv34 : aj_V) (x35 : Int32) (x36 : Int32) (x37 : Int32), (aj_lv lv34 0 = some (.ref 117)) → (aj_lv lv34 1 = some (.int x35)) → (aj_lv lv34 2 = some (.int x36)) → (aj_lv lv34 3 = some (.int x37)) → (aw_I s h (aw_B) S33) → (aw_fr [23, 24, 25, 26, 27, 28, 29, 30, 31, 32, 33, 34, 35, 36, 37, 38, 39, 40, 41, 43, 44, 45, 46, 47, 68] [10, 11, 12, 20, 22] S S33) → (aw_fr [] [12] S4 S33) → (0 ≤ x37.toInt ∧ x37.toInt ≤ 32) → (∀ j : Nat, (j : Int) < x37.toInt → S33.2.2.1 12 ((aw_hh S4 * 20 + (S4.2.2.1 10 (aw_hh S4)).toInt.toNat) * 32 + j) = S4.2.2.1 20 j) → (aw_held S33 (aw_hh S4) u0) → (x36.toInt = ((aw_hh S4 : Int) * 20 + (S4.2.2.1 10 (aw_hh S4)).toInt) * 32) → (32 - x37.toInt).toNat < N → aw_W tb h d aj_m281 111 lv34 [] S33 ((fun r S' => ak_Ty ak_TN s (aj_mh h S') ∧ aw_fr [23, 24, 25, 26, 27, 28, 29, 30, 31, 32, 33, 34, 35, 36, 37, 38, 39, 40, 41, 43, 44, 45, 46, 47, 68] [10, 11, 12, 20, 22] S S' ∧ (∃ z : Int32, r = some (.int z)) ∧ aw_B S' ∧ (S'.1 23).toInt = 0)) := by
                intro N
                induction N with
                | zero =>
                  intro S33 lv34 x35 x36 x37 hlv34_0 hlv34_1 hlv34_2 hlv34_3 hI38 fr39 fl40 bx37 cp111 hl111 p111 hm
                  omega
                | succ N ihL111_31 =>
                  intro S33 lv34 x35 x36 x37 hlv34_0 hlv34_1 hlv34_2 hlv34_3 hI38 fr39 fl40 bx37 cp111 hl111 p111 hm
                  have hI41 : aw_I s h (aw_sm S33) S33 := ⟨hI38.1, aw_sm_rf⟩
                  have c42 : (S33.1 0).toInt = (S.1 0).toInt := (congrArg Int32.toInt (fl40.1 0 (by decide)).1).trans c8
                  have b43 : 0 ≤ (S33.1 0).toInt ∧ (S33.1 0).toInt ≤ 1 := aw_bd_f hs (hI41).1 (by decide) rfl
                  have g10 : S33.2.2.1 10 = S4.2.2.1 10 := (fl40.2 10 (by decide)).1
                  have g5 : S33.2.2.1 5 = S4.2.2.1 5 := (fl40.2 5 (by decide)).1
                  have g20 : S33.2.2.1 20 = S4.2.2.1 20 := (fl40.2 20 (by decide)).1
                  have g0 : aw_hh S33 = aw_hh S4 := by unfold aw_hh; rw [(fl40.1 0 (by decide)).1]
                  refine aw_l0 aj_d281 rfl rfl hlv34_3 ?_
                  refine aw_n aj_d281 rfl rfl ?_
                  refine aw_c (tgt := 137) aj_d281 rfl rfl (fun q44 => ?_) (fun q44 => ?_)
                  · have q44 : x37.toInt ≥ (32 : Int) := aw_t_ge (a := x37.toInt) (b := (32 : Int)) rfl rfl q44
                    refine aw_l2 aj_d281 rfl rfl hlv34_0 ?_
                    refine aw_g hU.1 aj_d281 rfl rfl (by decide) (v := .ref 127) rfl ?_
                    refine aw_l2 aj_d281 rfl rfl hlv34_0 ?_
                    refine aw_g hU.1 aj_d281 rfl rfl (by decide) (v := .int (S33.1 0)) rfl ?_
                    refine aw_n aj_d281 rfl rfl ?_
                    refine aw_ld (k := 10) hU.1 aj_d281 (Or.inl ⟨rfl, rfl⟩) rfl (by decide) (by decide) rfl (a := (S.1 0).toInt) c42 (by omega) (by omega) (fun x45 ex45 => ?_)
                    have bx45 : 0 ≤ x45.toInt ∧ x45.toInt ≤ 20 := by
                      rw [ex45]
                      exact aw_bd_a hs (hI41).1 (k := 10) (by decide) (by decide) rfl (by decide) rfl (by omega)
                    have ftx45 : x45.toInt = (S.2.2.1 10 ((S.1 0).toInt).toNat).toInt := congrArg Int32.toInt (ex45.trans (congrFun ((fl40.2 10 (by decide)).1.trans ((fc4.2 10 (by decide)).1.trans rfl)) _))
                    have yP : x45.toInt = (S33.2.2.1 10 (aw_hh S33)).toInt := (congrArg Int32.toInt ex45).trans (by first | exact congrArg (fun j => (S33.2.2.1 10 j).toInt) (by unfold aw_hh; omega) | (rw [show (S33).2.2.1 10 = S33.2.2.1 10 from ((fl40.2 10 (by decide)).1.trans ((fc4.2 10 (by decide)).1.trans rfl))]; exact congrArg (fun j => (S33.2.2.1 10 j).toInt) (by unfold aw_hh; omega)))
                    refine aw_n aj_d281 rfl rfl ?_
                    refine aw_add aj_d281 rfl (a := x45.toInt) (b := (1 : Int)) rfl rfl (by omega) (by omega) (fun x46 ex46 => ?_)
                    refine aw_st (k := 10) hU.1 aj_d281 (Or.inl ⟨rfl, rfl⟩) rfl (by decide) (by decide) rfl (a := (S.1 0).toInt) c42 (by omega) (by omega) ?_
                    have hI47 : aw_I s h (aw_sm (aw_wa S33 10 ((S.1 0).toInt).toNat (aj_nar 0 x46))) (aw_wa S33 10 ((S.1 0).toInt).toNat (aj_nar 0 x46)) := ⟨aw_T_a hU.2.1 hs hU.1.1 (hI41).1 (by decide) (by decide) rfl (by decide) (by decide) rfl (aw_bp (a := x46.toInt) rfl (by omega) (by omega)), aw_sm_rf⟩
                    have fr48 := aw_fr_a (k := 10) (j := ((S.1 0).toInt).toNat) (v := aj_nar 0 x46) (by decide) fr39
                    have fl49 := aw_fr_a (k := 10) (j := ((S.1 0).toInt).toNat) (v := aj_nar 0 x46) (by decide) (aw_fr_rf : aw_fr [] [10, 11] S33 S33)
                    refine aw_l2 aj_d281 rfl rfl hlv34_0 ?_
                    refine aw_g hU.1 aj_d281 rfl rfl (by decide) (v := .ref 128) rfl ?_
                    refine aw_l2 aj_d281 rfl rfl hlv34_0 ?_
                    refine aw_g hU.1 aj_d281 rfl rfl (by decide) (v := .int (S33.1 0)) rfl ?_
                    refine aw_n aj_d281 rfl rfl ?_
                    refine aw_ld (k := 11) hU.1 aj_d281 (Or.inl ⟨rfl, rfl⟩) rfl (by decide) (by decide) rfl (a := (S.1 0).toInt) c42 (by omega) (by omega) (fun x50 ex50 => ?_)
                    have bx50 : 0 ≤ x50.toInt ∧ x50.toInt ≤ 8 := by
                      rw [ex50]
                      exact aw_bd_a hs (hI47).1 (k := 11) (by decide) (by decide) rfl (by decide) rfl (by omega)
                    have ftx50 : x50.toInt = (S.2.2.1 11 ((S.1 0).toInt).toNat).toInt := congrArg Int32.toInt (ex50.trans (congrFun ((fl40.2 11 (by decide)).1.trans ((fc4.2 11 (by decide)).1.trans rfl)) _))
                    have yL : x50.toInt = (S33.2.2.1 11 (aw_hh S33)).toInt := (congrArg Int32.toInt ex50).trans (by first | exact congrArg (fun j => (S33.2.2.1 11 j).toInt) (by unfold aw_hh; omega) | (rw [show ((aw_wa S33 10 ((S.1 0).toInt).toNat (aj_nar 0 x46))).2.2.1 11 = S33.2.2.1 11 from ((fl40.2 11 (by decide)).1.trans ((fc4.2 11 (by decide)).1.trans rfl))]; exact congrArg (fun j => (S33.2.2.1 11 j).toInt) (by unfold aw_hh; omega)))
                    refine aw_n aj_d281 rfl rfl ?_
                    refine aw_add aj_d281 rfl (a := x50.toInt) (b := (1 : Int)) rfl rfl (by omega) (by omega) (fun x51 ex51 => ?_)
                    refine aw_st (k := 11) hU.1 aj_d281 (Or.inl ⟨rfl, rfl⟩) rfl (by decide) (by decide) rfl (a := (S.1 0).toInt) c42 (by omega) (by omega) ?_
                    have hI52 : aw_I s h (aw_sm (aw_wa (aw_wa S33 10 ((S.1 0).toInt).toNat (aj_nar 0 x46)) 11 ((S.1 0).toInt).toNat (aj_nar 0 x51))) (aw_wa (aw_wa S33 10 ((S.1 0).toInt).toNat (aj_nar 0 x46)) 11 ((S.1 0).toInt).toNat (aj_nar 0 x51)) := ⟨aw_T_a hU.2.1 hs hU.1.1 (hI47).1 (by decide) (by decide) rfl (by decide) (by decide) rfl (aw_bp (a := x51.toInt) rfl (by omega) (by omega)), aw_sm_rf⟩
                    have fr53 := aw_fr_a (k := 11) (j := ((S.1 0).toInt).toNat) (v := aj_nar 0 x51) (by decide) fr48
                    have fl54 := aw_fr_a (k := 11) (j := ((S.1 0).toInt).toNat) (v := aj_nar 0 x51) (by decide) fl49
                    have hG55 : aw_B (aw_wa (aw_wa S33 10 ((S.1 0).toInt).toNat (aj_nar 0 x46)) 11 ((S.1 0).toInt).toNat (aj_nar 0 x51)) := by
                      refine aw_B_learn hI38.2 (by rw [g0, g5]; omega) (by rw [g0]; exact lh) (by rw [g0, g10]; omega) fl54 (x := aj_nar 0 x46) (y := aj_nar 0 x51) ?_ ?_ ?_ ?_ ?_ ?_
                      · exact congrArg (fun j => upd (S33.2.2.1 10) j (aj_nar 0 x46)) (show ((S.1 0).toInt).toNat = aw_hh S33 by rw [g0]; unfold aw_hh; omega)
                      · exact congrArg (fun j => upd (S33.2.2.1 11) j (aj_nar 0 x51)) (show ((S.1 0).toInt).toNat = aw_hh S33 by rw [g0]; unfold aw_hh; omega)
                      · show (x46).toInt = _
                        rw [ex46, yP]
                      · show (x51).toInt = _
                        rw [ex51, yL]
                      · rw [g0, g5, g20]
                        exact ⟨u0, u1, hl111, u3⟩
                      · rw [g0, g10, g20]
                        exact fun j hj => cp111 j (by omega)
                    have hI56 : aw_I s h (aw_sm (aw_wa (aw_wa S33 10 ((S.1 0).toInt).toNat (aj_nar 0 x46)) 11 ((S.1 0).toInt).toNat (aj_nar 0 x51))) (aw_wa (aw_wa S33 10 ((S.1 0).toInt).toNat (aj_nar 0 x46)) 11 ((S.1 0).toInt).toNat (aj_nar 0 x51)) := ⟨(hI52).1, aw_sm_rf⟩
                    refine aw_l2 aj_d281 rfl rfl hlv34_0 ?_
                    refine aw_n aj_d281 rfl rfl ?_
                    refine aw_g hU.1 aj_d281 rfl rfl (by decide) (v := .long (S33.2.1 68)) rfl ?_
                    refine aw_anyl aj_d281 rfl rfl (fun y57 ey57 => ?_)
                    refine aw_anyl aj_d281 rfl rfl (fun y58 ey58 => ?_)
                    refine aw_pl hU.1 aj_d281 rfl rfl (by decide) rfl ?_
                    have hI59 := aw_I_l (aw_UV hU aw_Gs_sm) (k := 68) (v := y58) hI56 (by decide)
                    have fr60 := aw_fr_l (k := 68) (v := y58) (by decide) fr53
                    refine aw_l0 aj_d281 rfl rfl hlv34_1 ?_
                    refine aw_e aj_d281 rfl rfl ?_
                    have c61 : (S33.1 23).toInt = (S4.1 23).toInt := (congrArg Int32.toInt (fl40.1 23 (by decide)).1).trans rfl
                    have b62 : 0 ≤ (S33.1 23).toInt ∧ (S33.1 23).toInt ≤ 4000 := aw_bd_f hs (hI41).1 (by decide) rfl
                    exact ⟨(hI59).1, fr60, ⟨_, rfl⟩, (aw_B_sm hI59.2 hG55), (show ((S33.1 23)).toInt = 0 by omega)⟩
                  · have q44 : x37.toInt < (32 : Int) := aw_t_ge (a := x37.toInt) (b := (32 : Int)) rfl rfl q44
                    refine aw_l2 aj_d281 rfl rfl hlv34_0 ?_
                    refine aw_g hU.1 aj_d281 rfl rfl (by decide) (v := .ref 129) rfl ?_
                    refine aw_l0 aj_d281 rfl rfl hlv34_2 ?_
                    refine aw_l0 aj_d281 rfl rfl hlv34_3 ?_
                    refine aw_add aj_d281 rfl (a := x36.toInt) (b := x37.toInt) rfl rfl (by omega) (by omega) (fun x63 ex63 => ?_)
                    refine aw_l2 aj_d281 rfl rfl hlv34_0 ?_
                    refine aw_g hU.1 aj_d281 rfl rfl (by decide) (v := .ref 137) rfl ?_
                    refine aw_l0 aj_d281 rfl rfl hlv34_3 ?_
                    refine aw_ld (k := 20) hU.1 aj_d281 (Or.inl ⟨rfl, rfl⟩) rfl (by decide) (by decide) rfl (a := x37.toInt) rfl (by omega) (by omega) (fun x64 ex64 => ?_)
                    refine aw_st (k := 12) hU.1 aj_d281 (Or.inl ⟨rfl, rfl⟩) rfl (by decide) (by decide) rfl (a := x63.toInt) rfl (by omega) (by omega) ?_
                    have hI65 : aw_I s h (aw_sm (aw_wa S33 12 (x63.toInt).toNat (aj_nar 0 x64))) (aw_wa S33 12 (x63.toInt).toNat (aj_nar 0 x64)) := ⟨aw_T_a hU.2.1 hs hU.1.1 (hI41).1 (by decide) (by decide) rfl (by decide) (by decide) rfl (aw_full _), aw_sm_rf⟩
                    have fr66 := aw_fr_a (k := 12) (j := (x63.toInt).toNat) (v := aj_nar 0 x64) (by decide) fr39
                    have fl67 := aw_fr_a (k := 12) (j := (x63.toInt).toNat) (v := aj_nar 0 x64) (by decide) fl40
                    have hi12 : (((x63.toInt).toNat : Nat) : Int) / 32 = aw_hh S33 * 20 + (S33.2.2.1 10 (aw_hh S33)).toInt := by
                      rw [g0, g10]
                      unfold aw_hh at *
                      omega
                    have hG68 : aw_B (aw_wa S33 12 (x63.toInt).toNat (aj_nar 0 x64)) := aw_B_p12 hI38.2 (by rw [g0, g5]; omega) (by rw [g0]; exact lh) (by rw [g0, g10]; omega) hi12
                    have hl9 : aw_held (aw_wa S33 12 (x63.toInt).toNat (aj_nar 0 x64)) (aw_hh S4) u0 := by
                      refine aw_held_u (by omega) (by rw [g10]; omega) lh (fun p hp => ?_) hl111
                      rw [g0, g10] at hi12
                      rw [g10] at hp
                      omega
                    have cp9 : ∀ j : Nat, (j : Int) < x37.toInt + 1 → (aw_wa S33 12 (x63.toInt).toNat (aj_nar 0 x64)).2.2.1 12 ((aw_hh S4 * 20 + (S4.2.2.1 10 (aw_hh S4)).toInt.toNat) * 32 + j) = S4.2.2.1 20 j := by
                      intro j hj
                      show upd (S33.2.2.1 12) (x63.toInt).toNat (aj_nar 0 x64) _ = _
                      have hi13 : (x63.toInt).toNat = (aw_hh S4 * 20 + (S4.2.2.1 10 (aw_hh S4)).toInt.toNat) * 32 + (x37.toInt).toNat := by
                        rw [g0, g10] at hi12
                        unfold aw_hh at *
                        omega
                      unfold upd
                      by_cases e : j = (x37.toInt).toNat
                      · rw [if_pos (by omega), e]
                        show x64 = _
                        rw [ex64]
                        exact congrFun g20 _
                      · rw [if_neg (by omega)]
                        exact cp111 j (by omega)
                    have hI69 : aw_I s h (aw_sm (aw_wa S33 12 (x63.toInt).toNat (aj_nar 0 x64))) (aw_wa S33 12 (x63.toInt).toNat (aj_nar 0 x64)) := ⟨(hI65).1, aw_sm_rf⟩
                    refine aw_inc aj_d281 rfl hlv34_3 (a := x37.toInt) rfl (by omega) (by omega) (by decide) (by decide) (fun x70 ex70 => ?_)
                    obtain ⟨lv71, elv71⟩ : ∃ l, l = aj_set1 lv34 3 (.int x70) := ⟨_, rfl⟩
                    rw [← elv71]
                    have hlv71_0 : aj_lv lv71 0 = some (.ref 117) := cw_e1 elv71 hlv34_0 (by decide) (Or.inl (by decide))
                    have hlv71_1 : aj_lv lv71 1 = some (.int x35) := cw_e1 elv71 hlv34_1 (by decide) (Or.inl (by decide))
                    have hlv71_2 : aj_lv lv71 2 = some (.int x36) := cw_e1 elv71 hlv34_2 (by decide) (Or.inr rfl)
                    have hlv71_3 : aj_lv lv71 3 = some (.int x70) := by rw [elv71]; exact ak_set1_eq _ _ _
                    show aw_W _ _ _ _ 134 lv71 [] _ _
                    refine aw_n aj_d281 rfl rfl ?_
                    exact ihL111_31 (aw_wa S33 12 (x63.toInt).toNat (aj_nar 0 x64)) lv71 (x35) (x36) (x70) hlv71_0 hlv71_1 hlv71_2 hlv71_3 ⟨(hI69).1, hG68⟩ fr66 fl67 (by omega) (fun j hj => cp9 j (by omega)) hl9 p111 (by omega)
              exact L111_31 _ S4 lv31 (x17) (x29) ((Int32.ofInt 0)) hlv31_0 hlv31_1 hlv31_2 hlv31_3 ⟨(hI6).1, hB4⟩ fr5 (aw_fr_rf : aw_fr [] [12] S4 S4) (by first | omega | decide) (fun j hj => absurd hj (by show ¬ ((j : Int) < 0); omega)) u2 (by unfold aw_hh at *; omega) (Nat.lt_succ_self _)
            · have q25 : x24.toInt = (8 : Int) := aw_t_ne (a := x24.toInt) (b := (8 : Int)) rfl rfl q25
              refine aw_n aj_d281 rfl rfl ?_
              refine aw_e aj_d281 rfl rfl ?_
              exact ⟨(hI6).1, fr5, ⟨_, rfl⟩, hB4, (show ((S4.1 23)).toInt = 0 by omega)⟩
          · have q23 : x17.toInt = (0 : Int) := aw_t_ne (a := x17.toInt) (b := (0 : Int)) rfl rfl q23
            refine aw_n aj_d281 rfl rfl ?_
            refine aw_e aj_d281 rfl rfl ?_
            exact ⟨(hI6).1, fr5, ⟨_, rfl⟩, hB4, (show ((S4.1 23)).toInt = 0 by omega)⟩
        · have q22 : x18.toInt < x21.toInt := aw_t_ge (a := x18.toInt) (b := x21.toInt) rfl rfl q22
          refine aw_l2 aj_d281 rfl rfl hlv16_0 ?_
          refine aw_l2 aj_d281 rfl rfl hlv16_0 ?_
          refine aw_g hU.1 aj_d281 rfl rfl (by decide) (v := .int (S4.1 0)) rfl ?_
          refine aw_l0 aj_d281 rfl rfl hlv16_2 ?_
          refine aw_k hU.1 aj_d281 rfl rfl [_, _] rfl rfl rfl (Nat.le_of_ble_eq_true rfl) (ar_isHeld hU (hI6).1 (by omega) (t := (S4.1 0)) (x := x18) (by omega) (by omega)) ?_
          rintro _ zb72 ⟨fb72, b72, rfl, kb72⟩
          rw [fb72]
          rcases kb72 with ⟨hb72, pb72⟩ | ⟨hb72, pb72⟩
          · skip
            show aw_W _ _ _ _ 35 lv16 [.int b72] _ _
            refine aw_z (tgt := 56) aj_d281 rfl rfl (fun q73 => ?_) (fun q73 => ?_)
            · have q73 : (1 : Int) = (0 : Int) := aw_t_eq (a := (1 : Int)) (b := (0 : Int)) hb72 rfl q73
              exfalso
              omega
            · have q73 : (1 : Int) ≠ (0 : Int) := aw_t_eq (a := (1 : Int)) (b := (0 : Int)) hb72 rfl q73
              refine aw_l2 aj_d281 rfl rfl hlv16_0 ?_
              refine aw_g hU.1 aj_d281 rfl rfl (by decide) (v := .ref 137) rfl ?_
              refine aw_n aj_d281 rfl rfl ?_
              refine aw_l0 aj_d281 rfl rfl hlv16_2 ?_
              refine aw_ks aj_d281 rfl rfl rfl [_, _, _] rfl rfl (Nat.le_of_ble_eq_true rfl) (ar_bit hU (by omega) (k := 20) (n := 1024) (by decide) (by decide) rfl (a := (0 : Int)) (b := x18.toInt) rfl rfl (by omega) (by omega) (by omega) (by decide)) ?_
              rintro _ zx74 ⟨fx74, x74, rfl, hx74, ex74⟩
              rw [fx74]
              show aw_W _ _ _ _ 47 lv16 [.int x74] _ _
              refine aw_z (tgt := 56) aj_d281 rfl rfl (fun q75 => ?_) (fun q75 => ?_)
              · have q75 : x74.toInt = (0 : Int) := aw_t_eq (a := x74.toInt) (b := (0 : Int)) rfl rfl q75
                refine aw_l0 aj_d281 rfl rfl hlv16_1 ?_
                refine aw_t0 (j := 1) aj_d281 rfl (by decide) rfl ?_
                obtain ⟨lv76, elv76⟩ : ∃ l, l = aj_set1 lv16 1 (.int x17) := ⟨_, rfl⟩
                rw [← elv76]
                have hlv76_0 : aj_lv lv76 0 = some (.ref 117) := cw_e1 elv76 hlv16_0 (by decide) (Or.inr rfl)
                have hlv76_2 : aj_lv lv76 2 = some (.int x18) := cw_e1 elv76 hlv16_2 (by decide) (Or.inl (by decide))
                have hlv76_1 : aj_lv lv76 1 = some (.int x17) := by rw [elv76]; exact ak_set1_eq _ _ _
                show aw_W _ _ _ _ 58 lv76 [] _ _
                refine aw_inc aj_d281 rfl hlv76_2 (a := x18.toInt) rfl (by omega) (by omega) (by decide) (by decide) (fun x77 ex77 => ?_)
                obtain ⟨lv78, elv78⟩ : ∃ l, l = aj_set1 lv76 2 (.int x77) := ⟨_, rfl⟩
                rw [← elv78]
                have hlv78_0 : aj_lv lv78 0 = some (.ref 117) := cw_e1 elv78 hlv76_0 (by decide) (Or.inl (by decide))
                have hlv78_1 : aj_lv lv78 1 = some (.int x17) := cw_e1 elv78 hlv76_1 (by decide) (Or.inr rfl)
                have hlv78_2 : aj_lv lv78 2 = some (.int x77) := by rw [elv78]; exact ak_set1_eq _ _ _
                show aw_W _ _ _ _ 61 lv78 [] _ _
                refine aw_n aj_d281 rfl rfl ?_
                exact ihL13_13 lv78 (x17) (x77) hlv78_0 hlv78_1 hlv78_2 (by omega) (by omega) (by omega) (ar_mk (fun z => ar_un ex13 (by omega))) (by omega)
              · have q75 : x74.toInt ≠ (0 : Int) := aw_t_eq (a := x74.toInt) (b := (0 : Int)) rfl rfl q75
                refine aw_l0 aj_d281 rfl rfl hlv16_1 ?_
                refine aw_n aj_d281 rfl rfl ?_
                refine aw_add aj_d281 rfl (a := x17.toInt) (b := (1 : Int)) rfl rfl (by omega) (by omega) (fun x79 ex79 => ?_)
                refine aw_n aj_d281 rfl rfl ?_
                refine aw_t0 (j := 1) aj_d281 rfl (by decide) rfl ?_
                obtain ⟨lv80, elv80⟩ : ∃ l, l = aj_set1 lv16 1 (.int x79) := ⟨_, rfl⟩
                rw [← elv80]
                have hlv80_0 : aj_lv lv80 0 = some (.ref 117) := cw_e1 elv80 hlv16_0 (by decide) (Or.inr rfl)
                have hlv80_2 : aj_lv lv80 2 = some (.int x18) := cw_e1 elv80 hlv16_2 (by decide) (Or.inl (by decide))
                have hlv80_1 : aj_lv lv80 1 = some (.int x79) := by rw [elv80]; exact ak_set1_eq _ _ _
                show aw_W _ _ _ _ 58 lv80 [] _ _
                refine aw_inc aj_d281 rfl hlv80_2 (a := x18.toInt) rfl (by omega) (by omega) (by decide) (by decide) (fun x81 ex81 => ?_)
                obtain ⟨lv82, elv82⟩ : ∃ l, l = aj_set1 lv80 2 (.int x81) := ⟨_, rfl⟩
                rw [← elv82]
                have hlv82_0 : aj_lv lv82 0 = some (.ref 117) := cw_e1 elv82 hlv80_0 (by decide) (Or.inl (by decide))
                have hlv82_1 : aj_lv lv82 1 = some (.int x79) := cw_e1 elv82 hlv80_1 (by decide) (Or.inr rfl)
                have hlv82_2 : aj_lv lv82 2 = some (.int x81) := by rw [elv82]; exact ak_set1_eq _ _ _
                show aw_W _ _ _ _ 61 lv82 [] _ _
                refine aw_n aj_d281 rfl rfl ?_
                exact ihL13_13 lv82 (x79) (x81) hlv82_0 hlv82_1 hlv82_2 (by omega) (by omega) (by omega) (ar_mk (fun _ => ⟨(x18.toInt).toNat, by omega, pb72, (by rw [show nI 0 = (Int32.ofInt 0) from rfl, show nI (x18.toInt).toNat = x18 from (aw_nI (by omega) (by omega)).symm, ← ex74]; omega)⟩)) (by omega)
          · skip
            show aw_W _ _ _ _ 35 lv16 [.int b72] _ _
            refine aw_z (tgt := 56) aj_d281 rfl rfl (fun q83 => ?_) (fun q83 => ?_)
            · have q83 : (0 : Int) = (0 : Int) := aw_t_eq (a := (0 : Int)) (b := (0 : Int)) hb72 rfl q83
              refine aw_l0 aj_d281 rfl rfl hlv16_1 ?_
              refine aw_t0 (j := 1) aj_d281 rfl (by decide) rfl ?_
              obtain ⟨lv84, elv84⟩ : ∃ l, l = aj_set1 lv16 1 (.int x17) := ⟨_, rfl⟩
              rw [← elv84]
              have hlv84_0 : aj_lv lv84 0 = some (.ref 117) := cw_e1 elv84 hlv16_0 (by decide) (Or.inr rfl)
              have hlv84_2 : aj_lv lv84 2 = some (.int x18) := cw_e1 elv84 hlv16_2 (by decide) (Or.inl (by decide))
              have hlv84_1 : aj_lv lv84 1 = some (.int x17) := by rw [elv84]; exact ak_set1_eq _ _ _
              show aw_W _ _ _ _ 58 lv84 [] _ _
              refine aw_inc aj_d281 rfl hlv84_2 (a := x18.toInt) rfl (by omega) (by omega) (by decide) (by decide) (fun x85 ex85 => ?_)
              obtain ⟨lv86, elv86⟩ : ∃ l, l = aj_set1 lv84 2 (.int x85) := ⟨_, rfl⟩
              rw [← elv86]
              have hlv86_0 : aj_lv lv86 0 = some (.ref 117) := cw_e1 elv86 hlv84_0 (by decide) (Or.inl (by decide))
              have hlv86_1 : aj_lv lv86 1 = some (.int x17) := cw_e1 elv86 hlv84_1 (by decide) (Or.inr rfl)
              have hlv86_2 : aj_lv lv86 2 = some (.int x85) := by rw [elv86]; exact ak_set1_eq _ _ _
              show aw_W _ _ _ _ 61 lv86 [] _ _
              refine aw_n aj_d281 rfl rfl ?_
              exact ihL13_13 lv86 (x17) (x85) hlv86_0 hlv86_1 hlv86_2 (by omega) (by omega) (by omega) (ar_mk (fun z => ar_un ex13 (by omega))) (by omega)
            · have q83 : (0 : Int) ≠ (0 : Int) := aw_t_eq (a := (0 : Int)) (b := (0 : Int)) hb72 rfl q83
              exfalso
              omega
    exact L13_13 _ lv13 ((Int32.ofInt 0)) ((Int32.ofInt 0)) hlv13_0 hlv13_1 hlv13_2 (by first | omega | decide) (by first | omega | decide) (by omega) (ar_mk (fun z => absurd z (by decide))) (Nat.lt_succ_self _)
  · have q11 : b4.toInt = (0 : Int) := aw_t_ne (a := b4.toInt) (b := (0 : Int)) rfl rfl q11
    refine aw_n aj_d281 rfl rfl ?_
    refine aw_e aj_d281 rfl rfl ?_
    exact ⟨(hI6).1, fr5, ⟨_, rfl⟩, hB4, (show ((S4.1 23)).toInt = 0 by omega)⟩
theorem ar_undo (hU : aw_U tb s h) (hT : ak_Ty ak_TN s (aj_mh h S)) (hG : aw_B S) (hd : 1 ≤ d) : aw_K tb h d 283 [.ref 117] S (fun r S' => ak_Ty ak_TN s (aj_mh h S') ∧ aw_fr [68] [10, 11] S S' ∧ (∃ z : Int32, r = some (.int z)) ∧ aw_B S') := by
  obtain ⟨d, rfl⟩ : ∃ e, d = e + 1 := ⟨d - 1, by omega⟩
  have k4 := hG.2.2.2
  have lh : aw_hh S ≤ 1 := by
    have b := aw_bd_f (aw_hy_sT hU.2.2) hT (k := 0) (lo := 0) (hi := 1) (by decide) rfl
    unfold aw_hh
    omega
  have b10 := aw_bd_a (aw_hy_sT hU.2.2) hT (k := 10) (j := aw_hh S) (lo := 0) (hi := 20) (by decide) (by decide) rfl (by decide) rfl (by omega)
  have b11 := aw_bd_a (aw_hy_sT hU.2.2) hT (k := 11) (j := aw_hh S) (lo := 0) (hi := 8) (by decide) (by decide) rfl (by decide) rfl (by omega)
  have hs : aw_sT s := aw_hy_sT hU.2.2
  refine aw_m aj_m283_at rfl (Nat.le_of_ble_eq_true rfl) ?_
  show aw_W _ _ _ _ 0 [(0, .ref 117)] [] _ _
  obtain ⟨lv87, elv87⟩ : ∃ l : aj_V, l = [(0, .ref 117)] := ⟨_, rfl⟩
  rw [← elv87]
  have hlv87_0 : aj_lv lv87 0 = some (.ref 117) := by rw [elv87]; rfl
  have hI88 : aw_I s h (aw_sm S) S := ⟨hT, aw_sm_rf⟩
  have fr89 : aw_fr [68] [10, 11] S S := aw_fr_rf
  refine aw_l2 aj_d283 rfl rfl hlv87_0 ?_
  refine aw_g hU.1 aj_d283 rfl rfl (by decide) (v := .ref 128) rfl ?_
  refine aw_l2 aj_d283 rfl rfl hlv87_0 ?_
  have b90 : 0 ≤ (S.1 0).toInt ∧ (S.1 0).toInt ≤ 1 := aw_bd_f hs (hI88).1 (by decide) rfl
  refine aw_g hU.1 aj_d283 rfl rfl (by decide) (v := .int (S.1 0)) rfl ?_
  refine aw_ld (k := 11) hU.1 aj_d283 (Or.inl ⟨rfl, rfl⟩) rfl (by decide) (by decide) rfl (a := (S.1 0).toInt) rfl (by omega) (by omega) (fun x91 ex91 => ?_)
  have bx91 : 0 ≤ x91.toInt ∧ x91.toInt ≤ 8 := by
    rw [ex91]
    exact aw_bd_a hs (hI88).1 (k := 11) (by decide) (by decide) rfl (by decide) rfl (by omega)
  have y11 : x91.toInt = (S.2.2.1 11 (aw_hh S)).toInt := (congrArg Int32.toInt ex91).trans (by first | exact congrArg (fun j => (S.2.2.1 11 j).toInt) (by unfold aw_hh; omega) | (rw [show (S).2.2.1 11 = S.2.2.1 11 from rfl]; exact congrArg (fun j => (S.2.2.1 11 j).toInt) (by unfold aw_hh; omega)))
  refine aw_z (tgt := 14) aj_d283 rfl rfl (fun q92 => ?_) (fun q92 => ?_)
  · have q92 : x91.toInt ≠ (0 : Int) := aw_t_ne (a := x91.toInt) (b := (0 : Int)) rfl rfl q92
    refine aw_l2 aj_d283 rfl rfl hlv87_0 ?_
    refine aw_g hU.1 aj_d283 rfl rfl (by decide) (v := .ref 128) rfl ?_
    refine aw_l2 aj_d283 rfl rfl hlv87_0 ?_
    refine aw_g hU.1 aj_d283 rfl rfl (by decide) (v := .int (S.1 0)) rfl ?_
    refine aw_n aj_d283 rfl rfl ?_
    refine aw_ld (k := 11) hU.1 aj_d283 (Or.inl ⟨rfl, rfl⟩) rfl (by decide) (by decide) rfl (a := (S.1 0).toInt) rfl (by omega) (by omega) (fun x93 ex93 => ?_)
    have bx93 : 0 ≤ x93.toInt ∧ x93.toInt ≤ 8 := by
      rw [ex93]
      exact aw_bd_a hs (hI88).1 (k := 11) (by decide) (by decide) rfl (by decide) rfl (by omega)
    have yL : x93.toInt = (S.2.2.1 11 (aw_hh S)).toInt := (congrArg Int32.toInt ex93).trans (by first | exact congrArg (fun j => (S.2.2.1 11 j).toInt) (by unfold aw_hh; omega) | (rw [show (S).2.2.1 11 = S.2.2.1 11 from rfl]; exact congrArg (fun j => (S.2.2.1 11 j).toInt) (by unfold aw_hh; omega)))
    refine aw_n aj_d283 rfl rfl ?_
    refine aw_sub aj_d283 rfl (a := x93.toInt) (b := (1 : Int)) rfl rfl (by omega) (by omega) (fun x94 ex94 => ?_)
    refine aw_st (k := 11) hU.1 aj_d283 (Or.inl ⟨rfl, rfl⟩) rfl (by decide) (by decide) rfl (a := (S.1 0).toInt) rfl (by omega) (by omega) ?_
    have hI95 : aw_I s h (aw_sm (aw_wa S 11 ((S.1 0).toInt).toNat (aj_nar 0 x94))) (aw_wa S 11 ((S.1 0).toInt).toNat (aj_nar 0 x94)) := ⟨aw_T_a hU.2.1 hs hU.1.1 (hI88).1 (by decide) (by decide) rfl (by decide) (by decide) rfl (aw_bp (a := x94.toInt) rfl (by omega) (by omega)), aw_sm_rf⟩
    have fr96 := aw_fr_a (k := 11) (j := ((S.1 0).toInt).toNat) (v := aj_nar 0 x94) (by decide) fr89
    have fl97 := aw_fr_a (k := 11) (j := ((S.1 0).toInt).toNat) (v := aj_nar 0 x94) (by decide) (aw_fr_rf : aw_fr [] [10, 11] S S)
    refine aw_l2 aj_d283 rfl rfl hlv87_0 ?_
    refine aw_g hU.1 aj_d283 rfl rfl (by decide) (v := .ref 127) rfl ?_
    refine aw_l2 aj_d283 rfl rfl hlv87_0 ?_
    refine aw_g hU.1 aj_d283 rfl rfl (by decide) (v := .int (S.1 0)) rfl ?_
    refine aw_n aj_d283 rfl rfl ?_
    refine aw_ld (k := 10) hU.1 aj_d283 (Or.inl ⟨rfl, rfl⟩) rfl (by decide) (by decide) rfl (a := (S.1 0).toInt) rfl (by omega) (by omega) (fun x98 ex98 => ?_)
    have bx98 : 0 ≤ x98.toInt ∧ x98.toInt ≤ 20 := by
      rw [ex98]
      exact aw_bd_a hs (hI95).1 (k := 10) (by decide) (by decide) rfl (by decide) rfl (by omega)
    have yP : x98.toInt = (S.2.2.1 10 (aw_hh S)).toInt := (congrArg Int32.toInt ex98).trans (by first | exact congrArg (fun j => (S.2.2.1 10 j).toInt) (by unfold aw_hh; omega) | (rw [show ((aw_wa S 11 ((S.1 0).toInt).toNat (aj_nar 0 x94))).2.2.1 10 = S.2.2.1 10 from rfl]; exact congrArg (fun j => (S.2.2.1 10 j).toInt) (by unfold aw_hh; omega)))
    refine aw_n aj_d283 rfl rfl ?_
    refine aw_sub aj_d283 rfl (a := x98.toInt) (b := (1 : Int)) rfl rfl (by omega) (by omega) (fun x99 ex99 => ?_)
    refine aw_st (k := 10) hU.1 aj_d283 (Or.inl ⟨rfl, rfl⟩) rfl (by decide) (by decide) rfl (a := (S.1 0).toInt) rfl (by omega) (by omega) ?_
    have hI100 : aw_I s h (aw_sm (aw_wa (aw_wa S 11 ((S.1 0).toInt).toNat (aj_nar 0 x94)) 10 ((S.1 0).toInt).toNat (aj_nar 0 x99))) (aw_wa (aw_wa S 11 ((S.1 0).toInt).toNat (aj_nar 0 x94)) 10 ((S.1 0).toInt).toNat (aj_nar 0 x99)) := ⟨aw_T_a hU.2.1 hs hU.1.1 (hI95).1 (by decide) (by decide) rfl (by decide) (by decide) rfl (aw_bp (a := x99.toInt) rfl (by omega) (by omega)), aw_sm_rf⟩
    have fr101 := aw_fr_a (k := 10) (j := ((S.1 0).toInt).toNat) (v := aj_nar 0 x99) (by decide) fr96
    have fl102 := aw_fr_a (k := 10) (j := ((S.1 0).toInt).toNat) (v := aj_nar 0 x99) (by decide) fl97
    have hG103 : aw_B (aw_wa (aw_wa S 11 ((S.1 0).toInt).toNat (aj_nar 0 x94)) 10 ((S.1 0).toInt).toNat (aj_nar 0 x99)) := by
      refine aw_B_undo hG fl102 (x := aj_nar 0 x99) (y := aj_nar 0 x94) ?_ ?_ ?_ ?_
      · exact congrArg (fun j => upd (S.2.2.1 10) j (aj_nar 0 x99)) (show ((S.1 0).toInt).toNat = aw_hh S by unfold aw_hh; omega)
      · exact congrArg (fun j => upd (S.2.2.1 11) j (aj_nar 0 x94)) (show ((S.1 0).toInt).toNat = aw_hh S by unfold aw_hh; omega)
      · show (x99).toInt = _
        rw [ex99, yP]
      · show (x94).toInt = _
        rw [ex94, yL]
    have hI104 : aw_I s h (aw_sm (aw_wa (aw_wa S 11 ((S.1 0).toInt).toNat (aj_nar 0 x94)) 10 ((S.1 0).toInt).toNat (aj_nar 0 x99))) (aw_wa (aw_wa S 11 ((S.1 0).toInt).toNat (aj_nar 0 x94)) 10 ((S.1 0).toInt).toNat (aj_nar 0 x99)) := ⟨(hI100).1, aw_sm_rf⟩
    refine aw_l2 aj_d283 rfl rfl hlv87_0 ?_
    refine aw_n aj_d283 rfl rfl ?_
    refine aw_g hU.1 aj_d283 rfl rfl (by decide) (v := .long (S.2.1 68)) rfl ?_
    refine aw_anyl aj_d283 rfl rfl (fun y105 ey105 => ?_)
    refine aw_anyl aj_d283 rfl rfl (fun y106 ey106 => ?_)
    refine aw_pl hU.1 aj_d283 rfl rfl (by decide) rfl ?_
    have hI107 := aw_I_l (aw_UV hU aw_Gs_sm) (k := 68) (v := y106) hI104 (by decide)
    have fr108 := aw_fr_l (k := 68) (v := y106) (by decide) fr101
    refine aw_n aj_d283 rfl rfl ?_
    refine aw_e aj_d283 rfl rfl ?_
    exact ⟨(hI107).1, fr108, ⟨_, rfl⟩, (aw_B_sm hI107.2 hG103)⟩
  · have q92 : x91.toInt = (0 : Int) := aw_t_ne (a := x91.toInt) (b := (0 : Int)) rfl rfl q92
    refine aw_n aj_d283 rfl rfl ?_
    refine aw_e aj_d283 rfl rfl ?_
    exact ⟨(hI88).1, fr89, ⟨_, rfl⟩, hG⟩
theorem ar_byteRow (hU : aw_U tb s h) (hT : ak_Ty ak_TN s (aj_mh h S)) (hd : 1 ≤ d) {x : Int32} (h23 : (S.1 23).toInt ≤ 3996) : aw_K tb h d 201 [.ref 117, .int x] S (fun r S' => ak_Ty ak_TN s (aj_mh h S') ∧ aw_fr [23] [21] S S' ∧ r = none ∧ (S'.1 23).toInt = (S.1 23).toInt + 4) := by
  obtain ⟨d, rfl⟩ : ∃ e, d = e + 1 := ⟨d - 1, by omega⟩
  have hs : aw_sT s := aw_hy_sT hU.2.2
  refine aw_m aj_m201_at rfl (Nat.le_of_ble_eq_true rfl) ?_
  show aw_W _ _ _ _ 0 [(0, .ref 117), (1, .int x)] [] _ _
  obtain ⟨lv109, elv109⟩ : ∃ l : aj_V, l = [(0, .ref 117), (1, .int x)] := ⟨_, rfl⟩
  rw [← elv109]
  have hlv109_0 : aj_lv lv109 0 = some (.ref 117) := by rw [elv109]; rfl
  have hlv109_1 : aj_lv lv109 1 = some (.int x) := by rw [elv109]; rfl
  have hI110 : aw_I s h (aw_sm S) S := ⟨hT, aw_sm_rf⟩
  have fr111 : aw_fr [23] [21] S S := aw_fr_rf
  refine aw_n aj_d201 rfl rfl ?_
  refine aw_t0 (j := 2) aj_d201 rfl (by decide) rfl ?_
  obtain ⟨lv112, elv112⟩ : ∃ l, l = aj_set1 lv109 2 (.int (Int32.ofInt 3)) := ⟨_, rfl⟩
  rw [← elv112]
  have hlv112_0 : aj_lv lv112 0 = some (.ref 117) := cw_e1 elv112 hlv109_0 (by decide) (Or.inl (by decide))
  have hlv112_1 : aj_lv lv112 1 = some (.int x) := cw_e1 elv112 hlv109_1 (by decide) (Or.inr rfl)
  have hlv112_2 : aj_lv lv112 2 = some (.int (Int32.ofInt 3)) := by rw [elv112]; exact ak_set1_eq _ _ _
  show aw_W _ _ _ _ 2 lv112 [] _ _
  have L2_112 : ∀ (N : Nat) (S114 : aj_S) (lv115 : aj_V) (x116 : Int32), (aj_lv lv115 0 = some (.ref 117)) → (aj_lv lv115 1 = some (.int x)) → (aj_lv lv115 2 = some (.int x116)) → (aw_I s h ((fun _ => True)) S114) → (aw_fr [23] [21] S S114) → ((-1) ≤ x116.toInt ∧ x116.toInt ≤ 3) → ((S114.1 23).toInt + x116.toInt = (S.1 23).toInt + 3) → (x116.toInt + 1).toNat < N → aw_W tb h d aj_m201 2 lv115 [] S114 ((fun r S' => ak_Ty ak_TN s (aj_mh h S') ∧ aw_fr [23] [21] S S' ∧ r = none ∧ (S'.1 23).toInt = (S.1 23).toInt + 4)) := by
    intro N
    induction N with
    | zero =>
      intro S114 lv115 x116 hlv115_0 hlv115_1 hlv115_2 hI117 fr118 bx116 c2 hm
      omega
    | succ N ihL2_112 =>
      intro S114 lv115 x116 hlv115_0 hlv115_1 hlv115_2 hI117 fr118 bx116 c2 hm
      have hI119 : aw_I s h (aw_sm S114) S114 := ⟨hI117.1, aw_sm_rf⟩
      have b120 : 0 ≤ (S114.1 23).toInt ∧ (S114.1 23).toInt ≤ 4000 := aw_bd_f hs (hI119).1 (by decide) rfl
      refine aw_l0 aj_d201 rfl rfl hlv115_2 ?_
      refine aw_z (tgt := 38) aj_d201 rfl rfl (fun q121 => ?_) (fun q121 => ?_)
      · have q121 : x116.toInt < (0 : Int) := aw_t_lt (a := x116.toInt) (b := (0 : Int)) rfl rfl q121
        refine aw_e aj_d201 rfl rfl ?_
        exact ⟨(hI119).1, fr118, rfl, (show ((S114.1 23)).toInt = _ by omega)⟩
      · have q121 : x116.toInt ≥ (0 : Int) := aw_t_lt (a := x116.toInt) (b := (0 : Int)) rfl rfl q121
        refine aw_l2 aj_d201 rfl rfl hlv115_0 ?_
        refine aw_g hU.1 aj_d201 rfl rfl (by decide) (v := .ref 138) rfl ?_
        refine aw_l2 aj_d201 rfl rfl hlv115_0 ?_
        refine aw_g hU.1 aj_d201 rfl rfl (by decide) (v := .int (S114.1 23)) rfl ?_
        refine aw_l0 aj_d201 rfl rfl hlv115_1 ?_
        refine aw_n aj_d201 rfl rfl ?_
        refine aw_l0 aj_d201 rfl rfl hlv115_2 ?_
        refine aw_mul aj_d201 rfl (a := (8 : Int)) (b := x116.toInt) rfl rfl (by omega) (by omega) (fun x122 ex122 => ?_)
        refine aw_any aj_d201 rfl rfl (fun x123 ex123 => ?_)
        refine aw_any aj_d201 rfl rfl (fun x124 ex124 => ?_)
        have bx124 : -128 ≤ x124.toInt ∧ x124.toInt ≤ 127 := by
          rw [ex124]
          exact ak_i2b_ok _
        refine aw_st (k := 21) hU.1 aj_d201 (Or.inr (Or.inr (Or.inr ⟨rfl, rfl⟩))) rfl (by decide) (by decide) rfl (a := (S114.1 23).toInt) rfl (by omega) (by omega) ?_
        have hI125 : aw_I s h (aw_sm (aw_wa S114 21 ((S114.1 23).toInt).toNat (aj_nar 4 x124))) (aw_wa S114 21 ((S114.1 23).toInt).toNat (aj_nar 4 x124)) := ⟨aw_T_a hU.2.1 hs hU.1.1 (hI119).1 (by decide) (by decide) rfl (by decide) (by decide) rfl (aw_nar4 (aw_bp (a := x124.toInt) rfl (by omega) (by omega)) (by decide) (by decide)), aw_sm_rf⟩
        have fr126 := aw_fr_a (k := 21) (j := ((S114.1 23).toInt).toNat) (v := aj_nar 4 x124) (by decide) fr118
        refine aw_l2 aj_d201 rfl rfl hlv115_0 ?_
        refine aw_n aj_d201 rfl rfl ?_
        refine aw_g hU.1 aj_d201 rfl rfl (by decide) (v := .int (S114.1 23)) rfl ?_
        refine aw_n aj_d201 rfl rfl ?_
        refine aw_add aj_d201 rfl (a := (S114.1 23).toInt) (b := (1 : Int)) rfl rfl (by omega) (by omega) (fun x127 ex127 => ?_)
        refine aw_p hU.1 aj_d201 rfl rfl (by decide) rfl ?_
        have hI128 : aw_I s h (aw_sm (aw_wf (aw_wa S114 21 ((S114.1 23).toInt).toNat (aj_nar 4 x124)) 23 x127)) (aw_wf (aw_wa S114 21 ((S114.1 23).toInt).toNat (aj_nar 4 x124)) 23 x127) := ⟨aw_T_f hU.2.1 hs hU.1.1 (hI125).1 (by decide) rfl (aw_bp (a := x127.toInt) rfl (by omega) (by omega)), aw_sm_rf⟩
        have fr129 := aw_fr_f (k := 23) (v := x127) (by decide) fr126
        refine aw_inc aj_d201 rfl hlv115_2 (a := x116.toInt) rfl (by omega) (by omega) (by decide) (by decide) (fun x130 ex130 => ?_)
        obtain ⟨lv131, elv131⟩ : ∃ l, l = aj_set1 lv115 2 (.int x130) := ⟨_, rfl⟩
        rw [← elv131]
        have hlv131_0 : aj_lv lv131 0 = some (.ref 117) := cw_e1 elv131 hlv115_0 (by decide) (Or.inl (by decide))
        have hlv131_1 : aj_lv lv131 1 = some (.int x) := cw_e1 elv131 hlv115_1 (by decide) (Or.inr rfl)
        have hlv131_2 : aj_lv lv131 2 = some (.int x130) := by rw [elv131]; exact ak_set1_eq _ _ _
        show aw_W _ _ _ _ 35 lv131 [] _ _
        refine aw_n aj_d201 rfl rfl ?_
        exact ihL2_112 (aw_wf (aw_wa S114 21 ((S114.1 23).toInt).toNat (aj_nar 4 x124)) 23 x127) lv131 (x130) hlv131_0 hlv131_1 hlv131_2 ⟨(hI128).1, trivial⟩ fr129 (by omega) (show (x127).toInt + _ = _ by first | omega | rfl) (by omega)
  have b132 : 0 ≤ (S.1 23).toInt ∧ (S.1 23).toInt ≤ 4000 := aw_bd_f hs (hI110).1 (by decide) rfl
  exact L2_112 _ S lv112 ((Int32.ofInt 3)) hlv112_0 hlv112_1 hlv112_2 ⟨(hI110).1, trivial⟩ fr111 (by first | omega | decide) (show ((S.1 23)).toInt + _ = _ by first | omega | rfl) (Nat.lt_succ_self _)
theorem ar_feed (hU : aw_U tb s h) (hT : ak_Ty ak_TN s (aj_mh h S)) (hd : 2 ≤ d) {xa xb xc xd xe : Int32} : aw_K tb h d 200 [.ref 117, .int xa, .int xb, .int xc, .int xd, .int xe] S (fun r S' => ak_Ty ak_TN s (aj_mh h S') ∧ aw_fr [23] [21] S S' ∧ ∃ z : Int32, r = some (.int z) ∧ ((4000 < (S.1 23).toInt + 20 ∧ z.toInt = -1 ∧ (S'.1 23).toInt = (S.1 23).toInt) ∨ ((S.1 23).toInt + 20 ≤ 4000 ∧ z.toInt = (S.1 23).toInt + 20 ∧ (S'.1 23).toInt = (S.1 23).toInt + 20))) := by
  obtain ⟨d, rfl⟩ : ∃ e, d = e + 1 := ⟨d - 1, by omega⟩
  have hs : aw_sT s := aw_hy_sT hU.2.2
  refine aw_m aj_m200_at rfl (Nat.le_of_ble_eq_true rfl) ?_
  show aw_W _ _ _ _ 0 [(0, .ref 117), (1, .int xa), (2, .int xb), (3, .int xc), (4, .int xd), (5, .int xe)] [] _ _
  obtain ⟨lv133, elv133⟩ : ∃ l : aj_V, l = [(0, .ref 117), (1, .int xa), (2, .int xb), (3, .int xc), (4, .int xd), (5, .int xe)] := ⟨_, rfl⟩
  rw [← elv133]
  have hlv133_0 : aj_lv lv133 0 = some (.ref 117) := by rw [elv133]; rfl
  have hlv133_1 : aj_lv lv133 1 = some (.int xa) := by rw [elv133]; rfl
  have hlv133_2 : aj_lv lv133 2 = some (.int xb) := by rw [elv133]; rfl
  have hlv133_3 : aj_lv lv133 3 = some (.int xc) := by rw [elv133]; rfl
  have hlv133_4 : aj_lv lv133 4 = some (.int xd) := by rw [elv133]; rfl
  have hlv133_5 : aj_lv lv133 5 = some (.int xe) := by rw [elv133]; rfl
  have hI134 : aw_I s h (aw_sm S) S := ⟨hT, aw_sm_rf⟩
  have fr135 : aw_fr [23] [21] S S := aw_fr_rf
  refine aw_l2 aj_d200 rfl rfl hlv133_0 ?_
  have b136 : 0 ≤ (S.1 23).toInt ∧ (S.1 23).toInt ≤ 4000 := aw_bd_f hs (hI134).1 (by decide) rfl
  refine aw_g hU.1 aj_d200 rfl rfl (by decide) (v := .int (S.1 23)) rfl ?_
  refine aw_n aj_d200 rfl rfl ?_
  refine aw_add aj_d200 rfl (a := (S.1 23).toInt) (b := (20 : Int)) rfl rfl (by omega) (by omega) (fun x137 ex137 => ?_)
  refine aw_n aj_d200 rfl rfl ?_
  refine aw_c (tgt := 15) aj_d200 rfl rfl (fun q138 => ?_) (fun q138 => ?_)
  · have q138 : x137.toInt ≤ (4000 : Int) := aw_t_le (a := x137.toInt) (b := (4000 : Int)) rfl rfl q138
    refine aw_l2 aj_d200 rfl rfl hlv133_0 ?_
    refine aw_l0 aj_d200 rfl rfl hlv133_1 ?_
    refine aw_k hU.1 aj_d200 rfl rfl [_] rfl rfl rfl (Nat.le_of_ble_eq_true rfl) (ar_byteRow hU (hI134).1 (by omega) (show ((S.1 23)).toInt ≤ 3996 by omega)) ?_
    rintro _ S139 ⟨hT139, fc139, rfl, c139⟩
    have c139 : (S139.1 23).toInt = ((S.1 23)).toInt + 4 := c139
    have fr140 := aw_fr_tr fr135 (aw_fr_sub (F := [23]) (A := [21]) (by decide) (by decide) fc139)
    have hI141 : aw_I s h (aw_sm S139) S139 := ⟨hT139, aw_sm_rf⟩
    have b142 : 0 ≤ (S139.1 23).toInt ∧ (S139.1 23).toInt ≤ 4000 := aw_bd_f hs (hI141).1 (by decide) rfl
    show aw_W _ _ _ _ 20 lv133 [] _ _
    refine aw_l2 aj_d200 rfl rfl hlv133_0 ?_
    refine aw_l0 aj_d200 rfl rfl hlv133_2 ?_
    refine aw_k hU.1 aj_d200 rfl rfl [_] rfl rfl rfl (Nat.le_of_ble_eq_true rfl) (ar_byteRow hU (hI141).1 (by omega) (show ((S139.1 23)).toInt ≤ 3996 by omega)) ?_
    rintro _ S143 ⟨hT143, fc143, rfl, c143⟩
    have c143 : (S143.1 23).toInt = ((S139.1 23)).toInt + 4 := c143
    have fr144 := aw_fr_tr fr140 (aw_fr_sub (F := [23]) (A := [21]) (by decide) (by decide) fc143)
    have hI145 : aw_I s h (aw_sm S143) S143 := ⟨hT143, aw_sm_rf⟩
    have b146 : 0 ≤ (S143.1 23).toInt ∧ (S143.1 23).toInt ≤ 4000 := aw_bd_f hs (hI145).1 (by decide) rfl
    show aw_W _ _ _ _ 25 lv133 [] _ _
    refine aw_l2 aj_d200 rfl rfl hlv133_0 ?_
    refine aw_l0 aj_d200 rfl rfl hlv133_3 ?_
    refine aw_k hU.1 aj_d200 rfl rfl [_] rfl rfl rfl (Nat.le_of_ble_eq_true rfl) (ar_byteRow hU (hI145).1 (by omega) (show ((S143.1 23)).toInt ≤ 3996 by omega)) ?_
    rintro _ S147 ⟨hT147, fc147, rfl, c147⟩
    have c147 : (S147.1 23).toInt = ((S143.1 23)).toInt + 4 := c147
    have fr148 := aw_fr_tr fr144 (aw_fr_sub (F := [23]) (A := [21]) (by decide) (by decide) fc147)
    have hI149 : aw_I s h (aw_sm S147) S147 := ⟨hT147, aw_sm_rf⟩
    have b150 : 0 ≤ (S147.1 23).toInt ∧ (S147.1 23).toInt ≤ 4000 := aw_bd_f hs (hI149).1 (by decide) rfl
    show aw_W _ _ _ _ 30 lv133 [] _ _
    refine aw_l2 aj_d200 rfl rfl hlv133_0 ?_
    refine aw_l0 aj_d200 rfl rfl hlv133_4 ?_
    refine aw_k hU.1 aj_d200 rfl rfl [_] rfl rfl rfl (Nat.le_of_ble_eq_true rfl) (ar_byteRow hU (hI149).1 (by omega) (show ((S147.1 23)).toInt ≤ 3996 by omega)) ?_
    rintro _ S151 ⟨hT151, fc151, rfl, c151⟩
    have c151 : (S151.1 23).toInt = ((S147.1 23)).toInt + 4 := c151
    have fr152 := aw_fr_tr fr148 (aw_fr_sub (F := [23]) (A := [21]) (by decide) (by decide) fc151)
    have hI153 : aw_I s h (aw_sm S151) S151 := ⟨hT151, aw_sm_rf⟩
    have b154 : 0 ≤ (S151.1 23).toInt ∧ (S151.1 23).toInt ≤ 4000 := aw_bd_f hs (hI153).1 (by decide) rfl
    show aw_W _ _ _ _ 36 lv133 [] _ _
    refine aw_l2 aj_d200 rfl rfl hlv133_0 ?_
    refine aw_l0 aj_d200 rfl rfl hlv133_5 ?_
    refine aw_k hU.1 aj_d200 rfl rfl [_] rfl rfl rfl (Nat.le_of_ble_eq_true rfl) (ar_byteRow hU (hI153).1 (by omega) (show ((S151.1 23)).toInt ≤ 3996 by omega)) ?_
    rintro _ S155 ⟨hT155, fc155, rfl, c155⟩
    have c155 : (S155.1 23).toInt = ((S151.1 23)).toInt + 4 := c155
    have fr156 := aw_fr_tr fr152 (aw_fr_sub (F := [23]) (A := [21]) (by decide) (by decide) fc155)
    have hI157 : aw_I s h (aw_sm S155) S155 := ⟨hT155, aw_sm_rf⟩
    have b158 : 0 ≤ (S155.1 23).toInt ∧ (S155.1 23).toInt ≤ 4000 := aw_bd_f hs (hI157).1 (by decide) rfl
    show aw_W _ _ _ _ 42 lv133 [] _ _
    refine aw_l2 aj_d200 rfl rfl hlv133_0 ?_
    refine aw_g hU.1 aj_d200 rfl rfl (by decide) (v := .int (S155.1 23)) rfl ?_
    refine aw_e aj_d200 rfl rfl ?_
    exact ⟨(hI157).1, fr156, (S155.1 23), rfl, Or.inr ⟨by omega, by omega, (show ((S155.1 23)).toInt = _ by omega)⟩⟩
  · have q138 : x137.toInt > (4000 : Int) := aw_t_le (a := x137.toInt) (b := (4000 : Int)) rfl rfl q138
    refine aw_n aj_d200 rfl rfl ?_
    refine aw_e aj_d200 rfl rfl ?_
    exact ⟨(hI134).1, fr135, (Int32.ofInt (-1)), rfl, Or.inl ⟨by omega, rfl, (show ((S.1 23)).toInt = _ by omega)⟩⟩
theorem ar_back (hU : aw_U tb s h) (hT : ak_Ty ak_TN s (aj_mh h S)) (hd : 1 ≤ d) {x : Int32} : aw_K tb h d 202 [.ref 117, .int x] S (fun r S' => ak_Ty ak_TN s (aj_mh h S') ∧ aw_fr [23] [] S S' ∧ ∃ z : Int32, r = some (.int z) ∧ (((x.toInt < 0 ∨ (S.1 23).toInt < x.toInt) ∧ z.toInt = -1 ∧ (S'.1 23).toInt = (S.1 23).toInt) ∨ ((0 ≤ x.toInt ∧ x.toInt ≤ (S.1 23).toInt) ∧ z.toInt = (S.1 23).toInt - x.toInt ∧ (S'.1 23).toInt = (S.1 23).toInt - x.toInt))) := by
  obtain ⟨d, rfl⟩ : ∃ e, d = e + 1 := ⟨d - 1, by omega⟩
  have hs : aw_sT s := aw_hy_sT hU.2.2
  refine aw_m aj_m202_at rfl (Nat.le_of_ble_eq_true rfl) ?_
  show aw_W _ _ _ _ 0 [(0, .ref 117), (1, .int x)] [] _ _
  obtain ⟨lv159, elv159⟩ : ∃ l : aj_V, l = [(0, .ref 117), (1, .int x)] := ⟨_, rfl⟩
  rw [← elv159]
  have hlv159_0 : aj_lv lv159 0 = some (.ref 117) := by rw [elv159]; rfl
  have hlv159_1 : aj_lv lv159 1 = some (.int x) := by rw [elv159]; rfl
  have hI160 : aw_I s h (aw_sm S) S := ⟨hT, aw_sm_rf⟩
  have fr161 : aw_fr [23] [] S S := aw_fr_rf
  refine aw_l0 aj_d202 rfl rfl hlv159_1 ?_
  refine aw_z (tgt := 12) aj_d202 rfl rfl (fun q162 => ?_) (fun q162 => ?_)
  · have q162 : x.toInt < (0 : Int) := aw_t_lt (a := x.toInt) (b := (0 : Int)) rfl rfl q162
    refine aw_n aj_d202 rfl rfl ?_
    refine aw_e aj_d202 rfl rfl ?_
    have b163 : 0 ≤ (S.1 23).toInt ∧ (S.1 23).toInt ≤ 4000 := aw_bd_f hs (hI160).1 (by decide) rfl
    exact ⟨(hI160).1, fr161, (Int32.ofInt (-1)), rfl, Or.inl ⟨by omega, rfl, (show ((S.1 23)).toInt = _ by omega)⟩⟩
  · have q162 : x.toInt ≥ (0 : Int) := aw_t_lt (a := x.toInt) (b := (0 : Int)) rfl rfl q162
    refine aw_l0 aj_d202 rfl rfl hlv159_1 ?_
    refine aw_l2 aj_d202 rfl rfl hlv159_0 ?_
    have b164 : 0 ≤ (S.1 23).toInt ∧ (S.1 23).toInt ≤ 4000 := aw_bd_f hs (hI160).1 (by decide) rfl
    refine aw_g hU.1 aj_d202 rfl rfl (by decide) (v := .int (S.1 23)) rfl ?_
    refine aw_c (tgt := 14) aj_d202 rfl rfl (fun q165 => ?_) (fun q165 => ?_)
    · have q165 : x.toInt ≤ (S.1 23).toInt := aw_t_le (a := x.toInt) (b := (S.1 23).toInt) rfl rfl q165
      refine aw_l2 aj_d202 rfl rfl hlv159_0 ?_
      refine aw_n aj_d202 rfl rfl ?_
      refine aw_g hU.1 aj_d202 rfl rfl (by decide) (v := .int (S.1 23)) rfl ?_
      refine aw_l0 aj_d202 rfl rfl hlv159_1 ?_
      refine aw_sub aj_d202 rfl (a := (S.1 23).toInt) (b := x.toInt) rfl rfl (by omega) (by omega) (fun x166 ex166 => ?_)
      refine aw_p hU.1 aj_d202 rfl rfl (by decide) rfl ?_
      have hI167 : aw_I s h (aw_sm (aw_wf S 23 x166)) (aw_wf S 23 x166) := ⟨aw_T_f hU.2.1 hs hU.1.1 (hI160).1 (by decide) rfl (aw_bp (a := x166.toInt) rfl (by omega) (by omega)), aw_sm_rf⟩
      have fr168 := aw_fr_f (k := 23) (v := x166) (by decide) fr161
      refine aw_l2 aj_d202 rfl rfl hlv159_0 ?_
      refine aw_g hU.1 aj_d202 rfl rfl (by decide) (v := .int x166) rfl ?_
      refine aw_e aj_d202 rfl rfl ?_
      exact ⟨(hI167).1, fr168, x166, rfl, Or.inr ⟨by omega, by omega, (show (x166).toInt = _ by omega)⟩⟩
    · have q165 : x.toInt > (S.1 23).toInt := aw_t_le (a := x.toInt) (b := (S.1 23).toInt) rfl rfl q165
      refine aw_n aj_d202 rfl rfl ?_
      refine aw_e aj_d202 rfl rfl ?_
      exact ⟨(hI160).1, fr161, (Int32.ofInt (-1)), rfl, Or.inl ⟨by omega, rfl, (show ((S.1 23)).toInt = _ by omega)⟩⟩
theorem ar_ask (hU : aw_U tb s h) (hT : ak_Ty ak_TN s (aj_mh h S)) (hG : aw_B S) (hd : 10 ≤ d) : aw_K tb h d 284 [.ref 117] S (fun r S' => ak_Ty ak_TN s (aj_mh h S') ∧ aw_fr [13, 23, 24, 25, 26, 27, 28, 29, 30, 31, 32, 33, 34, 35, 36, 37, 38, 39, 40, 41, 43, 44, 45, 46, 47] [13, 20, 22] S S' ∧ (∃ z : Int32, r = some (.int z)) ∧ aw_B S' ∧ (S'.1 23).toInt = 0) := by
  obtain ⟨d, rfl⟩ : ∃ e, d = e + 1 := ⟨d - 1, by omega⟩
  have hs : aw_sT s := aw_hy_sT hU.2.2
  refine aw_m aj_m284_at rfl (Nat.le_of_ble_eq_true rfl) ?_
  show aw_W _ _ _ _ 0 [(0, .ref 117)] [] _ _
  obtain ⟨lv169, elv169⟩ : ∃ l : aj_V, l = [(0, .ref 117)] := ⟨_, rfl⟩
  rw [← elv169]
  have hlv169_0 : aj_lv lv169 0 = some (.ref 117) := by rw [elv169]; rfl
  have hI170 : aw_I s h (aw_sm S) S := ⟨hT, aw_sm_rf⟩
  have fr171 : aw_fr [13, 23, 24, 25, 26, 27, 28, 29, 30, 31, 32, 33, 34, 35, 36, 37, 38, 39, 40, 41, 43, 44, 45, 46, 47] [13, 20, 22] S S := aw_fr_rf
  refine aw_l2 aj_d284 rfl rfl hlv169_0 ?_
  refine aw_k hU.1 aj_d284 rfl rfl [] rfl rfl rfl (Nat.le_of_ble_eq_true rfl) (ar_asks hU (hI170).1 hG (by omega)) ?_
  rintro _ S172 ⟨hT172, fc172, ⟨b172, rfl, bb172⟩, hB172, j23⟩
  have fr173 := aw_fr_tr fr171 (aw_fr_sub (F := [23, 24, 25, 26, 27, 28, 29, 30, 31, 32, 33, 34, 35, 36, 37, 38, 39, 40, 41, 43, 44, 45, 46, 47]) (A := [20, 22]) (by decide) (by decide) fc172)
  have hI174 : aw_I s h (aw_sm S172) S172 := ⟨hT172, aw_sm_rf⟩
  have b175 : 0 ≤ (S.1 0).toInt ∧ (S.1 0).toInt ≤ 1 := aw_bd_f hs (hI170).1 (by decide) rfl
  have c176 : (S172.1 0).toInt = (S.1 0).toInt := (congrArg Int32.toInt (fc172.1 0 (by decide)).1).trans rfl
  have b177 : 0 ≤ (S172.1 0).toInt ∧ (S172.1 0).toInt ≤ 1 := aw_bd_f hs (hI174).1 (by decide) rfl
  have b178 : 0 ≤ (S172.1 23).toInt ∧ (S172.1 23).toInt ≤ 4000 := aw_bd_f hs (hI174).1 (by decide) rfl
  have lh : aw_hh S172 ≤ 1 := by unfold aw_hh; omega
  have b5 := aw_bd_a hs hT172 (k := 5) (j := aw_hh S172) (lo := 0) (hi := 1024) (by decide) (by decide) rfl (by decide) rfl (by omega)
  have b10 := aw_bd_a hs hT172 (k := 10) (j := aw_hh S172) (lo := 0) (hi := 20) (by decide) (by decide) rfl (by decide) rfl (by omega)
  have b11 := aw_bd_a hs hT172 (k := 11) (j := aw_hh S172) (lo := 0) (hi := 8) (by decide) (by decide) rfl (by decide) rfl (by omega)
  have k3 := hB172.2.2.1
  show aw_W _ _ _ _ 4 lv169 [.int b172] _ _
  refine aw_z (tgt := 9) aj_d284 rfl rfl (fun q179 => ?_) (fun q179 => ?_)
  · have q179 : b172.toInt ≠ (0 : Int) := aw_t_ne (a := b172.toInt) (b := (0 : Int)) rfl rfl q179
    refine aw_l2 aj_d284 rfl rfl hlv169_0 ?_
    refine aw_n aj_d284 rfl rfl ?_
    refine aw_p hU.1 aj_d284 rfl rfl (by decide) rfl ?_
    have hI180 := aw_I_f (aw_UV hU aw_Gs_sm) (k := 13) (v := (Int32.ofInt 1)) hI174 (by decide) (by decide) rfl (aw_bp (a := (1 : Int)) rfl (by omega) (by omega))
    have fr181 := aw_fr_f (k := 13) (v := (Int32.ofInt 1)) (by decide) fr173
    refine aw_n aj_d284 rfl rfl ?_
    refine aw_t0 (j := 1) aj_d284 rfl (by decide) rfl ?_
    obtain ⟨lv182, elv182⟩ : ∃ l, l = aj_set1 lv169 1 (.int (Int32.ofInt 0)) := ⟨_, rfl⟩
    rw [← elv182]
    have hlv182_0 : aj_lv lv182 0 = some (.ref 117) := cw_e1 elv182 hlv169_0 (by decide) (Or.inr rfl)
    have hlv182_1 : aj_lv lv182 1 = some (.int (Int32.ofInt 0)) := by rw [elv182]; exact ak_set1_eq _ _ _
    show aw_W _ _ _ _ 16 lv182 [] _ _
    refine aw_n aj_d284 rfl rfl ?_
    refine aw_t0 (j := 2) aj_d284 rfl (by decide) rfl ?_
    obtain ⟨lv183, elv183⟩ : ∃ l, l = aj_set1 lv182 2 (.int (Int32.ofInt 0)) := ⟨_, rfl⟩
    rw [← elv183]
    have hlv183_0 : aj_lv lv183 0 = some (.ref 117) := cw_e1 elv183 hlv182_0 (by decide) (Or.inl (by decide))
    have hlv183_1 : aj_lv lv183 1 = some (.int (Int32.ofInt 0)) := cw_e1 elv183 hlv182_1 (by decide) (Or.inr rfl)
    have hlv183_2 : aj_lv lv183 2 = some (.int (Int32.ofInt 0)) := by rw [elv183]; exact ak_set1_eq _ _ _
    show aw_W _ _ _ _ 18 lv183 [] _ _
    have L18_183 : ∀ (N : Nat) (S185 : aj_S) (lv186 : aj_V) (x187 : Int32) (x188 : Int32), (aj_lv lv186 0 = some (.ref 117)) → (aj_lv lv186 1 = some (.int x187)) → (aj_lv lv186 2 = some (.int x188)) → (aw_I s h (aw_B) S185) → (aw_fr [13, 23, 24, 25, 26, 27, 28, 29, 30, 31, 32, 33, 34, 35, 36, 37, 38, 39, 40, 41, 43, 44, 45, 46, 47] [13, 20, 22] S S185) → (aw_fr [] [13] (aw_wf S172 13 (Int32.ofInt 1)) S185) → (0 ≤ x187.toInt ∧ x187.toInt ≤ 0) → (0 ≤ x188.toInt ∧ x188.toInt ≤ 32) → (32 - x188.toInt).toNat < N → aw_W tb h d aj_m284 18 lv186 [] S185 ((fun r S' => ak_Ty ak_TN s (aj_mh h S') ∧ aw_fr [13, 23, 24, 25, 26, 27, 28, 29, 30, 31, 32, 33, 34, 35, 36, 37, 38, 39, 40, 41, 43, 44, 45, 46, 47] [13, 20, 22] S S' ∧ (∃ z : Int32, r = some (.int z)) ∧ aw_B S' ∧ (S'.1 23).toInt = 0)) := by
      intro N
      induction N with
      | zero =>
        intro S185 lv186 x187 x188 hlv186_0 hlv186_1 hlv186_2 hI189 fr190 fl191 bx187 bx188 hm
        omega
      | succ N ihL18_183 =>
        intro S185 lv186 x187 x188 hlv186_0 hlv186_1 hlv186_2 hI189 fr190 fl191 bx187 bx188 hm
        have hI192 : aw_I s h (aw_sm S185) S185 := ⟨hI189.1, aw_sm_rf⟩
        have c193 : (S185.1 23).toInt = (S172.1 23).toInt := (congrArg Int32.toInt (fl191.1 23 (by decide)).1).trans rfl
        have b194 : 0 ≤ (S185.1 23).toInt ∧ (S185.1 23).toInt ≤ 4000 := aw_bd_f hs (hI192).1 (by decide) rfl
        refine aw_l0 aj_d284 rfl rfl hlv186_2 ?_
        refine aw_n aj_d284 rfl rfl ?_
        refine aw_c (tgt := 42) aj_d284 rfl rfl (fun q195 => ?_) (fun q195 => ?_)
        · have q195 : x188.toInt ≥ (32 : Int) := aw_t_ge (a := x188.toInt) (b := (32 : Int)) rfl rfl q195
          refine aw_n aj_d284 rfl rfl ?_
          refine aw_t0 (j := 2) aj_d284 rfl (by decide) rfl ?_
          obtain ⟨lv196, elv196⟩ : ∃ l, l = aj_set1 lv186 2 (.int (Int32.ofInt 0)) := ⟨_, rfl⟩
          rw [← elv196]
          have hlv196_0 : aj_lv lv196 0 = some (.ref 117) := cw_e1 elv196 hlv186_0 (by decide) (Or.inl (by decide))
          have hlv196_1 : aj_lv lv196 1 = some (.int x187) := cw_e1 elv196 hlv186_1 (by decide) (Or.inr rfl)
          have hlv196_2 : aj_lv lv196 2 = some (.int (Int32.ofInt 0)) := by rw [elv196]; exact ak_set1_eq _ _ _
          show aw_W _ _ _ _ 44 lv196 [] _ _
          have L44_196 : ∀ (N : Nat) (lv199 : aj_V) (x200 : Int32) (x201 : Int32), (aj_lv lv199 0 = some (.ref 117)) → (aj_lv lv199 1 = some (.int x200)) → (aj_lv lv199 2 = some (.int x201)) → (0 ≤ x200.toInt ∧ x200.toInt ≤ 1024) → (0 ≤ x201.toInt ∧ x201.toInt ≤ 1024) → (x200.toInt ≤ x201.toInt) → (1024 - x201.toInt).toNat < N → aw_W tb h d aj_m284 44 lv199 [] S185 ((fun r S' => ak_Ty ak_TN s (aj_mh h S') ∧ aw_fr [13, 23, 24, 25, 26, 27, 28, 29, 30, 31, 32, 33, 34, 35, 36, 37, 38, 39, 40, 41, 43, 44, 45, 46, 47] [13, 20, 22] S S' ∧ (∃ z : Int32, r = some (.int z)) ∧ aw_B S' ∧ (S'.1 23).toInt = 0)) := by
            intro N
            induction N with
            | zero =>
              intro  lv199 x200 x201 hlv199_0 hlv199_1 hlv199_2 bx200 bx201 nw44 hm
              omega
            | succ N ihL44_196 =>
              intro  lv199 x200 x201 hlv199_0 hlv199_1 hlv199_2 bx200 bx201 nw44 hm
              refine aw_l0 aj_d284 rfl rfl hlv199_2 ?_
              refine aw_l2 aj_d284 rfl rfl hlv199_0 ?_
              refine aw_g hU.1 aj_d284 rfl rfl (by decide) (v := .ref 122) rfl ?_
              refine aw_l2 aj_d284 rfl rfl hlv199_0 ?_
              have c204 : (S185.1 0).toInt = (S.1 0).toInt := (congrArg Int32.toInt (fl191.1 0 (by decide)).1).trans c176
              have b205 : 0 ≤ (S185.1 0).toInt ∧ (S185.1 0).toInt ≤ 1 := aw_bd_f hs (hI192).1 (by decide) rfl
              refine aw_g hU.1 aj_d284 rfl rfl (by decide) (v := .int (S185.1 0)) rfl ?_
              refine aw_ld (k := 5) hU.1 aj_d284 (Or.inl ⟨rfl, rfl⟩) rfl (by decide) (by decide) rfl (a := (S.1 0).toInt) c204 (by omega) (by omega) (fun x206 ex206 => ?_)
              have bx206 : 0 ≤ x206.toInt ∧ x206.toInt ≤ 1024 := by
                rw [ex206]
                exact aw_bd_a hs (hI192).1 (k := 5) (by decide) (by decide) rfl (by decide) rfl (by omega)
              refine aw_c (tgt := 95) aj_d284 rfl rfl (fun q207 => ?_) (fun q207 => ?_)
              · have q207 : x201.toInt ≥ x206.toInt := aw_t_ge (a := x201.toInt) (b := x206.toInt) rfl rfl q207
                refine aw_l0 aj_d284 rfl rfl hlv199_1 ?_
                refine aw_e aj_d284 rfl rfl ?_
                exact ⟨(hI192).1, fr190, ⟨_, rfl⟩, hI189.2, (show ((S185.1 23)).toInt = 0 by omega)⟩
              · have q207 : x201.toInt < x206.toInt := aw_t_ge (a := x201.toInt) (b := x206.toInt) rfl rfl q207
                refine aw_l2 aj_d284 rfl rfl hlv199_0 ?_
                refine aw_l2 aj_d284 rfl rfl hlv199_0 ?_
                refine aw_g hU.1 aj_d284 rfl rfl (by decide) (v := .int (S185.1 0)) rfl ?_
                refine aw_l0 aj_d284 rfl rfl hlv199_2 ?_
                refine aw_k hU.1 aj_d284 rfl rfl [_, _] rfl rfl rfl (Nat.le_of_ble_eq_true rfl) (ar_isHeld hU (hI192).1 (by omega) (t := (S185.1 0)) (x := x201) (by omega) (by omega)) ?_
                rintro _ zb208 ⟨fb208, b208, rfl, kb208⟩
                rw [fb208]
                rcases kb208 with ⟨hb208, pb208⟩ | ⟨hb208, pb208⟩
                · skip
                  show aw_W _ _ _ _ 66 lv199 [.int b208] _ _
                  refine aw_z (tgt := 87) aj_d284 rfl rfl (fun q209 => ?_) (fun q209 => ?_)
                  · have q209 : (1 : Int) = (0 : Int) := aw_t_eq (a := (1 : Int)) (b := (0 : Int)) hb208 rfl q209
                    exfalso
                    omega
                  · have q209 : (1 : Int) ≠ (0 : Int) := aw_t_eq (a := (1 : Int)) (b := (0 : Int)) hb208 rfl q209
                    refine aw_l2 aj_d284 rfl rfl hlv199_0 ?_
                    refine aw_g hU.1 aj_d284 rfl rfl (by decide) (v := .ref 130) rfl ?_
                    refine aw_n aj_d284 rfl rfl ?_
                    refine aw_l0 aj_d284 rfl rfl hlv199_2 ?_
                    refine aw_ks aj_d284 rfl rfl rfl [_, _, _] rfl rfl (Nat.le_of_ble_eq_true rfl) (ar_bit hU (by omega) (k := 13) (n := 32) (by decide) (by decide) rfl (a := (0 : Int)) (b := x201.toInt) rfl rfl (by omega) (by omega) (by omega) (by decide)) ?_
                    rintro _ zx210 ⟨fx210, x210, rfl, hx210, ex210⟩
                    rw [fx210]
                    show aw_W _ _ _ _ 78 lv199 [.int x210] _ _
                    refine aw_z (tgt := 87) aj_d284 rfl rfl (fun q211 => ?_) (fun q211 => ?_)
                    · have q211 : x210.toInt = (0 : Int) := aw_t_eq (a := x210.toInt) (b := (0 : Int)) rfl rfl q211
                      refine aw_l0 aj_d284 rfl rfl hlv199_1 ?_
                      refine aw_t0 (j := 1) aj_d284 rfl (by decide) rfl ?_
                      obtain ⟨lv212, elv212⟩ : ∃ l, l = aj_set1 lv199 1 (.int x200) := ⟨_, rfl⟩
                      rw [← elv212]
                      have hlv212_0 : aj_lv lv212 0 = some (.ref 117) := cw_e1 elv212 hlv199_0 (by decide) (Or.inr rfl)
                      have hlv212_2 : aj_lv lv212 2 = some (.int x201) := cw_e1 elv212 hlv199_2 (by decide) (Or.inl (by decide))
                      have hlv212_1 : aj_lv lv212 1 = some (.int x200) := by rw [elv212]; exact ak_set1_eq _ _ _
                      show aw_W _ _ _ _ 89 lv212 [] _ _
                      refine aw_inc aj_d284 rfl hlv212_2 (a := x201.toInt) rfl (by omega) (by omega) (by decide) (by decide) (fun x213 ex213 => ?_)
                      obtain ⟨lv214, elv214⟩ : ∃ l, l = aj_set1 lv212 2 (.int x213) := ⟨_, rfl⟩
                      rw [← elv214]
                      have hlv214_0 : aj_lv lv214 0 = some (.ref 117) := cw_e1 elv214 hlv212_0 (by decide) (Or.inl (by decide))
                      have hlv214_1 : aj_lv lv214 1 = some (.int x200) := cw_e1 elv214 hlv212_1 (by decide) (Or.inr rfl)
                      have hlv214_2 : aj_lv lv214 2 = some (.int x213) := by rw [elv214]; exact ak_set1_eq _ _ _
                      show aw_W _ _ _ _ 92 lv214 [] _ _
                      refine aw_n aj_d284 rfl rfl ?_
                      exact ihL44_196 lv214 (x200) (x213) hlv214_0 hlv214_1 hlv214_2 (by omega) (by omega) (by omega) (by omega)
                    · have q211 : x210.toInt ≠ (0 : Int) := aw_t_eq (a := x210.toInt) (b := (0 : Int)) rfl rfl q211
                      refine aw_l0 aj_d284 rfl rfl hlv199_1 ?_
                      refine aw_n aj_d284 rfl rfl ?_
                      refine aw_add aj_d284 rfl (a := x200.toInt) (b := (1 : Int)) rfl rfl (by omega) (by omega) (fun x215 ex215 => ?_)
                      refine aw_n aj_d284 rfl rfl ?_
                      refine aw_t0 (j := 1) aj_d284 rfl (by decide) rfl ?_
                      obtain ⟨lv216, elv216⟩ : ∃ l, l = aj_set1 lv199 1 (.int x215) := ⟨_, rfl⟩
                      rw [← elv216]
                      have hlv216_0 : aj_lv lv216 0 = some (.ref 117) := cw_e1 elv216 hlv199_0 (by decide) (Or.inr rfl)
                      have hlv216_2 : aj_lv lv216 2 = some (.int x201) := cw_e1 elv216 hlv199_2 (by decide) (Or.inl (by decide))
                      have hlv216_1 : aj_lv lv216 1 = some (.int x215) := by rw [elv216]; exact ak_set1_eq _ _ _
                      show aw_W _ _ _ _ 89 lv216 [] _ _
                      refine aw_inc aj_d284 rfl hlv216_2 (a := x201.toInt) rfl (by omega) (by omega) (by decide) (by decide) (fun x217 ex217 => ?_)
                      obtain ⟨lv218, elv218⟩ : ∃ l, l = aj_set1 lv216 2 (.int x217) := ⟨_, rfl⟩
                      rw [← elv218]
                      have hlv218_0 : aj_lv lv218 0 = some (.ref 117) := cw_e1 elv218 hlv216_0 (by decide) (Or.inl (by decide))
                      have hlv218_1 : aj_lv lv218 1 = some (.int x215) := cw_e1 elv218 hlv216_1 (by decide) (Or.inr rfl)
                      have hlv218_2 : aj_lv lv218 2 = some (.int x217) := by rw [elv218]; exact ak_set1_eq _ _ _
                      show aw_W _ _ _ _ 92 lv218 [] _ _
                      refine aw_n aj_d284 rfl rfl ?_
                      exact ihL44_196 lv218 (x215) (x217) hlv218_0 hlv218_1 hlv218_2 (by omega) (by omega) (by omega) (by omega)
                · skip
                  show aw_W _ _ _ _ 66 lv199 [.int b208] _ _
                  refine aw_z (tgt := 87) aj_d284 rfl rfl (fun q219 => ?_) (fun q219 => ?_)
                  · have q219 : (0 : Int) = (0 : Int) := aw_t_eq (a := (0 : Int)) (b := (0 : Int)) hb208 rfl q219
                    refine aw_l0 aj_d284 rfl rfl hlv199_1 ?_
                    refine aw_t0 (j := 1) aj_d284 rfl (by decide) rfl ?_
                    obtain ⟨lv220, elv220⟩ : ∃ l, l = aj_set1 lv199 1 (.int x200) := ⟨_, rfl⟩
                    rw [← elv220]
                    have hlv220_0 : aj_lv lv220 0 = some (.ref 117) := cw_e1 elv220 hlv199_0 (by decide) (Or.inr rfl)
                    have hlv220_2 : aj_lv lv220 2 = some (.int x201) := cw_e1 elv220 hlv199_2 (by decide) (Or.inl (by decide))
                    have hlv220_1 : aj_lv lv220 1 = some (.int x200) := by rw [elv220]; exact ak_set1_eq _ _ _
                    show aw_W _ _ _ _ 89 lv220 [] _ _
                    refine aw_inc aj_d284 rfl hlv220_2 (a := x201.toInt) rfl (by omega) (by omega) (by decide) (by decide) (fun x221 ex221 => ?_)
                    obtain ⟨lv222, elv222⟩ : ∃ l, l = aj_set1 lv220 2 (.int x221) := ⟨_, rfl⟩
                    rw [← elv222]
                    have hlv222_0 : aj_lv lv222 0 = some (.ref 117) := cw_e1 elv222 hlv220_0 (by decide) (Or.inl (by decide))
                    have hlv222_1 : aj_lv lv222 1 = some (.int x200) := cw_e1 elv222 hlv220_1 (by decide) (Or.inr rfl)
                    have hlv222_2 : aj_lv lv222 2 = some (.int x221) := by rw [elv222]; exact ak_set1_eq _ _ _
                    show aw_W _ _ _ _ 92 lv222 [] _ _
                    refine aw_n aj_d284 rfl rfl ?_
                    exact ihL44_196 lv222 (x200) (x221) hlv222_0 hlv222_1 hlv222_2 (by omega) (by omega) (by omega) (by omega)
                  · have q219 : (0 : Int) ≠ (0 : Int) := aw_t_eq (a := (0 : Int)) (b := (0 : Int)) hb208 rfl q219
                    exfalso
                    omega
          exact L44_196 _ lv196 (x187) ((Int32.ofInt 0)) hlv196_0 hlv196_1 hlv196_2 (by first | omega | decide) (by first | omega | decide) (show (x187).toInt ≤ (0 : Int) by omega) (Nat.lt_succ_self _)
        · have q195 : x188.toInt < (32 : Int) := aw_t_ge (a := x188.toInt) (b := (32 : Int)) rfl rfl q195
          refine aw_l2 aj_d284 rfl rfl hlv186_0 ?_
          refine aw_g hU.1 aj_d284 rfl rfl (by decide) (v := .ref 130) rfl ?_
          refine aw_l0 aj_d284 rfl rfl hlv186_2 ?_
          refine aw_l2 aj_d284 rfl rfl hlv186_0 ?_
          refine aw_g hU.1 aj_d284 rfl rfl (by decide) (v := .ref 137) rfl ?_
          refine aw_l0 aj_d284 rfl rfl hlv186_2 ?_
          refine aw_ld (k := 20) hU.1 aj_d284 (Or.inl ⟨rfl, rfl⟩) rfl (by decide) (by decide) rfl (a := x188.toInt) rfl (by omega) (by omega) (fun x223 ex223 => ?_)
          refine aw_st (k := 13) hU.1 aj_d284 (Or.inl ⟨rfl, rfl⟩) rfl (by decide) (by decide) rfl (a := x188.toInt) rfl (by omega) (by omega) ?_
          have hI224 := aw_I_a (aw_UV hU aw_Gs_sm) (k := 13) (j := (x188.toInt).toNat) (v := aj_nar 0 x223) hI192 (by decide) (by decide) (by decide) rfl (by decide) (by decide) rfl (aw_full _)
          have fr225 := aw_fr_a (k := 13) (j := (x188.toInt).toNat) (v := aj_nar 0 x223) (by decide) fr190
          have fl226 := aw_fr_a (k := 13) (j := (x188.toInt).toNat) (v := aj_nar 0 x223) (by decide) fl191
          refine aw_inc aj_d284 rfl hlv186_2 (a := x188.toInt) rfl (by omega) (by omega) (by decide) (by decide) (fun x227 ex227 => ?_)
          obtain ⟨lv228, elv228⟩ : ∃ l, l = aj_set1 lv186 2 (.int x227) := ⟨_, rfl⟩
          rw [← elv228]
          have hlv228_0 : aj_lv lv228 0 = some (.ref 117) := cw_e1 elv228 hlv186_0 (by decide) (Or.inl (by decide))
          have hlv228_1 : aj_lv lv228 1 = some (.int x187) := cw_e1 elv228 hlv186_1 (by decide) (Or.inr rfl)
          have hlv228_2 : aj_lv lv228 2 = some (.int x227) := by rw [elv228]; exact ak_set1_eq _ _ _
          show aw_W _ _ _ _ 39 lv228 [] _ _
          refine aw_n aj_d284 rfl rfl ?_
          exact ihL18_183 (aw_wa S185 13 (x188.toInt).toNat (aj_nar 0 x223)) lv228 (x187) (x227) hlv228_0 hlv228_1 hlv228_2 ⟨(hI224).1, (aw_B_sm hI224.2 hI189.2)⟩ fr225 fl226 (by first | omega | decide) (by omega) (by omega)
    exact L18_183 _ (aw_wf S172 13 (Int32.ofInt 1)) lv183 ((Int32.ofInt 0)) ((Int32.ofInt 0)) hlv183_0 hlv183_1 hlv183_2 ⟨(hI180).1, (aw_B_sm hI180.2 hB172)⟩ fr181 (aw_fr_rf : aw_fr [] [13] (aw_wf S172 13 (Int32.ofInt 1)) (aw_wf S172 13 (Int32.ofInt 1))) (by first | omega | decide) (by first | omega | decide) (Nat.lt_succ_self _)
  · have q179 : b172.toInt = (0 : Int) := aw_t_ne (a := b172.toInt) (b := (0 : Int)) rfl rfl q179
    refine aw_n aj_d284 rfl rfl ?_
    refine aw_e aj_d284 rfl rfl ?_
    exact ⟨(hI174).1, fr173, ⟨_, rfl⟩, hB172, (show ((S172.1 23)).toInt = 0 by omega)⟩
end ARA28
