/-! WHY (printed by wip/p2/ref/r29.py) -/
def ar_lo (n : Nat) (m : Int32) : Prop := ∀ j, n ≤ j → j < 32 → m.toBitVec.getLsbD j = false
def ar_hi (n : Nat) (m : Int32) : Prop := ∀ j, j < n → m.toBitVec.getLsbD j = true
def ar_cv (f : Nat → Int32) : Nat → Nat
  | 0 => 0
  | k + 1 => ar_cv f k * 32 + (f k).toInt.toNat
/-- what is broken: not nothing, and PARTS alone -/
def ar_gd (S : aj_S) : Prop := ∀ j : Nat, (j : Int) < (S.1 61).toInt → (S.2.2.1 28 j).toInt ≠ 0 ∧ ar_lo (S.2.2.1 10 (aw_hh S)).toInt.toNat (S.2.2.1 28 j)
section ARA29
variable {tb : aj_T} {s : List Nat} {h : aj_H} {S S' S1 S2 : aj_S} {d n : Nat} {g g' : aw_gh} {F A : List Nat} {G : aj_S → Prop}
theorem ar_shl {x : Int32} {k : Nat} (hx : x.toInt = k) (hk : k < 32) : (Int32.ofInt 1 <<< (x &&& 31)).toBitVec = 1#32 <<< k := by
  obtain rfl := aw_nI (a := k) hx (by omega)
  have q : ∀ k : Fin 32, (Int32.ofInt 1 <<< (nI k.val &&& 31)).toBitVec = 1#32 <<< k.val := by decide +kernel
  exact q ⟨k, hk⟩
theorem ar_lo_0 : ar_lo n (Int32.ofInt 0) := by
  intro j _ hj
  have q : ∀ k : Fin 32, (Int32.ofInt 0).toBitVec.getLsbD k.val = false := by decide +kernel
  exact q ⟨j, hj⟩
theorem ar_lo_or {m x : Int32} {k : Nat} (h0 : ar_lo n m) (hx : x.toInt = k) (hk : k < n) (hn : n ≤ 32) : ar_lo n (m ||| (Int32.ofInt 1 <<< (x &&& 31))) := by
  intro j h1 h2
  rw [Int32.toBitVec_or, BitVec.getLsbD_or, h0 j h1 h2, ar_shl hx (by omega), aw_one_bit h2, Bool.false_or]
  exact decide_eq_false (by omega)
theorem ar_hi_or {m x : Int32} {k : Nat} (h0 : ar_hi k m) (hx : x.toInt = k) (hk : k < 32) : ar_hi (k + 1) (m ||| (Int32.ofInt 1 <<< (x &&& 31))) := by
  intro j h1
  rw [Int32.toBitVec_or, BitVec.getLsbD_or, ar_shl hx hk, aw_one_bit (by omega)]
  by_cases c : j = k
  · rw [decide_eq_true c, Bool.or_true]
  · rw [h0 j (by omega), Bool.true_or]
theorem ar_and_ne {b m : Int32} (h0 : ar_lo n b) (h1 : ar_hi n m) (hb : b.toInt ≠ 0) (hz : (b &&& m).toInt = 0) : False := by
  refine hb ?_
  have e : (b &&& m) = 0 := Int32.toInt_inj.mp hz
  have e2 : b = 0 := by
    apply Int32.toBitVec_inj.mp
    apply BitVec.eq_of_getLsbD_eq
    intro j hj
    have q : ∀ k : Fin 32, (0 : Int32).toBitVec.getLsbD k.val = false := by decide +kernel
    have e3 : (b &&& m).toBitVec.getLsbD j = (0 : Int32).toBitVec.getLsbD j := by rw [e]
    rw [Int32.toBitVec_and, BitVec.getLsbD_and, q ⟨j, hj⟩] at e3
    rw [q ⟨j, hj⟩]
    by_cases c : j < n
    · rw [h1 j c, Bool.and_true] at e3
      exact e3
    · exact h0 j (by omega) hj
  rw [e2]
  rfl
theorem ar_cv_c {f f' : Nat → Int32} : ∀ y, (∀ j, j < y → f' j = f j) → ar_cv f' y = ar_cv f y := by
  intro y
  induction y with
  | zero => intro _; rfl
  | succ y ih =>
    intro h0
    unfold ar_cv
    rw [ih (fun j hj => h0 j (by omega)), h0 y (by omega)]
theorem ar_cv_lt {f : Nat → Int32} : ∀ y, (∀ j, j < y → (f j).toInt ≤ 31) → ar_cv f y < 32 ^ y := by
  intro y
  induction y with
  | zero => intro _; exact Nat.zero_lt_one
  | succ y ih =>
    intro h0
    have h1 := ih (fun j hj => h0 j (by omega))
    have h2 := h0 y (by omega)
    unfold ar_cv
    rw [Nat.pow_succ]
    omega
theorem ar_cv_up {f f' : Nat → Int32} {k : Nat} (h1 : ∀ j, j < k → f' j = f j) (h2 : (f' k).toInt = (f k).toInt + 1) (h3 : 0 ≤ (f k).toInt) : ∀ y, k < y → (∀ j, j < y → (f j).toInt ≤ 31) → ar_cv f y + 1 ≤ ar_cv f' y := by
  intro y
  induction y with
  | zero => intro h; exact absurd h (Nat.not_lt_zero _)
  | succ y ih =>
    intro hk h0
    unfold ar_cv
    by_cases e : k = y
    · subst e
      rw [ar_cv_c k h1]
      omega
    · have h4 := ih (by omega) (fun j hj => h0 j (by omega))
      have h5 := h0 y (by omega)
      omega
theorem ar_meetsAll (hU : aw_U tb s h) (hT : ak_Ty ak_TN s (aj_mh h S)) (hd : 1 ≤ d) {y : Int32} (hy : 0 ≤ y.toInt ∧ y.toInt ≤ 20) : aw_K tb h d 287 [.ref 117, .int y] S (fun r S' => S' = S ∧ ∃ b : Int32, r = some (.int b) ∧ (b.toInt = 1 ∨ (b.toInt = 0 ∧ ((∀ k : Nat, (k : Int) < y.toInt → (S.2.2.1 29 k).toInt = k) → (∀ j : Nat, (j : Int) < (S.1 61).toInt → (S.2.2.1 28 j).toInt ≠ 0 ∧ ar_lo (y.toInt).toNat (S.2.2.1 28 j)) → False)))) := by
  obtain ⟨d, rfl⟩ : ∃ e, d = e + 1 := ⟨d - 1, by omega⟩
  have hs : aw_sT s := aw_hy_sT hU.2.2
  refine aw_m aj_m287_at rfl (Nat.le_of_ble_eq_true rfl) ?_
  show aw_W _ _ _ _ 0 [(0, .ref 117), (1, .int y)] [] _ _
  obtain ⟨lv1, elv1⟩ : ∃ l : aj_V, l = [(0, .ref 117), (1, .int y)] := ⟨_, rfl⟩
  rw [← elv1]
  have hlv1_0 : aj_lv lv1 0 = some (.ref 117) := by rw [elv1]; rfl
  have hlv1_1 : aj_lv lv1 1 = some (.int y) := by rw [elv1]; rfl
  have hI2 : aw_I s h (aw_sm S) S := ⟨hT, aw_sm_rf⟩
  have fr3 : aw_fr [] [] S S := aw_fr_rf
  refine aw_n aj_d287 rfl rfl ?_
  refine aw_t0 (j := 2) aj_d287 rfl (by decide) rfl ?_
  obtain ⟨lv4, elv4⟩ : ∃ l, l = aj_set1 lv1 2 (.int (Int32.ofInt 0)) := ⟨_, rfl⟩
  rw [← elv4]
  have hlv4_0 : aj_lv lv4 0 = some (.ref 117) := cw_e1 elv4 hlv1_0 (by decide) (Or.inl (by decide))
  have hlv4_1 : aj_lv lv4 1 = some (.int y) := cw_e1 elv4 hlv1_1 (by decide) (Or.inr rfl)
  have hlv4_2 : aj_lv lv4 2 = some (.int (Int32.ofInt 0)) := by rw [elv4]; exact ak_set1_eq _ _ _
  show aw_W _ _ _ _ 2 lv4 [] _ _
  refine aw_n aj_d287 rfl rfl ?_
  refine aw_t0 (j := 3) aj_d287 rfl (by decide) rfl ?_
  obtain ⟨lv5, elv5⟩ : ∃ l, l = aj_set1 lv4 3 (.int (Int32.ofInt 0)) := ⟨_, rfl⟩
  rw [← elv5]
  have hlv5_0 : aj_lv lv5 0 = some (.ref 117) := cw_e1 elv5 hlv4_0 (by decide) (Or.inl (by decide))
  have hlv5_1 : aj_lv lv5 1 = some (.int y) := cw_e1 elv5 hlv4_1 (by decide) (Or.inl (by decide))
  have hlv5_2 : aj_lv lv5 2 = some (.int (Int32.ofInt 0)) := cw_e1 elv5 hlv4_2 (by decide) (Or.inr rfl)
  have hlv5_3 : aj_lv lv5 3 = some (.int (Int32.ofInt 0)) := by rw [elv5]; exact ak_set1_eq _ _ _
  show aw_W _ _ _ _ 4 lv5 [] _ _
  have L4_5 : ∀ (N : Nat) (lv8 : aj_V) (x9 : Int32) (x10 : Int32), (aj_lv lv8 0 = some (.ref 117)) → (aj_lv lv8 1 = some (.int y)) → (aj_lv lv8 2 = some (.int x9)) → (aj_lv lv8 3 = some (.int x10)) → (0 ≤ x10.toInt ∧ x10.toInt ≤ 20) → (ar_hd ((∀ k : Nat, (k : Int) < y.toInt → (S.2.2.1 29 k).toInt = k) → ar_hi (x10.toInt).toNat x9)) → (x10.toInt ≤ y.toInt) → (20 - x10.toInt).toNat < N → aw_W tb h d aj_m287 4 lv8 [] S ((fun r S' => S' = S ∧ ∃ b : Int32, r = some (.int b) ∧ (b.toInt = 1 ∨ (b.toInt = 0 ∧ ((∀ k : Nat, (k : Int) < y.toInt → (S.2.2.1 29 k).toInt = k) → (∀ j : Nat, (j : Int) < (S.1 61).toInt → (S.2.2.1 28 j).toInt ≠ 0 ∧ ar_lo (y.toInt).toNat (S.2.2.1 28 j)) → False))))) := by
    intro N
    induction N with
    | zero =>
      intro  lv8 x9 x10 hlv8_0 hlv8_1 hlv8_2 hlv8_3 bx10 hi4 k4 hm
      omega
    | succ N ihL4_5 =>
      intro  lv8 x9 x10 hlv8_0 hlv8_1 hlv8_2 hlv8_3 bx10 hi4 k4 hm
      refine aw_l0 aj_d287 rfl rfl hlv8_3 ?_
      refine aw_l0 aj_d287 rfl rfl hlv8_1 ?_
      refine aw_c (tgt := 26) aj_d287 rfl rfl (fun q13 => ?_) (fun q13 => ?_)
      · have q13 : x10.toInt ≥ y.toInt := aw_t_ge (a := x10.toInt) (b := y.toInt) rfl rfl q13
        have him : (∀ k : Nat, (k : Int) < y.toInt → (S.2.2.1 29 k).toInt = k) → ar_hi (y.toInt).toNat x9 := fun hc => (show (x10.toInt).toNat = (y.toInt).toNat by omega) ▸ ar_un hi4 hc
        refine aw_n aj_d287 rfl rfl ?_
        refine aw_t0 (j := 3) aj_d287 rfl (by decide) rfl ?_
        obtain ⟨lv14, elv14⟩ : ∃ l, l = aj_set1 lv8 3 (.int (Int32.ofInt 0)) := ⟨_, rfl⟩
        rw [← elv14]
        have hlv14_0 : aj_lv lv14 0 = some (.ref 117) := cw_e1 elv14 hlv8_0 (by decide) (Or.inl (by decide))
        have hlv14_2 : aj_lv lv14 2 = some (.int x9) := cw_e1 elv14 hlv8_2 (by decide) (Or.inr rfl)
        have hlv14_3 : aj_lv lv14 3 = some (.int (Int32.ofInt 0)) := by rw [elv14]; exact ak_set1_eq _ _ _
        show aw_W _ _ _ _ 28 lv14 [] _ _
        have L28_14 : ∀ (N : Nat) (lv17 : aj_V) (x18 : Int32), (aj_lv lv17 0 = some (.ref 117)) → (aj_lv lv17 2 = some (.int x9)) → (aj_lv lv17 3 = some (.int x18)) → (0 ≤ x18.toInt ∧ x18.toInt ≤ 1024) → (1024 - x18.toInt).toNat < N → aw_W tb h d aj_m287 28 lv17 [] S ((fun r S' => S' = S ∧ ∃ b : Int32, r = some (.int b) ∧ (b.toInt = 1 ∨ (b.toInt = 0 ∧ ((∀ k : Nat, (k : Int) < y.toInt → (S.2.2.1 29 k).toInt = k) → (∀ j : Nat, (j : Int) < (S.1 61).toInt → (S.2.2.1 28 j).toInt ≠ 0 ∧ ar_lo (y.toInt).toNat (S.2.2.1 28 j)) → False))))) := by
          intro N
          induction N with
          | zero =>
            intro  lv17 x18 hlv17_0 hlv17_2 hlv17_3 bx18 hm
            omega
          | succ N ihL28_14 =>
            intro  lv17 x18 hlv17_0 hlv17_2 hlv17_3 bx18 hm
            refine aw_l0 aj_d287 rfl rfl hlv17_3 ?_
            refine aw_l2 aj_d287 rfl rfl hlv17_0 ?_
            have b21 : 0 ≤ (S.1 61).toInt ∧ (S.1 61).toInt ≤ 1024 := aw_bd_f hs (hI2).1 (by decide) rfl
            refine aw_g hU.1 aj_d287 rfl rfl (by decide) (v := .int (S.1 61)) rfl ?_
            refine aw_c (tgt := 55) aj_d287 rfl rfl (fun q22 => ?_) (fun q22 => ?_)
            · have q22 : x18.toInt ≥ (S.1 61).toInt := aw_t_ge (a := x18.toInt) (b := (S.1 61).toInt) rfl rfl q22
              refine aw_n aj_d287 rfl rfl ?_
              refine aw_e aj_d287 rfl rfl ?_
              exact ⟨rfl, _, rfl, Or.inl rfl⟩
            · have q22 : x18.toInt < (S.1 61).toInt := aw_t_ge (a := x18.toInt) (b := (S.1 61).toInt) rfl rfl q22
              refine aw_l2 aj_d287 rfl rfl hlv17_0 ?_
              refine aw_g hU.1 aj_d287 rfl rfl (by decide) (v := .ref 145) rfl ?_
              refine aw_l0 aj_d287 rfl rfl hlv17_3 ?_
              refine aw_ld (k := 28) hU.1 aj_d287 (Or.inl ⟨rfl, rfl⟩) rfl (by decide) (by decide) rfl (a := x18.toInt) rfl (by omega) (by omega) (fun x23 ex23 => ?_)
              refine aw_l0 aj_d287 rfl rfl hlv17_2 ?_
              refine aw_any aj_d287 rfl rfl (fun x24 ex24 => ?_)
              refine aw_z (tgt := 49) aj_d287 rfl rfl (fun q25 => ?_) (fun q25 => ?_)
              · have q25 : x24.toInt ≠ (0 : Int) := aw_t_ne (a := x24.toInt) (b := (0 : Int)) rfl rfl q25
                refine aw_inc aj_d287 rfl hlv17_3 (a := x18.toInt) rfl (by omega) (by omega) (by decide) (by decide) (fun x26 ex26 => ?_)
                obtain ⟨lv27, elv27⟩ : ∃ l, l = aj_set1 lv17 3 (.int x26) := ⟨_, rfl⟩
                rw [← elv27]
                have hlv27_0 : aj_lv lv27 0 = some (.ref 117) := cw_e1 elv27 hlv17_0 (by decide) (Or.inl (by decide))
                have hlv27_2 : aj_lv lv27 2 = some (.int x9) := cw_e1 elv27 hlv17_2 (by decide) (Or.inr rfl)
                have hlv27_3 : aj_lv lv27 3 = some (.int x26) := by rw [elv27]; exact ak_set1_eq _ _ _
                show aw_W _ _ _ _ 52 lv27 [] _ _
                refine aw_n aj_d287 rfl rfl ?_
                exact ihL28_14 lv27 (x26) hlv27_0 hlv27_2 hlv27_3 (by omega) (by omega)
              · have q25 : x24.toInt = (0 : Int) := aw_t_ne (a := x24.toInt) (b := (0 : Int)) rfl rfl q25
                refine aw_n aj_d287 rfl rfl ?_
                refine aw_e aj_d287 rfl rfl ?_
                refine ⟨rfl, _, rfl, Or.inr ⟨rfl, fun hc hg => ?_⟩⟩
                obtain ⟨g1, g2⟩ := hg (x18.toInt).toNat (by omega)
                rw [← ex23] at g1 g2
                exact ar_and_ne g2 (him hc) g1 ((congrArg Int32.toInt ex24).symm.trans q25)
        exact L28_14 _ lv14 ((Int32.ofInt 0)) hlv14_0 hlv14_2 hlv14_3 (by first | omega | decide) (Nat.lt_succ_self _)
      · have q13 : x10.toInt < y.toInt := aw_t_ge (a := x10.toInt) (b := y.toInt) rfl rfl q13
        refine aw_l0 aj_d287 rfl rfl hlv8_2 ?_
        refine aw_n aj_d287 rfl rfl ?_
        refine aw_l2 aj_d287 rfl rfl hlv8_0 ?_
        refine aw_g hU.1 aj_d287 rfl rfl (by decide) (v := .ref 146) rfl ?_
        refine aw_l0 aj_d287 rfl rfl hlv8_3 ?_
        refine aw_ld (k := 29) hU.1 aj_d287 (Or.inl ⟨rfl, rfl⟩) rfl (by decide) (by decide) rfl (a := x10.toInt) rfl (by omega) (by omega) (fun x28 ex28 => ?_)
        refine aw_any aj_d287 rfl rfl (fun x29 ex29 => ?_)
        refine aw_any aj_d287 rfl rfl (fun x30 ex30 => ?_)
        refine aw_t0 (j := 2) aj_d287 rfl (by decide) rfl ?_
        obtain ⟨lv31, elv31⟩ : ∃ l, l = aj_set1 lv8 2 (.int x30) := ⟨_, rfl⟩
        rw [← elv31]
        have hlv31_0 : aj_lv lv31 0 = some (.ref 117) := cw_e1 elv31 hlv8_0 (by decide) (Or.inl (by decide))
        have hlv31_1 : aj_lv lv31 1 = some (.int y) := cw_e1 elv31 hlv8_1 (by decide) (Or.inr rfl)
        have hlv31_3 : aj_lv lv31 3 = some (.int x10) := cw_e1 elv31 hlv8_3 (by decide) (Or.inl (by decide))
        have hlv31_2 : aj_lv lv31 2 = some (.int x30) := by rw [elv31]; exact ak_set1_eq _ _ _
        show aw_W _ _ _ _ 20 lv31 [] _ _
        refine aw_inc aj_d287 rfl hlv31_3 (a := x10.toInt) rfl (by omega) (by omega) (by decide) (by decide) (fun x32 ex32 => ?_)
        obtain ⟨lv33, elv33⟩ : ∃ l, l = aj_set1 lv31 3 (.int x32) := ⟨_, rfl⟩
        rw [← elv33]
        have hlv33_0 : aj_lv lv33 0 = some (.ref 117) := cw_e1 elv33 hlv31_0 (by decide) (Or.inl (by decide))
        have hlv33_1 : aj_lv lv33 1 = some (.int y) := cw_e1 elv33 hlv31_1 (by decide) (Or.inl (by decide))
        have hlv33_2 : aj_lv lv33 2 = some (.int x30) := cw_e1 elv33 hlv31_2 (by decide) (Or.inr rfl)
        have hlv33_3 : aj_lv lv33 3 = some (.int x32) := by rw [elv33]; exact ak_set1_eq _ _ _
        show aw_W _ _ _ _ 23 lv33 [] _ _
        refine aw_n aj_d287 rfl rfl ?_
        exact ihL4_5 lv33 (x30) (x32) hlv33_0 hlv33_1 hlv33_2 hlv33_3 (by omega) (ar_mk (fun hc => by
            have ek := hc (x10.toInt).toNat (by omega)
            have hh := ar_hi_or (x := x28) (k := (x10.toInt).toNat) (ar_un hi4 hc) (by rw [ex28]; exact ek) (by omega)
            rw [ex30, ex29, show (x32.toInt).toNat = (x10.toInt).toNat + 1 by omega]
            exact hh)) (by omega) (by omega)
  exact L4_5 _ lv5 ((Int32.ofInt 0)) ((Int32.ofInt 0)) hlv5_0 hlv5_1 hlv5_2 hlv5_3 (by first | omega | decide) (ar_mk (fun _ j hj => absurd hj (by show ¬ (j < ((0 : Int)).toNat); omega))) (show (0 : Int) ≤ y.toInt by omega) (Nat.lt_succ_self _)
theorem ar_chooses (hU : aw_U tb s h) (hT : ak_Ty ak_TN s (aj_mh h S)) (hd : 2 ≤ d) {y : Int32} (hy : 0 ≤ y.toInt ∧ y.toInt ≤ 21) : aw_K tb h d 286 [.ref 117, .int y] S (fun r S' => ak_Ty ak_TN s (aj_mh h S') ∧ aw_fr [] [29] S S' ∧ ∃ b : Int32, r = some (.int b) ∧ (b.toInt = 1 ∨ (b.toInt = 0 ∧ y.toInt ≤ (S.2.2.1 10 (aw_hh S)).toInt ∧ ¬ (y.toInt = (S.2.2.1 10 (aw_hh S)).toInt ∧ ar_gd S)))) := by
  obtain ⟨d, rfl⟩ : ∃ e, d = e + 1 := ⟨d - 1, by omega⟩
  obtain ⟨P, hP⟩ : ∃ P, P = 32 ^ (y.toInt).toNat := ⟨_, rfl⟩
  have hs : aw_sT s := aw_hy_sT hU.2.2
  refine aw_m aj_m286_at rfl (Nat.le_of_ble_eq_true rfl) ?_
  show aw_W _ _ _ _ 0 [(0, .ref 117), (1, .int y)] [] _ _
  obtain ⟨lv34, elv34⟩ : ∃ l : aj_V, l = [(0, .ref 117), (1, .int y)] := ⟨_, rfl⟩
  rw [← elv34]
  have hlv34_0 : aj_lv lv34 0 = some (.ref 117) := by rw [elv34]; rfl
  have hlv34_1 : aj_lv lv34 1 = some (.int y) := by rw [elv34]; rfl
  have hI35 : aw_I s h (aw_sm S) S := ⟨hT, aw_sm_rf⟩
  have fr36 : aw_fr [] [29] S S := aw_fr_rf
  refine aw_l2 aj_d286 rfl rfl hlv34_0 ?_
  refine aw_g hU.1 aj_d286 rfl rfl (by decide) (v := .ref 127) rfl ?_
  refine aw_l2 aj_d286 rfl rfl hlv34_0 ?_
  have b37 : 0 ≤ (S.1 0).toInt ∧ (S.1 0).toInt ≤ 1 := aw_bd_f hs (hI35).1 (by decide) rfl
  refine aw_g hU.1 aj_d286 rfl rfl (by decide) (v := .int (S.1 0)) rfl ?_
  refine aw_ld (k := 10) hU.1 aj_d286 (Or.inl ⟨rfl, rfl⟩) rfl (by decide) (by decide) rfl (a := (S.1 0).toInt) rfl (by omega) (by omega) (fun x38 ex38 => ?_)
  have bx38 : 0 ≤ x38.toInt ∧ x38.toInt ≤ 20 := by
    rw [ex38]
    exact aw_bd_a hs (hI35).1 (k := 10) (by decide) (by decide) rfl (by decide) rfl (by omega)
  have ftx38 : x38.toInt = (S.2.2.1 10 ((S.1 0).toInt).toNat).toInt := congrArg Int32.toInt (ex38.trans (congrFun rfl _))
  have yn : x38.toInt = (S.2.2.1 10 (aw_hh S)).toInt := (congrArg Int32.toInt ex38).trans (by first | exact congrArg (fun j => (S.2.2.1 10 j).toInt) (by unfold aw_hh; omega) | (rw [show (S).2.2.1 10 = S.2.2.1 10 from rfl]; exact congrArg (fun j => (S.2.2.1 10 j).toInt) (by unfold aw_hh; omega)))
  refine aw_t0 (j := 2) aj_d286 rfl (by decide) rfl ?_
  obtain ⟨lv39, elv39⟩ : ∃ l, l = aj_set1 lv34 2 (.int x38) := ⟨_, rfl⟩
  rw [← elv39]
  have hlv39_0 : aj_lv lv39 0 = some (.ref 117) := cw_e1 elv39 hlv34_0 (by decide) (Or.inl (by decide))
  have hlv39_1 : aj_lv lv39 1 = some (.int y) := cw_e1 elv39 hlv34_1 (by decide) (Or.inr rfl)
  have hlv39_2 : aj_lv lv39 2 = some (.int x38) := by rw [elv39]; exact ak_set1_eq _ _ _
  show aw_W _ _ _ _ 10 lv39 [] _ _
  refine aw_l0 aj_d286 rfl rfl hlv39_1 ?_
  refine aw_l0 aj_d286 rfl rfl hlv39_2 ?_
  refine aw_c (tgt := 17) aj_d286 rfl rfl (fun q40 => ?_) (fun q40 => ?_)
  · have q40 : y.toInt ≤ x38.toInt := aw_t_le (a := y.toInt) (b := x38.toInt) rfl rfl q40
    refine aw_n aj_d286 rfl rfl ?_
    refine aw_t0 (j := 3) aj_d286 rfl (by decide) rfl ?_
    obtain ⟨lv41, elv41⟩ : ∃ l, l = aj_set1 lv39 3 (.int (Int32.ofInt 0)) := ⟨_, rfl⟩
    rw [← elv41]
    have hlv41_0 : aj_lv lv41 0 = some (.ref 117) := cw_e1 elv41 hlv39_0 (by decide) (Or.inl (by decide))
    have hlv41_1 : aj_lv lv41 1 = some (.int y) := cw_e1 elv41 hlv39_1 (by decide) (Or.inl (by decide))
    have hlv41_2 : aj_lv lv41 2 = some (.int x38) := cw_e1 elv41 hlv39_2 (by decide) (Or.inr rfl)
    have hlv41_3 : aj_lv lv41 3 = some (.int (Int32.ofInt 0)) := by rw [elv41]; exact ak_set1_eq _ _ _
    show aw_W _ _ _ _ 19 lv41 [] _ _
    have L19_41 : ∀ (N : Nat) (S43 : aj_S) (lv44 : aj_V) (x45 : Int32), (aj_lv lv44 0 = some (.ref 117)) → (aj_lv lv44 1 = some (.int y)) → (aj_lv lv44 2 = some (.int x38)) → (aj_lv lv44 3 = some (.int x45)) → (aw_I s h ((fun _ => True)) S43) → (aw_fr [] [29] S S43) → (aw_fr [] [29] S S43) → (0 ≤ x45.toInt ∧ x45.toInt ≤ 20) → (∀ j : Nat, (j : Int) < x45.toInt → (S43.2.2.1 29 j).toInt = j) → (x45.toInt ≤ y.toInt) → (20 - x45.toInt).toNat < N → aw_W tb h d aj_m286 19 lv44 [] S43 ((fun r S' => ak_Ty ak_TN s (aj_mh h S') ∧ aw_fr [] [29] S S' ∧ ∃ b : Int32, r = some (.int b) ∧ (b.toInt = 1 ∨ (b.toInt = 0 ∧ y.toInt ≤ (S.2.2.1 10 (aw_hh S)).toInt ∧ ¬ (y.toInt = (S.2.2.1 10 (aw_hh S)).toInt ∧ ar_gd S))))) := by
      intro N
      induction N with
      | zero =>
        intro S43 lv44 x45 hlv44_0 hlv44_1 hlv44_2 hlv44_3 hI46 fr47 fl48 bx45 d19 k19 hm
        omega
      | succ N ihL19_41 =>
        intro S43 lv44 x45 hlv44_0 hlv44_1 hlv44_2 hlv44_3 hI46 fr47 fl48 bx45 d19 k19 hm
        have hI49 : aw_I s h (aw_sm S43) S43 := ⟨hI46.1, aw_sm_rf⟩
        refine aw_l0 aj_d286 rfl rfl hlv44_3 ?_
        refine aw_l0 aj_d286 rfl rfl hlv44_1 ?_
        refine aw_c (tgt := 37) aj_d286 rfl rfl (fun q50 => ?_) (fun q50 => ?_)
        · have q50 : x45.toInt ≥ y.toInt := aw_t_ge (a := x45.toInt) (b := y.toInt) rfl rfl q50
          refine aw_n aj_d286 rfl rfl ?_
          refine aw_t0 (j := 3) aj_d286 rfl (by decide) rfl ?_
          obtain ⟨lv51, elv51⟩ : ∃ l, l = aj_set1 lv44 3 (.int (Int32.ofInt 1)) := ⟨_, rfl⟩
          rw [← elv51]
          have hlv51_0 : aj_lv lv51 0 = some (.ref 117) := cw_e1 elv51 hlv44_0 (by decide) (Or.inl (by decide))
          have hlv51_1 : aj_lv lv51 1 = some (.int y) := cw_e1 elv51 hlv44_1 (by decide) (Or.inl (by decide))
          have hlv51_2 : aj_lv lv51 2 = some (.int x38) := cw_e1 elv51 hlv44_2 (by decide) (Or.inr rfl)
          have hlv51_3 : aj_lv lv51 3 = some (.int (Int32.ofInt 1)) := by rw [elv51]; exact ak_set1_eq _ _ _
          show aw_W _ _ _ _ 39 lv51 [] _ _
          have L39_51 : ∀ (N : Nat) (S53 : aj_S) (lv54 : aj_V) (x55 : Int32), (aj_lv lv54 0 = some (.ref 117)) → (aj_lv lv54 1 = some (.int y)) → (aj_lv lv54 2 = some (.int x38)) → (aj_lv lv54 3 = some (.int x55)) → (aw_I s h ((fun _ => True)) S53) → (aw_fr [] [29] S S53) → (aw_fr [] [29] S43 S53) → (0 ≤ x55.toInt ∧ x55.toInt ≤ 1) → (∀ j : Nat, (j : Int) < y.toInt → (j : Int) ≤ (S53.2.2.1 29 j).toInt ∧ (S53.2.2.1 29 j).toInt ≤ x38.toInt - y.toInt + j) → (ar_hd (x55.toInt = 0 → ¬ (y.toInt = (S.2.2.1 10 (aw_hh S)).toInt ∧ ar_gd S))) → 2 * (P - ar_cv (S53.2.2.1 29) (y.toInt).toNat) + (x55.toInt).toNat < N → aw_W tb h d aj_m286 39 lv54 [] S53 ((fun r S' => ak_Ty ak_TN s (aj_mh h S') ∧ aw_fr [] [29] S S' ∧ ∃ b : Int32, r = some (.int b) ∧ (b.toInt = 1 ∨ (b.toInt = 0 ∧ y.toInt ≤ (S.2.2.1 10 (aw_hh S)).toInt ∧ ¬ (y.toInt = (S.2.2.1 10 (aw_hh S)).toInt ∧ ar_gd S))))) := by
            intro N
            induction N with
            | zero =>
              intro S53 lv54 x55 hlv54_0 hlv54_1 hlv54_2 hlv54_3 hI56 fr57 fl58 bx55 m39 z39 hm
              omega
            | succ N ihL39_51 =>
              intro S53 lv54 x55 hlv54_0 hlv54_1 hlv54_2 hlv54_3 hI56 fr57 fl58 bx55 m39 z39 hm
              have hI59 : aw_I s h (aw_sm S53) S53 := ⟨hI56.1, aw_sm_rf⟩
              refine aw_l0 aj_d286 rfl rfl hlv54_3 ?_
              refine aw_z (tgt := 150) aj_d286 rfl rfl (fun q60 => ?_) (fun q60 => ?_)
              · have q60 : x55.toInt = (0 : Int) := aw_t_eq (a := x55.toInt) (b := (0 : Int)) rfl rfl q60
                refine aw_n aj_d286 rfl rfl ?_
                refine aw_e aj_d286 rfl rfl ?_
                exact ⟨(hI59).1, fr57, _, rfl, Or.inr ⟨rfl, by omega, ar_un z39 (by omega)⟩⟩
              · have q60 : x55.toInt ≠ (0 : Int) := aw_t_eq (a := x55.toInt) (b := (0 : Int)) rfl rfl q60
                refine aw_l2 aj_d286 rfl rfl hlv54_0 ?_
                refine aw_l0 aj_d286 rfl rfl hlv54_1 ?_
                refine aw_k hU.1 aj_d286 rfl rfl [_] rfl rfl rfl (Nat.le_of_ble_eq_true rfl) (ar_meetsAll hU (hI59).1 (by omega) (y := y) (by omega)) ?_
                rintro _ zb61 ⟨fb61, b61, rfl, kb61⟩
                rw [fb61]
                rcases kb61 with hb61 | ⟨hb61, pb61⟩
                · skip
                  show aw_W _ _ _ _ 48 lv54 [.int b61] _ _
                  refine aw_z (tgt := 53) aj_d286 rfl rfl (fun q62 => ?_) (fun q62 => ?_)
                  · have q62 : (1 : Int) = (0 : Int) := aw_t_eq (a := (1 : Int)) (b := (0 : Int)) hb61 rfl q62
                    exfalso
                    omega
                  · have q62 : (1 : Int) ≠ (0 : Int) := aw_t_eq (a := (1 : Int)) (b := (0 : Int)) hb61 rfl q62
                    refine aw_n aj_d286 rfl rfl ?_
                    refine aw_e aj_d286 rfl rfl ?_
                    exact ⟨(hI59).1, fr57, _, rfl, Or.inl rfl⟩
                · skip
                  have nz : ¬ (y.toInt = (S.2.2.1 10 (aw_hh S)).toInt ∧ ar_gd S) := fun z => pb61 (fun k hk => by have := m39 k hk; omega) (fun j hj => by
                    rw [(fr57.1 61 (by decide)).1] at hj
                    have yy := z.2 j hj
                    rw [(fr57.2 28 (by decide)).1, show (y.toInt).toNat = (S.2.2.1 10 (aw_hh S)).toInt.toNat by omega]
                    exact yy)
                  show aw_W _ _ _ _ 48 lv54 [.int b61] _ _
                  refine aw_z (tgt := 53) aj_d286 rfl rfl (fun q63 => ?_) (fun q63 => ?_)
                  · have q63 : (0 : Int) = (0 : Int) := aw_t_eq (a := (0 : Int)) (b := (0 : Int)) hb61 rfl q63
                    refine aw_l0 aj_d286 rfl rfl hlv54_1 ?_
                    refine aw_n aj_d286 rfl rfl ?_
                    refine aw_sub aj_d286 rfl (a := y.toInt) (b := (1 : Int)) rfl rfl (by omega) (by omega) (fun x64 ex64 => ?_)
                    refine aw_t0 (j := 4) aj_d286 rfl (by decide) rfl ?_
                    obtain ⟨lv65, elv65⟩ : ∃ l, l = aj_set1 lv54 4 (.int x64) := ⟨_, rfl⟩
                    rw [← elv65]
                    have hlv65_0 : aj_lv lv65 0 = some (.ref 117) := cw_e1 elv65 hlv54_0 (by decide) (Or.inl (by decide))
                    have hlv65_1 : aj_lv lv65 1 = some (.int y) := cw_e1 elv65 hlv54_1 (by decide) (Or.inl (by decide))
                    have hlv65_2 : aj_lv lv65 2 = some (.int x38) := cw_e1 elv65 hlv54_2 (by decide) (Or.inl (by decide))
                    have hlv65_4 : aj_lv lv65 4 = some (.int x64) := by rw [elv65]; exact ak_set1_eq _ _ _
                    show aw_W _ _ _ _ 58 lv65 [] _ _
                    have L58_65 : ∀ (N : Nat) (lv68 : aj_V) (x69 : Int32), (aj_lv lv68 0 = some (.ref 117)) → (aj_lv lv68 1 = some (.int y)) → (aj_lv lv68 2 = some (.int x38)) → (aj_lv lv68 4 = some (.int x69)) → ((-1) ≤ x69.toInt ∧ x69.toInt ≤ 20) → (x69.toInt + 1 ≤ y.toInt) → (x69.toInt + 1).toNat < N → aw_W tb h d aj_m286 58 lv68 [] S53 ((fun r S' => ak_Ty ak_TN s (aj_mh h S') ∧ aw_fr [] [29] S S' ∧ ∃ b : Int32, r = some (.int b) ∧ (b.toInt = 1 ∨ (b.toInt = 0 ∧ y.toInt ≤ (S.2.2.1 10 (aw_hh S)).toInt ∧ ¬ (y.toInt = (S.2.2.1 10 (aw_hh S)).toInt ∧ ar_gd S))))) := by
                      intro N
                      induction N with
                      | zero =>
                        intro  lv68 x69 hlv68_0 hlv68_1 hlv68_2 hlv68_4 bx69 k58 hm
                        omega
                      | succ N ihL58_65 =>
                        intro  lv68 x69 hlv68_0 hlv68_1 hlv68_2 hlv68_4 bx69 k58 hm
                        refine aw_l0 aj_d286 rfl rfl hlv68_4 ?_
                        refine aw_z (tgt := 85) aj_d286 rfl rfl (fun q72 => ?_) (fun q72 => ?_)
                        · have q72 : x69.toInt < (0 : Int) := aw_t_lt (a := x69.toInt) (b := (0 : Int)) rfl rfl q72
                          refine aw_l0 aj_d286 rfl rfl hlv68_4 ?_
                          refine aw_z (tgt := 94) aj_d286 rfl rfl (fun q73 => ?_) (fun q73 => ?_)
                          · have q73 : x69.toInt < (0 : Int) := aw_t_lt (a := x69.toInt) (b := (0 : Int)) rfl rfl q73
                            refine aw_n aj_d286 rfl rfl ?_
                            refine aw_t0 (j := 3) aj_d286 rfl (by decide) rfl ?_
                            obtain ⟨lv74, elv74⟩ : ∃ l, l = aj_set1 lv68 3 (.int (Int32.ofInt 0)) := ⟨_, rfl⟩
                            rw [← elv74]
                            have hlv74_0 : aj_lv lv74 0 = some (.ref 117) := cw_e1 elv74 hlv68_0 (by decide) (Or.inl (by decide))
                            have hlv74_1 : aj_lv lv74 1 = some (.int y) := cw_e1 elv74 hlv68_1 (by decide) (Or.inl (by decide))
                            have hlv74_2 : aj_lv lv74 2 = some (.int x38) := cw_e1 elv74 hlv68_2 (by decide) (Or.inr rfl)
                            have hlv74_4 : aj_lv lv74 4 = some (.int x69) := cw_e1 elv74 hlv68_4 (by decide) (Or.inl (by decide))
                            have hlv74_3 : aj_lv lv74 3 = some (.int (Int32.ofInt 0)) := by rw [elv74]; exact ak_set1_eq _ _ _
                            show aw_W _ _ _ _ 96 lv74 [] _ _
                            refine aw_l0 aj_d286 rfl rfl hlv74_3 ?_
                            refine aw_z (tgt := 147) aj_d286 rfl rfl (fun q75 => ?_) (fun q75 => ?_)
                            · have q75 : (0 : Int) = (0 : Int) := aw_t_eq (a := (0 : Int)) (b := (0 : Int)) rfl rfl q75
                              refine aw_n aj_d286 rfl rfl ?_
                              exact ihL39_51 S53 lv74 ((Int32.ofInt 0)) hlv74_0 hlv74_1 hlv74_2 hlv74_3 ⟨(hI59).1, trivial⟩ fr57 fl58 (by first | omega | decide) m39 (ar_mk (fun _ => nz)) (show 2 * (P - ar_cv (S53.2.2.1 29) (y.toInt).toNat) + ((0 : Int)).toNat < _ by omega)
                            · have q75 : (0 : Int) ≠ (0 : Int) := aw_t_eq (a := (0 : Int)) (b := (0 : Int)) rfl rfl q75
                              exfalso
                              omega
                          · have q73 : x69.toInt ≥ (0 : Int) := aw_t_lt (a := x69.toInt) (b := (0 : Int)) rfl rfl q73
                            exfalso
                            omega
                        · have q72 : x69.toInt ≥ (0 : Int) := aw_t_lt (a := x69.toInt) (b := (0 : Int)) rfl rfl q72
                          have mk := m39 (x69.toInt).toNat (by omega)
                          refine aw_l2 aj_d286 rfl rfl hlv68_0 ?_
                          refine aw_g hU.1 aj_d286 rfl rfl (by decide) (v := .ref 146) rfl ?_
                          refine aw_l0 aj_d286 rfl rfl hlv68_4 ?_
                          refine aw_ld (k := 29) hU.1 aj_d286 (Or.inl ⟨rfl, rfl⟩) rfl (by decide) (by decide) rfl (a := x69.toInt) rfl (by omega) (by omega) (fun x76 ex76 => ?_)
                          have yk : x76.toInt = (S53.2.2.1 29 (x69.toInt).toNat).toInt := (congrArg Int32.toInt ex76).trans (congrArg (fun j => (S53.2.2.1 29 j).toInt) (by omega))
                          refine aw_l0 aj_d286 rfl rfl hlv68_2 ?_
                          refine aw_l0 aj_d286 rfl rfl hlv68_1 ?_
                          refine aw_sub aj_d286 rfl (a := x38.toInt) (b := y.toInt) rfl rfl (by omega) (by omega) (fun x77 ex77 => ?_)
                          refine aw_l0 aj_d286 rfl rfl hlv68_4 ?_
                          refine aw_add aj_d286 rfl (a := x77.toInt) (b := x69.toInt) rfl rfl (by omega) (by omega) (fun x78 ex78 => ?_)
                          refine aw_c (tgt := 85) aj_d286 rfl rfl (fun q79 => ?_) (fun q79 => ?_)
                          · have q79 : x76.toInt ≠ x78.toInt := aw_t_ne (a := x76.toInt) (b := x78.toInt) rfl rfl q79
                            refine aw_l0 aj_d286 rfl rfl hlv68_4 ?_
                            refine aw_z (tgt := 94) aj_d286 rfl rfl (fun q80 => ?_) (fun q80 => ?_)
                            · have q80 : x69.toInt < (0 : Int) := aw_t_lt (a := x69.toInt) (b := (0 : Int)) rfl rfl q80
                              exfalso
                              omega
                            · have q80 : x69.toInt ≥ (0 : Int) := aw_t_lt (a := x69.toInt) (b := (0 : Int)) rfl rfl q80
                              refine aw_n aj_d286 rfl rfl ?_
                              refine aw_n aj_d286 rfl rfl ?_
                              refine aw_t0 (j := 3) aj_d286 rfl (by decide) rfl ?_
                              obtain ⟨lv81, elv81⟩ : ∃ l, l = aj_set1 lv68 3 (.int (Int32.ofInt 1)) := ⟨_, rfl⟩
                              rw [← elv81]
                              have hlv81_0 : aj_lv lv81 0 = some (.ref 117) := cw_e1 elv81 hlv68_0 (by decide) (Or.inl (by decide))
                              have hlv81_1 : aj_lv lv81 1 = some (.int y) := cw_e1 elv81 hlv68_1 (by decide) (Or.inl (by decide))
                              have hlv81_2 : aj_lv lv81 2 = some (.int x38) := cw_e1 elv81 hlv68_2 (by decide) (Or.inr rfl)
                              have hlv81_4 : aj_lv lv81 4 = some (.int x69) := cw_e1 elv81 hlv68_4 (by decide) (Or.inl (by decide))
                              have hlv81_3 : aj_lv lv81 3 = some (.int (Int32.ofInt 1)) := by rw [elv81]; exact ak_set1_eq _ _ _
                              show aw_W _ _ _ _ 96 lv81 [] _ _
                              refine aw_l0 aj_d286 rfl rfl hlv81_3 ?_
                              refine aw_z (tgt := 147) aj_d286 rfl rfl (fun q82 => ?_) (fun q82 => ?_)
                              · have q82 : (1 : Int) = (0 : Int) := aw_t_eq (a := (1 : Int)) (b := (0 : Int)) rfl rfl q82
                                exfalso
                                omega
                              · have q82 : (1 : Int) ≠ (0 : Int) := aw_t_eq (a := (1 : Int)) (b := (0 : Int)) rfl rfl q82
                                refine aw_l2 aj_d286 rfl rfl hlv81_0 ?_
                                refine aw_g hU.1 aj_d286 rfl rfl (by decide) (v := .ref 146) rfl ?_
                                refine aw_l0 aj_d286 rfl rfl hlv81_4 ?_
                                refine aw_n aj_d286 rfl rfl ?_
                                refine aw_ld (k := 29) hU.1 aj_d286 (Or.inl ⟨rfl, rfl⟩) rfl (by decide) (by decide) rfl (a := x69.toInt) rfl (by omega) (by omega) (fun x83 ex83 => ?_)
                                have yk2 : x83.toInt = (S53.2.2.1 29 (x69.toInt).toNat).toInt := (congrArg Int32.toInt ex83).trans (congrArg (fun j => (S53.2.2.1 29 j).toInt) (by omega))
                                refine aw_n aj_d286 rfl rfl ?_
                                refine aw_add aj_d286 rfl (a := x83.toInt) (b := (1 : Int)) rfl rfl (by omega) (by omega) (fun x84 ex84 => ?_)
                                refine aw_st (k := 29) hU.1 aj_d286 (Or.inl ⟨rfl, rfl⟩) rfl (by decide) (by decide) rfl (a := x69.toInt) rfl (by omega) (by omega) ?_
                                have hI85 := aw_I_a (aw_UV hU aw_Gs_sm) (k := 29) (j := (x69.toInt).toNat) (v := aj_nar 0 x84) hI59 (by decide) (by decide) (by decide) rfl (by decide) (by decide) rfl (aw_full _)
                                have fr86 := aw_fr_a (k := 29) (j := (x69.toInt).toNat) (v := aj_nar 0 x84) (by decide) fr57
                                have fl87 := aw_fr_a (k := 29) (j := (x69.toInt).toNat) (v := aj_nar 0 x84) (by decide) fl58
                                have a9 : ∀ j : Nat, j < (x69.toInt).toNat → (aw_wa S53 29 (x69.toInt).toNat (aj_nar 0 x84)).2.2.1 29 j = S53.2.2.1 29 j := fun j hj => by
                                  show upd (S53.2.2.1 29) (x69.toInt).toNat (aj_nar 0 x84) j = _
                                  unfold upd
                                  rw [if_neg (by omega)]
                                have b9 : ((aw_wa S53 29 (x69.toInt).toNat (aj_nar 0 x84)).2.2.1 29 (x69.toInt).toNat).toInt = (S53.2.2.1 29 (x69.toInt).toNat).toInt + 1 := by
                                  show (upd (S53.2.2.1 29) (x69.toInt).toNat (aj_nar 0 x84) (x69.toInt).toNat).toInt = _
                                  unfold upd
                                  rw [if_pos (by omega)]
                                  show (x84).toInt = _
                                  omega
                                refine aw_l0 aj_d286 rfl rfl hlv81_4 ?_
                                refine aw_n aj_d286 rfl rfl ?_
                                refine aw_add aj_d286 rfl (a := x69.toInt) (b := (1 : Int)) rfl rfl (by omega) (by omega) (fun x88 ex88 => ?_)
                                refine aw_t0 (j := 5) aj_d286 rfl (by decide) rfl ?_
                                obtain ⟨lv89, elv89⟩ : ∃ l, l = aj_set1 lv81 5 (.int x88) := ⟨_, rfl⟩
                                rw [← elv89]
                                have hlv89_0 : aj_lv lv89 0 = some (.ref 117) := cw_e1 elv89 hlv81_0 (by decide) (Or.inl (by decide))
                                have hlv89_1 : aj_lv lv89 1 = some (.int y) := cw_e1 elv89 hlv81_1 (by decide) (Or.inl (by decide))
                                have hlv89_2 : aj_lv lv89 2 = some (.int x38) := cw_e1 elv89 hlv81_2 (by decide) (Or.inl (by decide))
                                have hlv89_3 : aj_lv lv89 3 = some (.int (Int32.ofInt 1)) := cw_e1 elv89 hlv81_3 (by decide) (Or.inl (by decide))
                                have hlv89_5 : aj_lv lv89 5 = some (.int x88) := by rw [elv89]; exact ak_set1_eq _ _ _
                                show aw_W _ _ _ _ 117 lv89 [] _ _
                                have L117_89 : ∀ (N : Nat) (S91 : aj_S) (lv92 : aj_V) (x93 : Int32), (aj_lv lv92 0 = some (.ref 117)) → (aj_lv lv92 1 = some (.int y)) → (aj_lv lv92 2 = some (.int x38)) → (aj_lv lv92 3 = some (.int (Int32.ofInt 1))) → (aj_lv lv92 5 = some (.int x93)) → (aw_I s h ((fun _ => True)) S91) → (aw_fr [] [29] S S91) → (aw_fr [] [29] (aw_wa S53 29 (x69.toInt).toNat (aj_nar 0 x84)) S91) → (0 ≤ x93.toInt ∧ x93.toInt ≤ 21) → (x69.toInt + 1 ≤ x93.toInt ∧ x93.toInt ≤ y.toInt) → (∀ j : Nat, j < (x69.toInt).toNat → S91.2.2.1 29 j = S53.2.2.1 29 j) → ((S91.2.2.1 29 (x69.toInt).toNat).toInt = (S53.2.2.1 29 (x69.toInt).toNat).toInt + 1) → (∀ j : Nat, (j : Int) < x93.toInt → (j : Int) ≤ (S91.2.2.1 29 j).toInt ∧ (S91.2.2.1 29 j).toInt ≤ x38.toInt - y.toInt + j) → (21 - x93.toInt).toNat < N → aw_W tb h d aj_m286 117 lv92 [] S91 ((fun r S' => ak_Ty ak_TN s (aj_mh h S') ∧ aw_fr [] [29] S S' ∧ ∃ b : Int32, r = some (.int b) ∧ (b.toInt = 1 ∨ (b.toInt = 0 ∧ y.toInt ≤ (S.2.2.1 10 (aw_hh S)).toInt ∧ ¬ (y.toInt = (S.2.2.1 10 (aw_hh S)).toInt ∧ ar_gd S))))) := by
                                  intro N
                                  induction N with
                                  | zero =>
                                    intro S91 lv92 x93 hlv92_0 hlv92_1 hlv92_2 hlv92_3 hlv92_5 hI94 fr95 fl96 bx93 i117 a117 b117 v117 hm
                                    omega
                                  | succ N ihL117_89 =>
                                    intro S91 lv92 x93 hlv92_0 hlv92_1 hlv92_2 hlv92_3 hlv92_5 hI94 fr95 fl96 bx93 i117 a117 b117 v117 hm
                                    have hI97 : aw_I s h (aw_sm S91) S91 := ⟨hI94.1, aw_sm_rf⟩
                                    have fl98 := aw_fr_tr fl87 (aw_fr_sub (F := []) (A := [29]) (by decide) (by decide) fl96)
                                    refine aw_l0 aj_d286 rfl rfl hlv92_5 ?_
                                    refine aw_l0 aj_d286 rfl rfl hlv92_1 ?_
                                    refine aw_c (tgt := 147) aj_d286 rfl rfl (fun q99 => ?_) (fun q99 => ?_)
                                    · have q99 : x93.toInt ≥ y.toInt := aw_t_ge (a := x93.toInt) (b := y.toInt) rfl rfl q99
                                      refine aw_n aj_d286 rfl rfl ?_
                                      have cu := ar_cv_up (f := S53.2.2.1 29) (f' := S91.2.2.1 29) (k := (x69.toInt).toNat) a117 b117 (by omega) (y.toInt).toNat (by omega) (fun j hj => by have := m39 j (by omega); omega)
                                      have cl := ar_cv_lt (f := S91.2.2.1 29) (y.toInt).toNat (fun j hj => by have := v117 j (by omega); omega)
                                      rw [← hP] at cl
                                      exact ihL39_51 S91 lv92 ((Int32.ofInt 1)) hlv92_0 hlv92_1 hlv92_2 hlv92_3 ⟨(hI97).1, trivial⟩ fr95 fl98 (by first | omega | decide) (fun j hj => v117 j (by omega)) (ar_mk (fun z => absurd z (by decide))) (show 2 * (P - ar_cv (S91.2.2.1 29) (y.toInt).toNat) + ((1 : Int)).toNat < _ by omega)
                                    · have q99 : x93.toInt < y.toInt := aw_t_ge (a := x93.toInt) (b := y.toInt) rfl rfl q99
                                      refine aw_l2 aj_d286 rfl rfl hlv92_0 ?_
                                      refine aw_g hU.1 aj_d286 rfl rfl (by decide) (v := .ref 146) rfl ?_
                                      refine aw_l0 aj_d286 rfl rfl hlv92_5 ?_
                                      refine aw_l2 aj_d286 rfl rfl hlv92_0 ?_
                                      refine aw_g hU.1 aj_d286 rfl rfl (by decide) (v := .ref 146) rfl ?_
                                      refine aw_l0 aj_d286 rfl rfl hlv92_5 ?_
                                      refine aw_n aj_d286 rfl rfl ?_
                                      refine aw_sub aj_d286 rfl (a := x93.toInt) (b := (1 : Int)) rfl rfl (by omega) (by omega) (fun x100 ex100 => ?_)
                                      refine aw_ld (k := 29) hU.1 aj_d286 (Or.inl ⟨rfl, rfl⟩) rfl (by decide) (by decide) rfl (a := x100.toInt) rfl (by omega) (by omega) (fun x101 ex101 => ?_)
                                      have yj : x101.toInt = (S91.2.2.1 29 (x93.toInt - 1).toNat).toInt := (congrArg Int32.toInt ex101).trans (congrArg (fun j => (S91.2.2.1 29 j).toInt) (by omega))
                                      have mv0 := v117 (x93.toInt - 1).toNat (by omega)
                                      refine aw_n aj_d286 rfl rfl ?_
                                      refine aw_add aj_d286 rfl (a := x101.toInt) (b := (1 : Int)) rfl rfl (by omega) (by omega) (fun x102 ex102 => ?_)
                                      refine aw_st (k := 29) hU.1 aj_d286 (Or.inl ⟨rfl, rfl⟩) rfl (by decide) (by decide) rfl (a := x93.toInt) rfl (by omega) (by omega) ?_
                                      have hI103 := aw_I_a (aw_UV hU aw_Gs_sm) (k := 29) (j := (x93.toInt).toNat) (v := aj_nar 0 x102) hI97 (by decide) (by decide) (by decide) rfl (by decide) (by decide) rfl (aw_full _)
                                      have fr104 := aw_fr_a (k := 29) (j := (x93.toInt).toNat) (v := aj_nar 0 x102) (by decide) fr95
                                      have fl105 := aw_fr_a (k := 29) (j := (x93.toInt).toNat) (v := aj_nar 0 x102) (by decide) fl98
                                      have fl106 := aw_fr_a (k := 29) (j := (x93.toInt).toNat) (v := aj_nar 0 x102) (by decide) fl96
                                      have mv := v117 (x93.toInt - 1).toNat (by omega)
                                      have a8 : ∀ j : Nat, j < (x69.toInt).toNat → (aw_wa S91 29 (x93.toInt).toNat (aj_nar 0 x102)).2.2.1 29 j = S53.2.2.1 29 j := fun j hj => by
                                        show upd (S91.2.2.1 29) (x93.toInt).toNat (aj_nar 0 x102) j = _
                                        unfold upd
                                        rw [if_neg (by omega)]
                                        exact a117 j hj
                                      have b8 : ((aw_wa S91 29 (x93.toInt).toNat (aj_nar 0 x102)).2.2.1 29 (x69.toInt).toNat).toInt = (S53.2.2.1 29 (x69.toInt).toNat).toInt + 1 := by
                                        show (upd (S91.2.2.1 29) (x93.toInt).toNat (aj_nar 0 x102) (x69.toInt).toNat).toInt = _
                                        unfold upd
                                        rw [if_neg (by omega)]
                                        exact b117
                                      have v8 : ∀ j : Nat, (j : Int) < x93.toInt + 1 → (j : Int) ≤ ((aw_wa S91 29 (x93.toInt).toNat (aj_nar 0 x102)).2.2.1 29 j).toInt ∧ ((aw_wa S91 29 (x93.toInt).toNat (aj_nar 0 x102)).2.2.1 29 j).toInt ≤ x38.toInt - y.toInt + j := fun j hj => by
                                        show (j : Int) ≤ (upd (S91.2.2.1 29) (x93.toInt).toNat (aj_nar 0 x102) j).toInt ∧ (upd (S91.2.2.1 29) (x93.toInt).toNat (aj_nar 0 x102) j).toInt ≤ x38.toInt - y.toInt + j
                                        unfold upd
                                        by_cases e : j = (x93.toInt).toNat
                                        · rw [if_pos (by omega)]
                                          show (j : Int) ≤ (x102).toInt ∧ (x102).toInt ≤ _
                                          omega
                                        · rw [if_neg (by omega)]
                                          exact v117 j (by omega)
                                      refine aw_inc aj_d286 rfl hlv92_5 (a := x93.toInt) rfl (by omega) (by omega) (by decide) (by decide) (fun x107 ex107 => ?_)
                                      obtain ⟨lv108, elv108⟩ : ∃ l, l = aj_set1 lv92 5 (.int x107) := ⟨_, rfl⟩
                                      rw [← elv108]
                                      have hlv108_0 : aj_lv lv108 0 = some (.ref 117) := cw_e1 elv108 hlv92_0 (by decide) (Or.inl (by decide))
                                      have hlv108_1 : aj_lv lv108 1 = some (.int y) := cw_e1 elv108 hlv92_1 (by decide) (Or.inl (by decide))
                                      have hlv108_2 : aj_lv lv108 2 = some (.int x38) := cw_e1 elv108 hlv92_2 (by decide) (Or.inl (by decide))
                                      have hlv108_3 : aj_lv lv108 3 = some (.int (Int32.ofInt 1)) := cw_e1 elv108 hlv92_3 (by decide) (Or.inl (by decide))
                                      have hlv108_5 : aj_lv lv108 5 = some (.int x107) := by rw [elv108]; exact ak_set1_eq _ _ _
                                      show aw_W _ _ _ _ 144 lv108 [] _ _
                                      refine aw_n aj_d286 rfl rfl ?_
                                      exact ihL117_89 (aw_wa S91 29 (x93.toInt).toNat (aj_nar 0 x102)) lv108 (x107) hlv108_0 hlv108_1 hlv108_2 hlv108_3 hlv108_5 ⟨(hI103).1, trivial⟩ fr104 fl106 (by omega) (by omega) a8 b8 (fun j hj => v8 j (by omega)) (by omega)
                                exact L117_89 _ (aw_wa S53 29 (x69.toInt).toNat (aj_nar 0 x84)) lv89 (x88) hlv89_0 hlv89_1 hlv89_2 hlv89_3 hlv89_5 ⟨(hI85).1, trivial⟩ fr86 (aw_fr_rf : aw_fr [] [29] (aw_wa S53 29 (x69.toInt).toNat (aj_nar 0 x84)) (aw_wa S53 29 (x69.toInt).toNat (aj_nar 0 x84))) (by omega) (by omega) a9 b9 (fun j hj => by
                                    by_cases e : j = (x69.toInt).toNat
                                    · rw [e]
                                      omega
                                    · rw [a9 j (by omega)]
                                      exact m39 j (by omega)) (Nat.lt_succ_self _)
                          · have q79 : x76.toInt = x78.toInt := aw_t_ne (a := x76.toInt) (b := x78.toInt) rfl rfl q79
                            refine aw_inc aj_d286 rfl hlv68_4 (a := x69.toInt) rfl (by omega) (by omega) (by decide) (by decide) (fun x109 ex109 => ?_)
                            obtain ⟨lv110, elv110⟩ : ∃ l, l = aj_set1 lv68 4 (.int x109) := ⟨_, rfl⟩
                            rw [← elv110]
                            have hlv110_0 : aj_lv lv110 0 = some (.ref 117) := cw_e1 elv110 hlv68_0 (by decide) (Or.inl (by decide))
                            have hlv110_1 : aj_lv lv110 1 = some (.int y) := cw_e1 elv110 hlv68_1 (by decide) (Or.inl (by decide))
                            have hlv110_2 : aj_lv lv110 2 = some (.int x38) := cw_e1 elv110 hlv68_2 (by decide) (Or.inl (by decide))
                            have hlv110_4 : aj_lv lv110 4 = some (.int x109) := by rw [elv110]; exact ak_set1_eq _ _ _
                            show aw_W _ _ _ _ 82 lv110 [] _ _
                            refine aw_n aj_d286 rfl rfl ?_
                            exact ihL58_65 lv110 (x109) hlv110_0 hlv110_1 hlv110_2 hlv110_4 (by omega) (by omega) (by omega)
                    exact L58_65 _ lv65 (x64) hlv65_0 hlv65_1 hlv65_2 hlv65_4 (by omega) (by omega) (Nat.lt_succ_self _)
                  · have q63 : (0 : Int) ≠ (0 : Int) := aw_t_eq (a := (0 : Int)) (b := (0 : Int)) hb61 rfl q63
                    exfalso
                    omega
          exact L39_51 _ S43 lv51 ((Int32.ofInt 1)) hlv51_0 hlv51_1 hlv51_2 hlv51_3 ⟨(hI49).1, trivial⟩ fr47 (aw_fr_rf : aw_fr [] [29] S43 S43) (by first | omega | decide) (fun j hj => by have := d19 j (by omega); omega) (ar_mk (fun z => absurd z (by decide))) (Nat.lt_succ_self _)
        · have q50 : x45.toInt < y.toInt := aw_t_ge (a := x45.toInt) (b := y.toInt) rfl rfl q50
          refine aw_l2 aj_d286 rfl rfl hlv44_0 ?_
          refine aw_g hU.1 aj_d286 rfl rfl (by decide) (v := .ref 146) rfl ?_
          refine aw_l0 aj_d286 rfl rfl hlv44_3 ?_
          refine aw_l0 aj_d286 rfl rfl hlv44_3 ?_
          refine aw_st (k := 29) hU.1 aj_d286 (Or.inl ⟨rfl, rfl⟩) rfl (by decide) (by decide) rfl (a := x45.toInt) rfl (by omega) (by omega) ?_
          have hI111 := aw_I_a (aw_UV hU aw_Gs_sm) (k := 29) (j := (x45.toInt).toNat) (v := aj_nar 0 x45) hI49 (by decide) (by decide) (by decide) rfl (by decide) (by decide) rfl (aw_full _)
          have fr112 := aw_fr_a (k := 29) (j := (x45.toInt).toNat) (v := aj_nar 0 x45) (by decide) fr47
          have fl113 := aw_fr_a (k := 29) (j := (x45.toInt).toNat) (v := aj_nar 0 x45) (by decide) fl48
          have d9 : ∀ j : Nat, (j : Int) < x45.toInt + 1 → ((aw_wa S43 29 (x45.toInt).toNat (aj_nar 0 x45)).2.2.1 29 j).toInt = j := by
            intro j hj
            show (upd (S43.2.2.1 29) (x45.toInt).toNat (aj_nar 0 x45) j).toInt = j
            unfold upd
            by_cases e : j = (x45.toInt).toNat
            · rw [if_pos (by omega)]
              show (x45).toInt = _
              omega
            · rw [if_neg (by omega)]
              exact d19 j (by omega)
          refine aw_inc aj_d286 rfl hlv44_3 (a := x45.toInt) rfl (by omega) (by omega) (by decide) (by decide) (fun x114 ex114 => ?_)
          obtain ⟨lv115, elv115⟩ : ∃ l, l = aj_set1 lv44 3 (.int x114) := ⟨_, rfl⟩
          rw [← elv115]
          have hlv115_0 : aj_lv lv115 0 = some (.ref 117) := cw_e1 elv115 hlv44_0 (by decide) (Or.inl (by decide))
          have hlv115_1 : aj_lv lv115 1 = some (.int y) := cw_e1 elv115 hlv44_1 (by decide) (Or.inl (by decide))
          have hlv115_2 : aj_lv lv115 2 = some (.int x38) := cw_e1 elv115 hlv44_2 (by decide) (Or.inr rfl)
          have hlv115_3 : aj_lv lv115 3 = some (.int x114) := by rw [elv115]; exact ak_set1_eq _ _ _
          show aw_W _ _ _ _ 34 lv115 [] _ _
          refine aw_n aj_d286 rfl rfl ?_
          exact ihL19_41 (aw_wa S43 29 (x45.toInt).toNat (aj_nar 0 x45)) lv115 (x114) hlv115_0 hlv115_1 hlv115_2 hlv115_3 ⟨(hI111).1, trivial⟩ fr112 fl113 (by omega) (fun j hj => d9 j (by omega)) (by omega) (by omega)
    exact L19_41 _ S lv41 ((Int32.ofInt 0)) hlv41_0 hlv41_1 hlv41_2 hlv41_3 ⟨(hI35).1, trivial⟩ fr36 (aw_fr_rf : aw_fr [] [29] S S) (by first | omega | decide) (fun j hj => absurd hj (by show ¬ ((j : Int) < 0); omega)) (show (0 : Int) ≤ y.toInt by omega) (Nat.lt_succ_self _)
  · have q40 : y.toInt > x38.toInt := aw_t_le (a := y.toInt) (b := x38.toInt) rfl rfl q40
    refine aw_n aj_d286 rfl rfl ?_
    refine aw_e aj_d286 rfl rfl ?_
    exact ⟨(hI35).1, fr36, _, rfl, Or.inl rfl⟩
theorem ar_why (hU : aw_U tb s h) (hT : ak_Ty ak_TN s (aj_mh h S)) (hG : aw_B S) (hd : 3 ≤ d) {x : Int32} : aw_K tb h d 285 [.ref 117, .int x] S (fun r S' => ak_Ty ak_TN s (aj_mh h S') ∧ aw_fr [61] [28, 29] S S' ∧ (∃ z : Int32, r = some (.int z)) ∧ aw_B S') := by
  obtain ⟨d, rfl⟩ : ∃ e, d = e + 1 := ⟨d - 1, by omega⟩
  have lh : aw_hh S ≤ 1 := by
    have b := aw_bd_f (aw_hy_sT hU.2.2) hT (k := 0) (lo := 0) (hi := 1) (by decide) rfl
    unfold aw_hh
    omega
  have b10 := aw_bd_a (aw_hy_sT hU.2.2) hT (k := 10) (j := aw_hh S) (lo := 0) (hi := 20) (by decide) (by decide) rfl (by decide) rfl (by omega)
  have hs : aw_sT s := aw_hy_sT hU.2.2
  refine aw_m aj_m285_at rfl (Nat.le_of_ble_eq_true rfl) ?_
  show aw_W _ _ _ _ 0 [(0, .ref 117), (1, .int x)] [] _ _
  obtain ⟨lv116, elv116⟩ : ∃ l : aj_V, l = [(0, .ref 117), (1, .int x)] := ⟨_, rfl⟩
  rw [← elv116]
  have hlv116_0 : aj_lv lv116 0 = some (.ref 117) := by rw [elv116]; rfl
  have hlv116_1 : aj_lv lv116 1 = some (.int x) := by rw [elv116]; rfl
  have hI117 : aw_I s h (aw_sm S) S := ⟨hT, aw_sm_rf⟩
  have fr118 : aw_fr [61] [28, 29] S S := aw_fr_rf
  refine aw_l2 aj_d285 rfl rfl hlv116_0 ?_
  have b119 : 0 ≤ (S.1 13).toInt ∧ (S.1 13).toInt ≤ 1 := aw_bd_f hs (hI117).1 (by decide) rfl
  refine aw_g hU.1 aj_d285 rfl rfl (by decide) (v := .int (S.1 13)) rfl ?_
  refine aw_z (tgt := 11) aj_d285 rfl rfl (fun q120 => ?_) (fun q120 => ?_)
  · have q120 : (S.1 13).toInt = (0 : Int) := aw_t_eq (a := (S.1 13).toInt) (b := (0 : Int)) rfl rfl q120
    refine aw_n aj_d285 rfl rfl ?_
    refine aw_e aj_d285 rfl rfl ?_
    exact ⟨(hI117).1, fr118, ⟨_, rfl⟩, hG⟩
  · have q120 : (S.1 13).toInt ≠ (0 : Int) := aw_t_eq (a := (S.1 13).toInt) (b := (0 : Int)) rfl rfl q120
    refine aw_l0 aj_d285 rfl rfl hlv116_1 ?_
    refine aw_z (tgt := 13) aj_d285 rfl rfl (fun q121 => ?_) (fun q121 => ?_)
    · have q121 : x.toInt ≥ (0 : Int) := aw_t_ge (a := x.toInt) (b := (0 : Int)) rfl rfl q121
      refine aw_l2 aj_d285 rfl rfl hlv116_0 ?_
      refine aw_n aj_d285 rfl rfl ?_
      refine aw_p hU.1 aj_d285 rfl rfl (by decide) rfl ?_
      have hI122 := aw_I_f (aw_UV hU aw_Gs_sm) (k := 61) (v := (Int32.ofInt 0)) hI117 (by decide) (by decide) rfl (aw_bp (a := (0 : Int)) rfl (by omega) (by omega))
      have fr123 := aw_fr_f (k := 61) (v := (Int32.ofInt 0)) (by decide) fr118
      refine aw_n aj_d285 rfl rfl ?_
      refine aw_t0 (j := 2) aj_d285 rfl (by decide) rfl ?_
      obtain ⟨lv124, elv124⟩ : ∃ l, l = aj_set1 lv116 2 (.int (Int32.ofInt 0)) := ⟨_, rfl⟩
      rw [← elv124]
      have hlv124_0 : aj_lv lv124 0 = some (.ref 117) := cw_e1 elv124 hlv116_0 (by decide) (Or.inl (by decide))
      have hlv124_1 : aj_lv lv124 1 = some (.int x) := cw_e1 elv124 hlv116_1 (by decide) (Or.inr rfl)
      have hlv124_2 : aj_lv lv124 2 = some (.int (Int32.ofInt 0)) := by rw [elv124]; exact ak_set1_eq _ _ _
      show aw_W _ _ _ _ 20 lv124 [] _ _
      have L20_124 : ∀ (N : Nat) (S126 : aj_S) (lv127 : aj_V) (x128 : Int32), (aj_lv lv127 0 = some (.ref 117)) → (aj_lv lv127 1 = some (.int x)) → (aj_lv lv127 2 = some (.int x128)) → (aw_I s h (aw_B) S126) → (aw_fr [61] [28, 29] S S126) → (aw_fr [61] [28] (aw_wf S 61 (Int32.ofInt 0)) S126) → (0 ≤ x128.toInt ∧ x128.toInt ≤ 1024) → ((∀ j : Nat, (j : Int) < (S126.1 61).toInt → (S126.2.2.1 28 j).toInt ≠ 0 ∧ ar_lo (S.2.2.1 10 (aw_hh S)).toInt.toNat (S126.2.2.1 28 j))) → ((S126.1 61).toInt ≤ x128.toInt) → (1024 - x128.toInt).toNat < N → aw_W tb h d aj_m285 20 lv127 [] S126 ((fun r S' => ak_Ty ak_TN s (aj_mh h S') ∧ aw_fr [61] [28, 29] S S' ∧ (∃ z : Int32, r = some (.int z)) ∧ aw_B S')) := by
        intro N
        induction N with
        | zero =>
          intro S126 lv127 x128 hlv127_0 hlv127_1 hlv127_2 hI129 fr130 fl131 bx128 g20 b20 hm
          omega
        | succ N ihL20_124 =>
          intro S126 lv127 x128 hlv127_0 hlv127_1 hlv127_2 hI129 fr130 fl131 bx128 g20 b20 hm
          have hI132 : aw_I s h (aw_sm S126) S126 := ⟨hI129.1, aw_sm_rf⟩
          have b133 : 0 ≤ (S126.1 61).toInt ∧ (S126.1 61).toInt ≤ 1024 := aw_bd_f hs (hI132).1 (by decide) rfl
          refine aw_l0 aj_d285 rfl rfl hlv127_2 ?_
          refine aw_l2 aj_d285 rfl rfl hlv127_0 ?_
          refine aw_g hU.1 aj_d285 rfl rfl (by decide) (v := .ref 122) rfl ?_
          refine aw_l2 aj_d285 rfl rfl hlv127_0 ?_
          have b134 : 0 ≤ (S.1 0).toInt ∧ (S.1 0).toInt ≤ 1 := aw_bd_f hs (hI117).1 (by decide) rfl
          have c135 : (S126.1 0).toInt = (S.1 0).toInt := (congrArg Int32.toInt (fl131.1 0 (by decide)).1).trans rfl
          have b136 : 0 ≤ (S126.1 0).toInt ∧ (S126.1 0).toInt ≤ 1 := aw_bd_f hs (hI132).1 (by decide) rfl
          refine aw_g hU.1 aj_d285 rfl rfl (by decide) (v := .int (S126.1 0)) rfl ?_
          refine aw_ld (k := 5) hU.1 aj_d285 (Or.inl ⟨rfl, rfl⟩) rfl (by decide) (by decide) rfl (a := (S.1 0).toInt) c135 (by omega) (by omega) (fun x137 ex137 => ?_)
          have bx137 : 0 ≤ x137.toInt ∧ x137.toInt ≤ 1024 := by
            rw [ex137]
            exact aw_bd_a hs (hI132).1 (k := 5) (by decide) (by decide) rfl (by decide) rfl (by omega)
          have ftx137 : x137.toInt = (S.2.2.1 5 ((S.1 0).toInt).toNat).toInt := congrArg Int32.toInt (ex137.trans (congrFun ((fl131.2 5 (by decide)).1.trans rfl) _))
          have y5 : x137.toInt = (S.2.2.1 5 (aw_hh S)).toInt := (congrArg Int32.toInt ex137).trans (by first | exact congrArg (fun j => (S.2.2.1 5 j).toInt) (by unfold aw_hh; omega) | (rw [show (S126).2.2.1 5 = S.2.2.1 5 from ((fl131.2 5 (by decide)).1.trans rfl)]; exact congrArg (fun j => (S.2.2.1 5 j).toInt) (by unfold aw_hh; omega)))
          refine aw_c (tgt := 173) aj_d285 rfl rfl (fun q138 => ?_) (fun q138 => ?_)
          · have q138 : x128.toInt ≥ x137.toInt := aw_t_ge (a := x128.toInt) (b := x137.toInt) rfl rfl q138
            refine aw_n aj_d285 rfl rfl ?_
            refine aw_t0 (j := 2) aj_d285 rfl (by decide) rfl ?_
            obtain ⟨lv139, elv139⟩ : ∃ l, l = aj_set1 lv127 2 (.int (Int32.ofInt 0)) := ⟨_, rfl⟩
            rw [← elv139]
            have hlv139_0 : aj_lv lv139 0 = some (.ref 117) := cw_e1 elv139 hlv127_0 (by decide) (Or.inl (by decide))
            have hlv139_1 : aj_lv lv139 1 = some (.int x) := cw_e1 elv139 hlv127_1 (by decide) (Or.inr rfl)
            have hlv139_2 : aj_lv lv139 2 = some (.int (Int32.ofInt 0)) := by rw [elv139]; exact ak_set1_eq _ _ _
            show aw_W _ _ _ _ 175 lv139 [] _ _
            have L175_139 : ∀ (N : Nat) (S141 : aj_S) (lv142 : aj_V) (x143 : Int32), (aj_lv lv142 0 = some (.ref 117)) → (aj_lv lv142 1 = some (.int x)) → (aj_lv lv142 2 = some (.int x143)) → (aw_I s h (aw_B) S141) → (aw_fr [61] [28, 29] S S141) → (aw_fr [] [29] S126 S141) → (0 ≤ x143.toInt ∧ x143.toInt ≤ 20) → (x143.toInt ≤ (S.2.2.1 10 (aw_hh S)).toInt) → (21 - x143.toInt).toNat < N → aw_W tb h d aj_m285 175 lv142 [] S141 ((fun r S' => ak_Ty ak_TN s (aj_mh h S') ∧ aw_fr [61] [28, 29] S S' ∧ (∃ z : Int32, r = some (.int z)) ∧ aw_B S')) := by
              intro N
              induction N with
              | zero =>
                intro S141 lv142 x143 hlv142_0 hlv142_1 hlv142_2 hI144 fr145 fl146 bx143 s175 hm
                omega
              | succ N ihL175_139 =>
                intro S141 lv142 x143 hlv142_0 hlv142_1 hlv142_2 hI144 fr145 fl146 bx143 s175 hm
                have hI147 : aw_I s h (aw_sm S141) S141 := ⟨hI144.1, aw_sm_rf⟩
                have c148 : (S141.1 61).toInt = (S126.1 61).toInt := (congrArg Int32.toInt (fl146.1 61 (by decide)).1).trans rfl
                have b149 : 0 ≤ (S141.1 61).toInt ∧ (S141.1 61).toInt ≤ 1024 := aw_bd_f hs (hI147).1 (by decide) rfl
                refine aw_l2 aj_d285 rfl rfl hlv142_0 ?_
                refine aw_l0 aj_d285 rfl rfl hlv142_2 ?_
                refine aw_k hU.1 aj_d285 rfl rfl [_] rfl rfl rfl (Nat.le_of_ble_eq_true rfl) (ar_chooses hU (hI147).1 (by omega) (y := x143) (by omega)) ?_
                rintro _ S150 ⟨hT150, fc150, b150, rfl, kk150⟩
                have hB150 : aw_B S150 := aw_B_fr hI144.2 (by decide) (by decide) (by decide) (by decide) (by decide) (by decide) (by decide) fc150
                rcases kk150 with h150 | ⟨h150, p150, q150⟩
                · skip
                  have fr151 := aw_fr_tr fr145 (aw_fr_sub (F := []) (A := [29]) (by decide) (by decide) fc150)
                  have fl152 := aw_fr_tr fl146 (aw_fr_sub (F := []) (A := [29]) (by decide) (by decide) fc150)
                  have hI153 : aw_I s h (aw_sm S150) S150 := ⟨hT150, aw_sm_rf⟩
                  show aw_W _ _ _ _ 180 lv142 [.int b150] _ _
                  refine aw_z (tgt := 189) aj_d285 rfl rfl (fun q154 => ?_) (fun q154 => ?_)
                  · have q154 : (1 : Int) ≠ (0 : Int) := aw_t_ne (a := (1 : Int)) (b := (0 : Int)) h150 rfl q154
                    refine aw_l0 aj_d285 rfl rfl hlv142_1 ?_
                    refine aw_l0 aj_d285 rfl rfl hlv142_2 ?_
                    refine aw_c (tgt := 203) aj_d285 rfl rfl (fun q155 => ?_) (fun q155 => ?_)
                    · have q155 : x.toInt ≥ x143.toInt := aw_t_ge (a := x.toInt) (b := x143.toInt) rfl rfl q155
                      refine aw_n aj_d285 rfl rfl ?_
                      refine aw_e aj_d285 rfl rfl ?_
                      exact ⟨(hI153).1, fr151, ⟨_, rfl⟩, hB150⟩
                    · have q155 : x.toInt < x143.toInt := aw_t_ge (a := x.toInt) (b := x143.toInt) rfl rfl q155
                      refine aw_l2 aj_d285 rfl rfl hlv142_0 ?_
                      refine aw_g hU.1 aj_d285 rfl rfl (by decide) (v := .ref 146) rfl ?_
                      refine aw_l0 aj_d285 rfl rfl hlv142_1 ?_
                      refine aw_ld (k := 29) hU.1 aj_d285 (Or.inl ⟨rfl, rfl⟩) rfl (by decide) (by decide) rfl (a := x.toInt) rfl (by omega) (by omega) (fun x156 ex156 => ?_)
                      refine aw_n aj_d285 rfl rfl ?_
                      refine aw_e aj_d285 rfl rfl ?_
                      exact ⟨(hI153).1, fr151, ⟨_, rfl⟩, hB150⟩
                  · have q154 : (1 : Int) = (0 : Int) := aw_t_ne (a := (1 : Int)) (b := (0 : Int)) h150 rfl q154
                    exfalso
                    omega
                · skip
                  have e0x : aw_hh S141 = aw_hh S := by
                    unfold aw_hh
                    rw [show (S141.1 0) = S.1 0 from (fr145.1 0 (by decide)).1]
                  have e10x : S141.2.2.1 10 = S.2.2.1 10 := (fr145.2 10 (by decide)).1
                  have f28 := fl146
                  rw [e0x, e10x] at p150 q150
                  have ne : x143.toInt ≠ (S.2.2.1 10 (aw_hh S)).toInt := fun z => q150 ⟨z, fun j hj => by
                    rw [e0x, e10x, (f28.2 28 (by decide)).1]
                    rw [(f28.1 61 (by decide)).1] at hj
                    exact g20 j hj⟩
                  have fr157 := aw_fr_tr fr145 (aw_fr_sub (F := []) (A := [29]) (by decide) (by decide) fc150)
                  have fl158 := aw_fr_tr fl146 (aw_fr_sub (F := []) (A := [29]) (by decide) (by decide) fc150)
                  have hI159 : aw_I s h (aw_sm S150) S150 := ⟨hT150, aw_sm_rf⟩
                  show aw_W _ _ _ _ 180 lv142 [.int b150] _ _
                  refine aw_z (tgt := 189) aj_d285 rfl rfl (fun q160 => ?_) (fun q160 => ?_)
                  · have q160 : (0 : Int) ≠ (0 : Int) := aw_t_ne (a := (0 : Int)) (b := (0 : Int)) h150 rfl q160
                    exfalso
                    omega
                  · have q160 : (0 : Int) = (0 : Int) := aw_t_ne (a := (0 : Int)) (b := (0 : Int)) h150 rfl q160
                    refine aw_inc aj_d285 rfl hlv142_2 (a := x143.toInt) rfl (by omega) (by omega) (by decide) (by decide) (fun x161 ex161 => ?_)
                    obtain ⟨lv162, elv162⟩ : ∃ l, l = aj_set1 lv142 2 (.int x161) := ⟨_, rfl⟩
                    rw [← elv162]
                    have hlv162_0 : aj_lv lv162 0 = some (.ref 117) := cw_e1 elv162 hlv142_0 (by decide) (Or.inl (by decide))
                    have hlv162_1 : aj_lv lv162 1 = some (.int x) := cw_e1 elv162 hlv142_1 (by decide) (Or.inr rfl)
                    have hlv162_2 : aj_lv lv162 2 = some (.int x161) := by rw [elv162]; exact ak_set1_eq _ _ _
                    show aw_W _ _ _ _ 186 lv162 [] _ _
                    refine aw_n aj_d285 rfl rfl ?_
                    exact ihL175_139 S150 lv162 (x161) hlv162_0 hlv162_1 hlv162_2 ⟨(hI159).1, hB150⟩ fr157 fl158 (by omega) (by omega) (by omega)
            exact L175_139 _ S126 lv139 ((Int32.ofInt 0)) hlv139_0 hlv139_1 hlv139_2 ⟨(hI132).1, hI129.2⟩ fr130 (aw_fr_rf : aw_fr [] [29] S126 S126) (by first | omega | decide) (show (0 : Int) ≤ _ from b10.1) (Nat.lt_succ_self _)
          · have q138 : x128.toInt < x137.toInt := aw_t_ge (a := x128.toInt) (b := x137.toInt) rfl rfl q138
            refine aw_l2 aj_d285 rfl rfl hlv127_0 ?_
            refine aw_g hU.1 aj_d285 rfl rfl (by decide) (v := .ref 130) rfl ?_
            refine aw_n aj_d285 rfl rfl ?_
            refine aw_l0 aj_d285 rfl rfl hlv127_2 ?_
            refine aw_ks aj_d285 rfl rfl rfl [_, _, _] rfl rfl (Nat.le_of_ble_eq_true rfl) (ar_bit hU (by omega) (k := 13) (n := 32) (by decide) (by decide) rfl (a := (0 : Int)) (b := x128.toInt) rfl rfl (by omega) (by omega) (by omega) (by decide)) ?_
            rintro _ zx163 ⟨fx163, x163, rfl, hx163, ex163⟩
            rw [fx163]
            show aw_W _ _ _ _ 42 lv127 [.int x163] _ _
            refine aw_z (tgt := 167) aj_d285 rfl rfl (fun q164 => ?_) (fun q164 => ?_)
            · have q164 : x163.toInt = (0 : Int) := aw_t_eq (a := x163.toInt) (b := (0 : Int)) rfl rfl q164
              refine aw_inc aj_d285 rfl hlv127_2 (a := x128.toInt) rfl (by omega) (by omega) (by decide) (by decide) (fun x165 ex165 => ?_)
              obtain ⟨lv166, elv166⟩ : ∃ l, l = aj_set1 lv127 2 (.int x165) := ⟨_, rfl⟩
              rw [← elv166]
              have hlv166_0 : aj_lv lv166 0 = some (.ref 117) := cw_e1 elv166 hlv127_0 (by decide) (Or.inl (by decide))
              have hlv166_1 : aj_lv lv166 1 = some (.int x) := cw_e1 elv166 hlv127_1 (by decide) (Or.inr rfl)
              have hlv166_2 : aj_lv lv166 2 = some (.int x165) := by rw [elv166]; exact ak_set1_eq _ _ _
              show aw_W _ _ _ _ 170 lv166 [] _ _
              refine aw_n aj_d285 rfl rfl ?_
              exact ihL20_124 S126 lv166 (x165) hlv166_0 hlv166_1 hlv166_2 ⟨(hI132).1, hI129.2⟩ fr130 fl131 (by omega) g20 (show ((S126.1 61)).toInt ≤ _ by first | omega | exact Int.le_refl 0) (by omega)
            · have q164 : x163.toInt ≠ (0 : Int) := aw_t_eq (a := x163.toInt) (b := (0 : Int)) rfl rfl q164
              refine aw_n aj_d285 rfl rfl ?_
              refine aw_t0 (j := 3) aj_d285 rfl (by decide) rfl ?_
              obtain ⟨lv167, elv167⟩ : ∃ l, l = aj_set1 lv127 3 (.int (Int32.ofInt 0)) := ⟨_, rfl⟩
              rw [← elv167]
              have hlv167_0 : aj_lv lv167 0 = some (.ref 117) := cw_e1 elv167 hlv127_0 (by decide) (Or.inl (by decide))
              have hlv167_1 : aj_lv lv167 1 = some (.int x) := cw_e1 elv167 hlv127_1 (by decide) (Or.inl (by decide))
              have hlv167_2 : aj_lv lv167 2 = some (.int x128) := cw_e1 elv167 hlv127_2 (by decide) (Or.inr rfl)
              have hlv167_3 : aj_lv lv167 3 = some (.int (Int32.ofInt 0)) := by rw [elv167]; exact ak_set1_eq _ _ _
              show aw_W _ _ _ _ 47 lv167 [] _ _
              refine aw_n aj_d285 rfl rfl ?_
              refine aw_t0 (j := 4) aj_d285 rfl (by decide) rfl ?_
              obtain ⟨lv168, elv168⟩ : ∃ l, l = aj_set1 lv167 4 (.int (Int32.ofInt 0)) := ⟨_, rfl⟩
              rw [← elv168]
              have hlv168_0 : aj_lv lv168 0 = some (.ref 117) := cw_e1 elv168 hlv167_0 (by decide) (Or.inl (by decide))
              have hlv168_1 : aj_lv lv168 1 = some (.int x) := cw_e1 elv168 hlv167_1 (by decide) (Or.inl (by decide))
              have hlv168_2 : aj_lv lv168 2 = some (.int x128) := cw_e1 elv168 hlv167_2 (by decide) (Or.inl (by decide))
              have hlv168_3 : aj_lv lv168 3 = some (.int (Int32.ofInt 0)) := cw_e1 elv168 hlv167_3 (by decide) (Or.inr rfl)
              have hlv168_4 : aj_lv lv168 4 = some (.int (Int32.ofInt 0)) := by rw [elv168]; exact ak_set1_eq _ _ _
              show aw_W _ _ _ _ 50 lv168 [] _ _
              have L50_168 : ∀ (N : Nat) (lv171 : aj_V) (x172 : Int32) (x173 : Int32), (aj_lv lv171 0 = some (.ref 117)) → (aj_lv lv171 1 = some (.int x)) → (aj_lv lv171 2 = some (.int x128)) → (aj_lv lv171 3 = some (.int x172)) → (aj_lv lv171 4 = some (.int x173)) → (0 ≤ x173.toInt ∧ x173.toInt ≤ 20) → (ar_lo (S.2.2.1 10 (aw_hh S)).toInt.toNat x172) → (20 - x173.toInt).toNat < N → aw_W tb h d aj_m285 50 lv171 [] S126 ((fun r S' => ak_Ty ak_TN s (aj_mh h S') ∧ aw_fr [61] [28, 29] S S' ∧ (∃ z : Int32, r = some (.int z)) ∧ aw_B S')) := by
                intro N
                induction N with
                | zero =>
                  intro  lv171 x172 x173 hlv171_0 hlv171_1 hlv171_2 hlv171_3 hlv171_4 bx173 lo50 hm
                  omega
                | succ N ihL50_168 =>
                  intro  lv171 x172 x173 hlv171_0 hlv171_1 hlv171_2 hlv171_3 hlv171_4 bx173 lo50 hm
                  refine aw_l0 aj_d285 rfl rfl hlv171_4 ?_
                  refine aw_l2 aj_d285 rfl rfl hlv171_0 ?_
                  refine aw_g hU.1 aj_d285 rfl rfl (by decide) (v := .ref 127) rfl ?_
                  refine aw_l2 aj_d285 rfl rfl hlv171_0 ?_
                  refine aw_g hU.1 aj_d285 rfl rfl (by decide) (v := .int (S126.1 0)) rfl ?_
                  refine aw_ld (k := 10) hU.1 aj_d285 (Or.inl ⟨rfl, rfl⟩) rfl (by decide) (by decide) rfl (a := (S.1 0).toInt) c135 (by omega) (by omega) (fun x176 ex176 => ?_)
                  have bx176 : 0 ≤ x176.toInt ∧ x176.toInt ≤ 20 := by
                    rw [ex176]
                    exact aw_bd_a hs (hI132).1 (k := 10) (by decide) (by decide) rfl (by decide) rfl (by omega)
                  have ftx176 : x176.toInt = (S.2.2.1 10 ((S.1 0).toInt).toNat).toInt := congrArg Int32.toInt (ex176.trans (congrFun ((fl131.2 10 (by decide)).1.trans rfl) _))
                  have yp : x176.toInt = (S.2.2.1 10 (aw_hh S)).toInt := (congrArg Int32.toInt ex176).trans (by first | exact congrArg (fun j => (S.2.2.1 10 j).toInt) (by unfold aw_hh; omega) | (rw [show (S126).2.2.1 10 = S.2.2.1 10 from ((fl131.2 10 (by decide)).1.trans rfl)]; exact congrArg (fun j => (S.2.2.1 10 j).toInt) (by unfold aw_hh; omega)))
                  refine aw_c (tgt := 105) aj_d285 rfl rfl (fun q177 => ?_) (fun q177 => ?_)
                  · have q177 : x173.toInt ≥ x176.toInt := aw_t_ge (a := x173.toInt) (b := x176.toInt) rfl rfl q177
                    refine aw_l0 aj_d285 rfl rfl hlv171_3 ?_
                    refine aw_z (tgt := 111) aj_d285 rfl rfl (fun q178 => ?_) (fun q178 => ?_)
                    · have q178 : x172.toInt ≠ (0 : Int) := aw_t_ne (a := x172.toInt) (b := (0 : Int)) rfl rfl q178
                      refine aw_n aj_d285 rfl rfl ?_
                      refine aw_t0 (j := 4) aj_d285 rfl (by decide) rfl ?_
                      obtain ⟨lv179, elv179⟩ : ∃ l, l = aj_set1 lv171 4 (.int (Int32.ofInt 0)) := ⟨_, rfl⟩
                      rw [← elv179]
                      have hlv179_0 : aj_lv lv179 0 = some (.ref 117) := cw_e1 elv179 hlv171_0 (by decide) (Or.inl (by decide))
                      have hlv179_1 : aj_lv lv179 1 = some (.int x) := cw_e1 elv179 hlv171_1 (by decide) (Or.inl (by decide))
                      have hlv179_2 : aj_lv lv179 2 = some (.int x128) := cw_e1 elv179 hlv171_2 (by decide) (Or.inl (by decide))
                      have hlv179_3 : aj_lv lv179 3 = some (.int x172) := cw_e1 elv179 hlv171_3 (by decide) (Or.inr rfl)
                      have hlv179_4 : aj_lv lv179 4 = some (.int (Int32.ofInt 0)) := by rw [elv179]; exact ak_set1_eq _ _ _
                      show aw_W _ _ _ _ 114 lv179 [] _ _
                      have L114_179 : ∀ (N : Nat) (lv182 : aj_V) (x183 : Int32), (aj_lv lv182 0 = some (.ref 117)) → (aj_lv lv182 1 = some (.int x)) → (aj_lv lv182 2 = some (.int x128)) → (aj_lv lv182 3 = some (.int x172)) → (aj_lv lv182 4 = some (.int x183)) → (0 ≤ x183.toInt ∧ x183.toInt ≤ 1024) → (x183.toInt ≤ (S126.1 61).toInt) → (1024 - x183.toInt).toNat < N → aw_W tb h d aj_m285 114 lv182 [] S126 ((fun r S' => ak_Ty ak_TN s (aj_mh h S') ∧ aw_fr [61] [28, 29] S S' ∧ (∃ z : Int32, r = some (.int z)) ∧ aw_B S')) := by
                        intro N
                        induction N with
                        | zero =>
                          intro  lv182 x183 hlv182_0 hlv182_1 hlv182_2 hlv182_3 hlv182_4 bx183 k114 hm
                          omega
                        | succ N ihL114_179 =>
                          intro  lv182 x183 hlv182_0 hlv182_1 hlv182_2 hlv182_3 hlv182_4 bx183 k114 hm
                          refine aw_l0 aj_d285 rfl rfl hlv182_4 ?_
                          refine aw_l2 aj_d285 rfl rfl hlv182_0 ?_
                          refine aw_g hU.1 aj_d285 rfl rfl (by decide) (v := .int (S126.1 61)) rfl ?_
                          refine aw_c (tgt := 140) aj_d285 rfl rfl (fun q186 => ?_) (fun q186 => ?_)
                          · have q186 : x183.toInt ≥ (S126.1 61).toInt := aw_t_ge (a := x183.toInt) (b := (S126.1 61).toInt) rfl rfl q186
                            refine aw_l0 aj_d285 rfl rfl hlv182_4 ?_
                            refine aw_l2 aj_d285 rfl rfl hlv182_0 ?_
                            refine aw_g hU.1 aj_d285 rfl rfl (by decide) (v := .int (S126.1 61)) rfl ?_
                            refine aw_c (tgt := 167) aj_d285 rfl rfl (fun q187 => ?_) (fun q187 => ?_)
                            · have q187 : x183.toInt ≠ (S126.1 61).toInt := aw_t_ne (a := x183.toInt) (b := (S126.1 61).toInt) rfl rfl q187
                              refine aw_inc aj_d285 rfl hlv182_2 (a := x128.toInt) rfl (by omega) (by omega) (by decide) (by decide) (fun x188 ex188 => ?_)
                              obtain ⟨lv189, elv189⟩ : ∃ l, l = aj_set1 lv182 2 (.int x188) := ⟨_, rfl⟩
                              rw [← elv189]
                              have hlv189_0 : aj_lv lv189 0 = some (.ref 117) := cw_e1 elv189 hlv182_0 (by decide) (Or.inl (by decide))
                              have hlv189_1 : aj_lv lv189 1 = some (.int x) := cw_e1 elv189 hlv182_1 (by decide) (Or.inr rfl)
                              have hlv189_2 : aj_lv lv189 2 = some (.int x188) := by rw [elv189]; exact ak_set1_eq _ _ _
                              show aw_W _ _ _ _ 170 lv189 [] _ _
                              refine aw_n aj_d285 rfl rfl ?_
                              exact ihL20_124 S126 lv189 (x188) hlv189_0 hlv189_1 hlv189_2 ⟨(hI132).1, hI129.2⟩ fr130 fl131 (by omega) g20 (show ((S126.1 61)).toInt ≤ _ by first | omega | exact Int.le_refl 0) (by omega)
                            · have q187 : x183.toInt = (S126.1 61).toInt := aw_t_ne (a := x183.toInt) (b := (S126.1 61).toInt) rfl rfl q187
                              refine aw_l2 aj_d285 rfl rfl hlv182_0 ?_
                              refine aw_g hU.1 aj_d285 rfl rfl (by decide) (v := .ref 145) rfl ?_
                              refine aw_l0 aj_d285 rfl rfl hlv182_4 ?_
                              refine aw_l0 aj_d285 rfl rfl hlv182_3 ?_
                              refine aw_st (k := 28) hU.1 aj_d285 (Or.inl ⟨rfl, rfl⟩) rfl (by decide) (by decide) rfl (a := x183.toInt) rfl (by omega) (by omega) ?_
                              have hI190 := aw_I_a (aw_UV hU aw_Gs_sm) (k := 28) (j := (x183.toInt).toNat) (v := aj_nar 0 x172) hI132 (by decide) (by decide) (by decide) rfl (by decide) (by decide) rfl (aw_full _)
                              have fr191 := aw_fr_a (k := 28) (j := (x183.toInt).toNat) (v := aj_nar 0 x172) (by decide) fr130
                              have fl192 := aw_fr_a (k := 28) (j := (x183.toInt).toNat) (v := aj_nar 0 x172) (by decide) fl131
                              refine aw_l2 aj_d285 rfl rfl hlv182_0 ?_
                              refine aw_n aj_d285 rfl rfl ?_
                              refine aw_g hU.1 aj_d285 rfl rfl (by decide) (v := .int (S126.1 61)) rfl ?_
                              refine aw_n aj_d285 rfl rfl ?_
                              refine aw_add aj_d285 rfl (a := (S126.1 61).toInt) (b := (1 : Int)) rfl rfl (by omega) (by omega) (fun x193 ex193 => ?_)
                              refine aw_p hU.1 aj_d285 rfl rfl (by decide) rfl ?_
                              have hI194 := aw_I_f (aw_UV hU aw_Gs_sm) (k := 61) (v := x193) hI190 (by decide) (by decide) rfl (aw_bp (a := x193.toInt) rfl (by omega) (by omega))
                              have fr195 := aw_fr_f (k := 61) (v := x193) (by decide) fr191
                              have fl196 := aw_fr_f (k := 61) (v := x193) (by decide) fl192
                              have g9 : (∀ j : Nat, (j : Int) < ((aw_wf (aw_wa S126 28 (x183.toInt).toNat (aj_nar 0 x172)) 61 x193).1 61).toInt → ((aw_wf (aw_wa S126 28 (x183.toInt).toNat (aj_nar 0 x172)) 61 x193).2.2.1 28 j).toInt ≠ 0 ∧ ar_lo (S.2.2.1 10 (aw_hh S)).toInt.toNat ((aw_wf (aw_wa S126 28 (x183.toInt).toNat (aj_nar 0 x172)) 61 x193).2.2.1 28 j)) := fun j hj => by
                                have hj : (j : Int) < (x193).toInt := hj
                                show (upd (S126.2.2.1 28) (x183.toInt).toNat (aj_nar 0 x172) j).toInt ≠ 0 ∧ ar_lo (S.2.2.1 10 (aw_hh S)).toInt.toNat (upd (S126.2.2.1 28) (x183.toInt).toNat (aj_nar 0 x172) j)
                                unfold upd
                                by_cases e : j = (x183.toInt).toNat
                                · rw [if_pos e]
                                  exact ⟨(show (x172).toInt ≠ 0 by omega), lo50⟩
                                · rw [if_neg e]
                                  exact g20 j (by omega)
                              refine aw_inc aj_d285 rfl hlv182_2 (a := x128.toInt) rfl (by omega) (by omega) (by decide) (by decide) (fun x197 ex197 => ?_)
                              obtain ⟨lv198, elv198⟩ : ∃ l, l = aj_set1 lv182 2 (.int x197) := ⟨_, rfl⟩
                              rw [← elv198]
                              have hlv198_0 : aj_lv lv198 0 = some (.ref 117) := cw_e1 elv198 hlv182_0 (by decide) (Or.inl (by decide))
                              have hlv198_1 : aj_lv lv198 1 = some (.int x) := cw_e1 elv198 hlv182_1 (by decide) (Or.inr rfl)
                              have hlv198_2 : aj_lv lv198 2 = some (.int x197) := by rw [elv198]; exact ak_set1_eq _ _ _
                              show aw_W _ _ _ _ 170 lv198 [] _ _
                              refine aw_n aj_d285 rfl rfl ?_
                              exact ihL20_124 (aw_wf (aw_wa S126 28 (x183.toInt).toNat (aj_nar 0 x172)) 61 x193) lv198 (x197) hlv198_0 hlv198_1 hlv198_2 ⟨(hI194).1, (aw_B_sm hI194.2 hI129.2)⟩ fr195 fl196 (by omega) g9 (show (x193).toInt ≤ _ by first | omega | exact Int.le_refl 0) (by omega)
                          · have q186 : x183.toInt < (S126.1 61).toInt := aw_t_ge (a := x183.toInt) (b := (S126.1 61).toInt) rfl rfl q186
                            refine aw_l2 aj_d285 rfl rfl hlv182_0 ?_
                            refine aw_g hU.1 aj_d285 rfl rfl (by decide) (v := .ref 145) rfl ?_
                            refine aw_l0 aj_d285 rfl rfl hlv182_4 ?_
                            refine aw_ld (k := 28) hU.1 aj_d285 (Or.inl ⟨rfl, rfl⟩) rfl (by decide) (by decide) rfl (a := x183.toInt) rfl (by omega) (by omega) (fun x199 ex199 => ?_)
                            refine aw_l0 aj_d285 rfl rfl hlv182_3 ?_
                            refine aw_c (tgt := 140) aj_d285 rfl rfl (fun q200 => ?_) (fun q200 => ?_)
                            · have q200 : x199.toInt = x172.toInt := aw_t_eq (a := x199.toInt) (b := x172.toInt) rfl rfl q200
                              refine aw_l0 aj_d285 rfl rfl hlv182_4 ?_
                              refine aw_l2 aj_d285 rfl rfl hlv182_0 ?_
                              refine aw_g hU.1 aj_d285 rfl rfl (by decide) (v := .int (S126.1 61)) rfl ?_
                              refine aw_c (tgt := 167) aj_d285 rfl rfl (fun q201 => ?_) (fun q201 => ?_)
                              · have q201 : x183.toInt ≠ (S126.1 61).toInt := aw_t_ne (a := x183.toInt) (b := (S126.1 61).toInt) rfl rfl q201
                                refine aw_inc aj_d285 rfl hlv182_2 (a := x128.toInt) rfl (by omega) (by omega) (by decide) (by decide) (fun x202 ex202 => ?_)
                                obtain ⟨lv203, elv203⟩ : ∃ l, l = aj_set1 lv182 2 (.int x202) := ⟨_, rfl⟩
                                rw [← elv203]
                                have hlv203_0 : aj_lv lv203 0 = some (.ref 117) := cw_e1 elv203 hlv182_0 (by decide) (Or.inl (by decide))
                                have hlv203_1 : aj_lv lv203 1 = some (.int x) := cw_e1 elv203 hlv182_1 (by decide) (Or.inr rfl)
                                have hlv203_2 : aj_lv lv203 2 = some (.int x202) := by rw [elv203]; exact ak_set1_eq _ _ _
                                show aw_W _ _ _ _ 170 lv203 [] _ _
                                refine aw_n aj_d285 rfl rfl ?_
                                exact ihL20_124 S126 lv203 (x202) hlv203_0 hlv203_1 hlv203_2 ⟨(hI132).1, hI129.2⟩ fr130 fl131 (by omega) g20 (show ((S126.1 61)).toInt ≤ _ by first | omega | exact Int.le_refl 0) (by omega)
                              · have q201 : x183.toInt = (S126.1 61).toInt := aw_t_ne (a := x183.toInt) (b := (S126.1 61).toInt) rfl rfl q201
                                refine aw_l2 aj_d285 rfl rfl hlv182_0 ?_
                                refine aw_g hU.1 aj_d285 rfl rfl (by decide) (v := .ref 145) rfl ?_
                                refine aw_l0 aj_d285 rfl rfl hlv182_4 ?_
                                refine aw_l0 aj_d285 rfl rfl hlv182_3 ?_
                                refine aw_st (k := 28) hU.1 aj_d285 (Or.inl ⟨rfl, rfl⟩) rfl (by decide) (by decide) rfl (a := x183.toInt) rfl (by omega) (by omega) ?_
                                have hI204 := aw_I_a (aw_UV hU aw_Gs_sm) (k := 28) (j := (x183.toInt).toNat) (v := aj_nar 0 x172) hI132 (by decide) (by decide) (by decide) rfl (by decide) (by decide) rfl (aw_full _)
                                have fr205 := aw_fr_a (k := 28) (j := (x183.toInt).toNat) (v := aj_nar 0 x172) (by decide) fr130
                                have fl206 := aw_fr_a (k := 28) (j := (x183.toInt).toNat) (v := aj_nar 0 x172) (by decide) fl131
                                refine aw_l2 aj_d285 rfl rfl hlv182_0 ?_
                                refine aw_n aj_d285 rfl rfl ?_
                                refine aw_g hU.1 aj_d285 rfl rfl (by decide) (v := .int (S126.1 61)) rfl ?_
                                refine aw_n aj_d285 rfl rfl ?_
                                refine aw_add aj_d285 rfl (a := (S126.1 61).toInt) (b := (1 : Int)) rfl rfl (by omega) (by omega) (fun x207 ex207 => ?_)
                                refine aw_p hU.1 aj_d285 rfl rfl (by decide) rfl ?_
                                have hI208 := aw_I_f (aw_UV hU aw_Gs_sm) (k := 61) (v := x207) hI204 (by decide) (by decide) rfl (aw_bp (a := x207.toInt) rfl (by omega) (by omega))
                                have fr209 := aw_fr_f (k := 61) (v := x207) (by decide) fr205
                                have fl210 := aw_fr_f (k := 61) (v := x207) (by decide) fl206
                                have g9 : (∀ j : Nat, (j : Int) < ((aw_wf (aw_wa S126 28 (x183.toInt).toNat (aj_nar 0 x172)) 61 x207).1 61).toInt → ((aw_wf (aw_wa S126 28 (x183.toInt).toNat (aj_nar 0 x172)) 61 x207).2.2.1 28 j).toInt ≠ 0 ∧ ar_lo (S.2.2.1 10 (aw_hh S)).toInt.toNat ((aw_wf (aw_wa S126 28 (x183.toInt).toNat (aj_nar 0 x172)) 61 x207).2.2.1 28 j)) := fun j hj => by
                                  have hj : (j : Int) < (x207).toInt := hj
                                  show (upd (S126.2.2.1 28) (x183.toInt).toNat (aj_nar 0 x172) j).toInt ≠ 0 ∧ ar_lo (S.2.2.1 10 (aw_hh S)).toInt.toNat (upd (S126.2.2.1 28) (x183.toInt).toNat (aj_nar 0 x172) j)
                                  unfold upd
                                  by_cases e : j = (x183.toInt).toNat
                                  · rw [if_pos e]
                                    exact ⟨(show (x172).toInt ≠ 0 by omega), lo50⟩
                                  · rw [if_neg e]
                                    exact g20 j (by omega)
                                refine aw_inc aj_d285 rfl hlv182_2 (a := x128.toInt) rfl (by omega) (by omega) (by decide) (by decide) (fun x211 ex211 => ?_)
                                obtain ⟨lv212, elv212⟩ : ∃ l, l = aj_set1 lv182 2 (.int x211) := ⟨_, rfl⟩
                                rw [← elv212]
                                have hlv212_0 : aj_lv lv212 0 = some (.ref 117) := cw_e1 elv212 hlv182_0 (by decide) (Or.inl (by decide))
                                have hlv212_1 : aj_lv lv212 1 = some (.int x) := cw_e1 elv212 hlv182_1 (by decide) (Or.inr rfl)
                                have hlv212_2 : aj_lv lv212 2 = some (.int x211) := by rw [elv212]; exact ak_set1_eq _ _ _
                                show aw_W _ _ _ _ 170 lv212 [] _ _
                                refine aw_n aj_d285 rfl rfl ?_
                                exact ihL20_124 (aw_wf (aw_wa S126 28 (x183.toInt).toNat (aj_nar 0 x172)) 61 x207) lv212 (x211) hlv212_0 hlv212_1 hlv212_2 ⟨(hI208).1, (aw_B_sm hI208.2 hI129.2)⟩ fr209 fl210 (by omega) g9 (show (x207).toInt ≤ _ by first | omega | exact Int.le_refl 0) (by omega)
                            · have q200 : x199.toInt ≠ x172.toInt := aw_t_eq (a := x199.toInt) (b := x172.toInt) rfl rfl q200
                              refine aw_inc aj_d285 rfl hlv182_4 (a := x183.toInt) rfl (by omega) (by omega) (by decide) (by decide) (fun x213 ex213 => ?_)
                              obtain ⟨lv214, elv214⟩ : ∃ l, l = aj_set1 lv182 4 (.int x213) := ⟨_, rfl⟩
                              rw [← elv214]
                              have hlv214_0 : aj_lv lv214 0 = some (.ref 117) := cw_e1 elv214 hlv182_0 (by decide) (Or.inl (by decide))
                              have hlv214_1 : aj_lv lv214 1 = some (.int x) := cw_e1 elv214 hlv182_1 (by decide) (Or.inl (by decide))
                              have hlv214_2 : aj_lv lv214 2 = some (.int x128) := cw_e1 elv214 hlv182_2 (by decide) (Or.inl (by decide))
                              have hlv214_3 : aj_lv lv214 3 = some (.int x172) := cw_e1 elv214 hlv182_3 (by decide) (Or.inr rfl)
                              have hlv214_4 : aj_lv lv214 4 = some (.int x213) := by rw [elv214]; exact ak_set1_eq _ _ _
                              show aw_W _ _ _ _ 137 lv214 [] _ _
                              refine aw_n aj_d285 rfl rfl ?_
                              exact ihL114_179 lv214 (x213) hlv214_0 hlv214_1 hlv214_2 hlv214_3 hlv214_4 (by omega) (by omega) (by omega)
                      exact L114_179 _ lv179 ((Int32.ofInt 0)) hlv179_0 hlv179_1 hlv179_2 hlv179_3 hlv179_4 (by first | omega | decide) (show (0 : Int) ≤ ((S126.1 61)).toInt by omega) (Nat.lt_succ_self _)
                    · have q178 : x172.toInt = (0 : Int) := aw_t_ne (a := x172.toInt) (b := (0 : Int)) rfl rfl q178
                      refine aw_n aj_d285 rfl rfl ?_
                      refine aw_e aj_d285 rfl rfl ?_
                      exact ⟨(hI132).1, fr130, ⟨_, rfl⟩, hI129.2⟩
                  · have q177 : x173.toInt < x176.toInt := aw_t_ge (a := x173.toInt) (b := x176.toInt) rfl rfl q177
                    refine aw_l2 aj_d285 rfl rfl hlv171_0 ?_
                    refine aw_g hU.1 aj_d285 rfl rfl (by decide) (v := .ref 129) rfl ?_
                    refine aw_l2 aj_d285 rfl rfl hlv171_0 ?_
                    refine aw_g hU.1 aj_d285 rfl rfl (by decide) (v := .int (S126.1 0)) rfl ?_
                    refine aw_n aj_d285 rfl rfl ?_
                    refine aw_mul aj_d285 rfl (a := (S.1 0).toInt) (b := (20 : Int)) c135 rfl (by omega) (by omega) (fun x215 ex215 => ?_)
                    refine aw_l0 aj_d285 rfl rfl hlv171_4 ?_
                    refine aw_add aj_d285 rfl (a := x215.toInt) (b := x173.toInt) rfl rfl (by omega) (by omega) (fun x216 ex216 => ?_)
                    refine aw_n aj_d285 rfl rfl ?_
                    refine aw_mul aj_d285 rfl (a := x216.toInt) (b := (32 : Int)) rfl rfl (by omega) (by omega) (fun x217 ex217 => ?_)
                    refine aw_l0 aj_d285 rfl rfl hlv171_2 ?_
                    refine aw_ks aj_d285 rfl rfl rfl [_, _, _] rfl rfl (Nat.le_of_ble_eq_true rfl) (ar_bit hU (by omega) (k := 12) (n := 1280) (by decide) (by decide) rfl (a := x217.toInt) (b := x128.toInt) rfl rfl (by omega) (by omega) (by omega) (by decide)) ?_
                    rintro _ zx218 ⟨fx218, x218, rfl, hx218, ex218⟩
                    rw [fx218]
                    show aw_W _ _ _ _ 85 lv171 [.int x218] _ _
                    refine aw_z (tgt := 92) aj_d285 rfl rfl (fun q219 => ?_) (fun q219 => ?_)
                    · have q219 : x218.toInt = (0 : Int) := aw_t_eq (a := x218.toInt) (b := (0 : Int)) rfl rfl q219
                      refine aw_l0 aj_d285 rfl rfl hlv171_3 ?_
                      refine aw_n aj_d285 rfl rfl ?_
                      refine aw_l0 aj_d285 rfl rfl hlv171_4 ?_
                      refine aw_any aj_d285 rfl rfl (fun x220 ex220 => ?_)
                      refine aw_any aj_d285 rfl rfl (fun x221 ex221 => ?_)
                      refine aw_t0 (j := 3) aj_d285 rfl (by decide) rfl ?_
                      obtain ⟨lv222, elv222⟩ : ∃ l, l = aj_set1 lv171 3 (.int x221) := ⟨_, rfl⟩
                      rw [← elv222]
                      have hlv222_0 : aj_lv lv222 0 = some (.ref 117) := cw_e1 elv222 hlv171_0 (by decide) (Or.inl (by decide))
                      have hlv222_1 : aj_lv lv222 1 = some (.int x) := cw_e1 elv222 hlv171_1 (by decide) (Or.inl (by decide))
                      have hlv222_2 : aj_lv lv222 2 = some (.int x128) := cw_e1 elv222 hlv171_2 (by decide) (Or.inr rfl)
                      have hlv222_4 : aj_lv lv222 4 = some (.int x173) := cw_e1 elv222 hlv171_4 (by decide) (Or.inl (by decide))
                      have hlv222_3 : aj_lv lv222 3 = some (.int x221) := by rw [elv222]; exact ak_set1_eq _ _ _
                      show aw_W _ _ _ _ 99 lv222 [] _ _
                      refine aw_inc aj_d285 rfl hlv222_4 (a := x173.toInt) rfl (by omega) (by omega) (by decide) (by decide) (fun x223 ex223 => ?_)
                      obtain ⟨lv224, elv224⟩ : ∃ l, l = aj_set1 lv222 4 (.int x223) := ⟨_, rfl⟩
                      rw [← elv224]
                      have hlv224_0 : aj_lv lv224 0 = some (.ref 117) := cw_e1 elv224 hlv222_0 (by decide) (Or.inl (by decide))
                      have hlv224_1 : aj_lv lv224 1 = some (.int x) := cw_e1 elv224 hlv222_1 (by decide) (Or.inl (by decide))
                      have hlv224_2 : aj_lv lv224 2 = some (.int x128) := cw_e1 elv224 hlv222_2 (by decide) (Or.inl (by decide))
                      have hlv224_3 : aj_lv lv224 3 = some (.int x221) := cw_e1 elv224 hlv222_3 (by decide) (Or.inr rfl)
                      have hlv224_4 : aj_lv lv224 4 = some (.int x223) := by rw [elv224]; exact ak_set1_eq _ _ _
                      show aw_W _ _ _ _ 102 lv224 [] _ _
                      refine aw_n aj_d285 rfl rfl ?_
                      exact ihL50_168 lv224 (x221) (x223) hlv224_0 hlv224_1 hlv224_2 hlv224_3 hlv224_4 (by omega) (by rw [ex221, ex220]; exact ar_lo_or lo50 (k := (x173.toInt).toNat) (by omega) (by omega) (by omega)) (by omega)
                    · have q219 : x218.toInt ≠ (0 : Int) := aw_t_eq (a := x218.toInt) (b := (0 : Int)) rfl rfl q219
                      refine aw_l0 aj_d285 rfl rfl hlv171_3 ?_
                      refine aw_n aj_d285 rfl rfl ?_
                      refine aw_t0 (j := 3) aj_d285 rfl (by decide) rfl ?_
                      obtain ⟨lv225, elv225⟩ : ∃ l, l = aj_set1 lv171 3 (.int x172) := ⟨_, rfl⟩
                      rw [← elv225]
                      have hlv225_0 : aj_lv lv225 0 = some (.ref 117) := cw_e1 elv225 hlv171_0 (by decide) (Or.inl (by decide))
                      have hlv225_1 : aj_lv lv225 1 = some (.int x) := cw_e1 elv225 hlv171_1 (by decide) (Or.inl (by decide))
                      have hlv225_2 : aj_lv lv225 2 = some (.int x128) := cw_e1 elv225 hlv171_2 (by decide) (Or.inr rfl)
                      have hlv225_4 : aj_lv lv225 4 = some (.int x173) := cw_e1 elv225 hlv171_4 (by decide) (Or.inl (by decide))
                      have hlv225_3 : aj_lv lv225 3 = some (.int x172) := by rw [elv225]; exact ak_set1_eq _ _ _
                      show aw_W _ _ _ _ 99 lv225 [] _ _
                      refine aw_inc aj_d285 rfl hlv225_4 (a := x173.toInt) rfl (by omega) (by omega) (by decide) (by decide) (fun x226 ex226 => ?_)
                      obtain ⟨lv227, elv227⟩ : ∃ l, l = aj_set1 lv225 4 (.int x226) := ⟨_, rfl⟩
                      rw [← elv227]
                      have hlv227_0 : aj_lv lv227 0 = some (.ref 117) := cw_e1 elv227 hlv225_0 (by decide) (Or.inl (by decide))
                      have hlv227_1 : aj_lv lv227 1 = some (.int x) := cw_e1 elv227 hlv225_1 (by decide) (Or.inl (by decide))
                      have hlv227_2 : aj_lv lv227 2 = some (.int x128) := cw_e1 elv227 hlv225_2 (by decide) (Or.inl (by decide))
                      have hlv227_3 : aj_lv lv227 3 = some (.int x172) := cw_e1 elv227 hlv225_3 (by decide) (Or.inr rfl)
                      have hlv227_4 : aj_lv lv227 4 = some (.int x226) := by rw [elv227]; exact ak_set1_eq _ _ _
                      show aw_W _ _ _ _ 102 lv227 [] _ _
                      refine aw_n aj_d285 rfl rfl ?_
                      exact ihL50_168 lv227 (x172) (x226) hlv227_0 hlv227_1 hlv227_2 hlv227_3 hlv227_4 (by omega) lo50 (by omega)
              exact L50_168 _ lv168 ((Int32.ofInt 0)) ((Int32.ofInt 0)) hlv168_0 hlv168_1 hlv168_2 hlv168_3 hlv168_4 (by first | omega | decide) ar_lo_0 (Nat.lt_succ_self _)
      exact L20_124 _ (aw_wf S 61 (Int32.ofInt 0)) lv124 ((Int32.ofInt 0)) hlv124_0 hlv124_1 hlv124_2 ⟨(hI122).1, (aw_B_sm hI122.2 hG)⟩ fr123 (aw_fr_rf : aw_fr [61] [28] (aw_wf S 61 (Int32.ofInt 0)) (aw_wf S 61 (Int32.ofInt 0))) (by first | omega | decide) (fun j hj => absurd hj (by show ¬ ((j : Int) < 0); omega)) (show ((Int32.ofInt 0)).toInt ≤ _ by first | omega | exact Int.le_refl 0) (Nat.lt_succ_self _)
    · have q121 : x.toInt < (0 : Int) := aw_t_ge (a := x.toInt) (b := (0 : Int)) rfl rfl q121
      refine aw_n aj_d285 rfl rfl ?_
      refine aw_e aj_d285 rfl rfl ?_
      exact ⟨(hI117).1, fr118, ⟨_, rfl⟩, hG⟩
end ARA29
