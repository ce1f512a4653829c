/-! NAMES LOOKED UP (printed by wip/p2/walk/g55.py) -/
theorem aw_cmp0 (x y : Int64) : (lg_cmp x y).toInt = 0 ↔ x = y := by
  unfold lg_cmp
  by_cases h1 : x > y
  · rw [if_pos h1]
    exact ⟨fun z => absurd z (by decide), fun z => by subst z; exact absurd h1 (Int64.lt_irrefl)⟩
  · rw [if_neg h1]
    by_cases h2 : x = y
    · rw [if_pos h2]
      exact ⟨fun _ => h2, fun _ => rfl⟩
    · rw [if_neg h2]
      exact ⟨fun z => absurd z (by decide), fun z => absurd z h2⟩
section AWFIND
variable {tb : aj_T} {s : List Nat} {h : aj_H} {G : aj_S → Prop} {S : aj_S} {d : Nat} {Q : Option Value → aj_S → Prop}
/-- unknown -/
def aw_find217 (S : aj_S) (t : Nat) (nm : Int64) (x : Int32) : Prop := (∃ i : Nat, x.toInt = i ∧ (i : Int) < (S.2.2.1 1 t).toInt ∧ S.2.2.2 2 (t * 8 + i) = nm) ∨ (x.toInt = -1 ∧ ∀ j : Nat, (j : Int) < (S.2.2.1 1 t).toInt → S.2.2.2 2 (t * 8 + j) ≠ nm)
theorem aw_unknown_l (hV : aw_V tb s h G) (hI : aw_I s h G S) {hh : Int32} {nm : Int64} {t : Nat} (hh0 : hh.toInt = t) (ht : t ≤ 1) : ∀ (g i : Nat) (u : Int32), u.toInt = i → (S.2.2.1 1 t).toInt ≤ (i : Int) + g → (∀ j : Nat, j < i → S.2.2.2 2 (t * 8 + j) ≠ nm) → aw_W tb h d aj_m217 3 [(4, .int u), (0, .ref 117), (1, .int hh), (2, .long nm)] [] S (fun r S' => ∃ b : Int32, r = some (.int b) ∧ S' = S ∧ aw_find217 S t nm b) := by
  have b0 := aw_bd_a hV.2.2.1 hI.1 (k := 1) (j := t) (lo := 0) (hi := 8) (by decide) (by decide) rfl (by decide) rfl (by omega)
  intro g
  induction g with
  | zero =>
    intro i u hu hg hlow
    refine aw_n aj_d217 rfl rfl ?_
    refine aw_n aj_d217 rfl rfl ?_
    refine aw_g hV.1 aj_d217 rfl rfl (by decide) (v := .ref 118) rfl ?_
    refine aw_n aj_d217 rfl rfl ?_
    refine aw_ld (k := 1) hV.1 aj_d217 (Or.inl ⟨rfl, rfl⟩) rfl (by decide) (by decide) rfl (a := (t : Int)) hh0 (by omega) (by omega) (fun x9 e9 => ?_)
    have b9 : 0 ≤ x9.toInt ∧ x9.toInt ≤ 8 := by
      rw [e9]
      exact aw_bd_a hV.2.2.1 (hI).1 (k := 1) (by decide) (by decide) rfl (by decide) rfl (by omega)
    refine aw_c (tgt := 40) aj_d217 rfl rfl (fun q10 => ?_) (fun q10 => ?_)
    · have q10 : (i : Int) ≥ x9.toInt := aw_t_ge (a := (i : Int)) (b := x9.toInt) hu rfl q10
      refine aw_n aj_d217 rfl rfl ?_
      refine aw_e aj_d217 rfl rfl ?_
      refine ⟨_, rfl, rfl, Or.inr ⟨rfl, fun j hj => ?_⟩⟩
      subst e9
      have hj : (j : Int) < (S.2.2.1 1 t).toInt := hj
      exact hlow j (by simp only [Int.toNat_natCast] at *; omega)
    · have q10 : (i : Int) < x9.toInt := aw_t_ge (a := (i : Int)) (b := x9.toInt) hu rfl q10
      exfalso
      subst e9
      simp only [Int.toNat_natCast] at *
      omega
  | succ g ih =>
    intro i u hu hg hlow
    refine aw_n aj_d217 rfl rfl ?_
    refine aw_n aj_d217 rfl rfl ?_
    refine aw_g hV.1 aj_d217 rfl rfl (by decide) (v := .ref 118) rfl ?_
    refine aw_n aj_d217 rfl rfl ?_
    refine aw_ld (k := 1) hV.1 aj_d217 (Or.inl ⟨rfl, rfl⟩) rfl (by decide) (by decide) rfl (a := (t : Int)) hh0 (by omega) (by omega) (fun x1 e1 => ?_)
    have b1 : 0 ≤ x1.toInt ∧ x1.toInt ≤ 8 := by
      rw [e1]
      exact aw_bd_a hV.2.2.1 (hI).1 (k := 1) (by decide) (by decide) rfl (by decide) rfl (by omega)
    refine aw_c (tgt := 40) aj_d217 rfl rfl (fun q2 => ?_) (fun q2 => ?_)
    · have q2 : (i : Int) ≥ x1.toInt := aw_t_ge (a := (i : Int)) (b := x1.toInt) hu rfl q2
      refine aw_n aj_d217 rfl rfl ?_
      refine aw_e aj_d217 rfl rfl ?_
      refine ⟨_, rfl, rfl, Or.inr ⟨rfl, fun j hj => ?_⟩⟩
      subst e1
      have hj : (j : Int) < (S.2.2.1 1 t).toInt := hj
      exact hlow j (by simp only [Int.toNat_natCast] at *; omega)
    · have q2 : (i : Int) < x1.toInt := aw_t_ge (a := (i : Int)) (b := x1.toInt) hu rfl q2
      refine aw_n aj_d217 rfl rfl ?_
      refine aw_g hV.1 aj_d217 rfl rfl (by decide) (v := .ref 119) rfl ?_
      refine aw_n aj_d217 rfl rfl ?_
      refine aw_n aj_d217 rfl rfl ?_
      refine aw_mul aj_d217 rfl (a := (t : Int)) (b := (8 : Int)) hh0 rfl (by omega) (by omega) (fun x3 e3 => ?_)
      refine aw_n aj_d217 rfl rfl ?_
      refine aw_add aj_d217 rfl (a := x3.toInt) (b := (i : Int)) rfl hu (by omega) (by omega) (fun x4 e4 => ?_)
      refine aw_ldl (k := 2) hV.1 aj_d217 rfl (by decide) (by decide) rfl (a := x4.toInt) rfl (by omega) (by omega) (fun y5 ey5 => ?_)
      refine aw_n aj_d217 rfl rfl ?_
      refine aw_any aj_d217 rfl rfl (fun x6 e6 => ?_)
      refine aw_z (tgt := 34) aj_d217 rfl rfl (fun q7 => ?_) (fun q7 => ?_)
      · have q7 : x6.toInt ≠ (0 : Int) := aw_t_ne (a := x6.toInt) (b := (0 : Int)) rfl rfl q7
        refine aw_inc aj_d217 rfl rfl (a := (i : Int)) hu (by omega) (by omega) (by decide) (by decide) (fun x8 e8 => ?_)
        show aw_W _ _ _ _ 37 [(4, .int x8), (0, .ref 117), (1, .int hh), (2, .long nm)] [] _ _
        refine aw_n aj_d217 rfl rfl ?_
        refine ih (i + 1) x8 (by omega) (by subst e1; simp only [Int.toNat_natCast] at *; omega) (fun j hj => ?_)
        by_cases hji : j = i
        · subst hji
          intro hz
          refine q7 ?_
          rw [e6]
          refine (aw_cmp0 _ _).mpr ?_
          rw [ey5, ← hz]
          exact congrArg _ (by omega)
        · exact hlow j (by omega)
      · have q7 : x6.toInt = (0 : Int) := aw_t_ne (a := x6.toInt) (b := (0 : Int)) rfl rfl q7
        refine aw_n aj_d217 rfl rfl ?_
        refine aw_e aj_d217 rfl rfl ?_
        refine ⟨_, rfl, rfl, Or.inl ⟨i, hu, ?_, ?_⟩⟩
        · subst e1
          simp only [Int.toNat_natCast] at *
          omega
        · have hz := (aw_cmp0 _ _).mp (e6 ▸ q7)
          rw [ey5] at hz
          rw [← hz]
          exact congrArg _ (by omega)
theorem aw_unknownK (hV : aw_V tb s h G) (hI : aw_I s h G S) (hd : 1 ≤ d) {hh : Int32} {nm : Int64} {t : Nat} (hh0 : hh.toInt = t) (ht : t ≤ 1) : aw_K tb h d 217 [.ref 117, .int hh, .long nm] S (fun r S' => ∃ b : Int32, r = some (.int b) ∧ S' = S ∧ aw_find217 S t nm b) := by
  obtain ⟨d, rfl⟩ : ∃ e, d = e + 1 := ⟨d - 1, by omega⟩
  refine aw_m aj_m217_at rfl (Nat.le_of_ble_eq_true rfl) ?_
  show aw_W _ _ _ _ 0 [(0, .ref 117), (1, .int hh), (2, .long nm)] [] _ _
  refine aw_n aj_d217 rfl rfl ?_
  refine aw_n aj_d217 rfl rfl ?_
  have b0 := aw_bd_a hV.2.2.1 hI.1 (k := 1) (j := t) (lo := 0) (hi := 8) (by decide) (by decide) rfl (by decide) rfl (by omega)
  exact aw_unknown_l hV hI hh0 ht 8 0 _ rfl (by omega) (fun j hj => absurd hj (Nat.not_lt_zero _))
/-- tableOf -/
def aw_find231 (S : aj_S) (t : Nat) (nm : Int64) (x : Int32) : Prop := (∃ i : Nat, x.toInt = i ∧ (i : Int) < (S.2.2.1 7 t).toInt ∧ S.2.2.2 8 (t * 10 + i) = nm) ∨ (x.toInt = -1 ∧ ∀ j : Nat, (j : Int) < (S.2.2.1 7 t).toInt → S.2.2.2 8 (t * 10 + j) ≠ nm)
theorem aw_tableOf_l (hV : aw_V tb s h G) (hI : aw_I s h G S) {hh : Int32} {nm : Int64} {t : Nat} (hh0 : hh.toInt = t) (ht : t ≤ 1) : ∀ (g i : Nat) (u : Int32), u.toInt = i → (S.2.2.1 7 t).toInt ≤ (i : Int) + g → (∀ j : Nat, j < i → S.2.2.2 8 (t * 10 + j) ≠ nm) → aw_W tb h d aj_m231 3 [(4, .int u), (0, .ref 117), (1, .int hh), (2, .long nm)] [] S (fun r S' => ∃ b : Int32, r = some (.int b) ∧ S' = S ∧ aw_find231 S t nm b) := by
  have b0 := aw_bd_a hV.2.2.1 hI.1 (k := 7) (j := t) (lo := 0) (hi := 10) (by decide) (by decide) rfl (by decide) rfl (by omega)
  intro g
  induction g with
  | zero =>
    intro i u hu hg hlow
    refine aw_n aj_d231 rfl rfl ?_
    refine aw_n aj_d231 rfl rfl ?_
    refine aw_g hV.1 aj_d231 rfl rfl (by decide) (v := .ref 124) rfl ?_
    refine aw_n aj_d231 rfl rfl ?_
    refine aw_ld (k := 7) hV.1 aj_d231 (Or.inl ⟨rfl, rfl⟩) rfl (by decide) (by decide) rfl (a := (t : Int)) hh0 (by omega) (by omega) (fun x19 e19 => ?_)
    have b19 : 0 ≤ x19.toInt ∧ x19.toInt ≤ 10 := by
      rw [e19]
      exact aw_bd_a hV.2.2.1 (hI).1 (k := 7) (by decide) (by decide) rfl (by decide) rfl (by omega)
    refine aw_c (tgt := 40) aj_d231 rfl rfl (fun q20 => ?_) (fun q20 => ?_)
    · have q20 : (i : Int) ≥ x19.toInt := aw_t_ge (a := (i : Int)) (b := x19.toInt) hu rfl q20
      refine aw_n aj_d231 rfl rfl ?_
      refine aw_e aj_d231 rfl rfl ?_
      refine ⟨_, rfl, rfl, Or.inr ⟨rfl, fun j hj => ?_⟩⟩
      subst e19
      have hj : (j : Int) < (S.2.2.1 7 t).toInt := hj
      exact hlow j (by simp only [Int.toNat_natCast] at *; omega)
    · have q20 : (i : Int) < x19.toInt := aw_t_ge (a := (i : Int)) (b := x19.toInt) hu rfl q20
      exfalso
      subst e19
      simp only [Int.toNat_natCast] at *
      omega
  | succ g ih =>
    intro i u hu hg hlow
    refine aw_n aj_d231 rfl rfl ?_
    refine aw_n aj_d231 rfl rfl ?_
    refine aw_g hV.1 aj_d231 rfl rfl (by decide) (v := .ref 124) rfl ?_
    refine aw_n aj_d231 rfl rfl ?_
    refine aw_ld (k := 7) hV.1 aj_d231 (Or.inl ⟨rfl, rfl⟩) rfl (by decide) (by decide) rfl (a := (t : Int)) hh0 (by omega) (by omega) (fun x11 e11 => ?_)
    have b11 : 0 ≤ x11.toInt ∧ x11.toInt ≤ 10 := by
      rw [e11]
      exact aw_bd_a hV.2.2.1 (hI).1 (k := 7) (by decide) (by decide) rfl (by decide) rfl (by omega)
    refine aw_c (tgt := 40) aj_d231 rfl rfl (fun q12 => ?_) (fun q12 => ?_)
    · have q12 : (i : Int) ≥ x11.toInt := aw_t_ge (a := (i : Int)) (b := x11.toInt) hu rfl q12
      refine aw_n aj_d231 rfl rfl ?_
      refine aw_e aj_d231 rfl rfl ?_
      refine ⟨_, rfl, rfl, Or.inr ⟨rfl, fun j hj => ?_⟩⟩
      subst e11
      have hj : (j : Int) < (S.2.2.1 7 t).toInt := hj
      exact hlow j (by simp only [Int.toNat_natCast] at *; omega)
    · have q12 : (i : Int) < x11.toInt := aw_t_ge (a := (i : Int)) (b := x11.toInt) hu rfl q12
      refine aw_n aj_d231 rfl rfl ?_
      refine aw_g hV.1 aj_d231 rfl rfl (by decide) (v := .ref 125) rfl ?_
      refine aw_n aj_d231 rfl rfl ?_
      refine aw_n aj_d231 rfl rfl ?_
      refine aw_mul aj_d231 rfl (a := (t : Int)) (b := (10 : Int)) hh0 rfl (by omega) (by omega) (fun x13 e13 => ?_)
      refine aw_n aj_d231 rfl rfl ?_
      refine aw_add aj_d231 rfl (a := x13.toInt) (b := (i : Int)) rfl hu (by omega) (by omega) (fun x14 e14 => ?_)
      refine aw_ldl (k := 8) hV.1 aj_d231 rfl (by decide) (by decide) rfl (a := x14.toInt) rfl (by omega) (by omega) (fun y15 ey15 => ?_)
      refine aw_n aj_d231 rfl rfl ?_
      refine aw_any aj_d231 rfl rfl (fun x16 e16 => ?_)
      refine aw_z (tgt := 34) aj_d231 rfl rfl (fun q17 => ?_) (fun q17 => ?_)
      · have q17 : x16.toInt ≠ (0 : Int) := aw_t_ne (a := x16.toInt) (b := (0 : Int)) rfl rfl q17
        refine aw_inc aj_d231 rfl rfl (a := (i : Int)) hu (by omega) (by omega) (by decide) (by decide) (fun x18 e18 => ?_)
        show aw_W _ _ _ _ 37 [(4, .int x18), (0, .ref 117), (1, .int hh), (2, .long nm)] [] _ _
        refine aw_n aj_d231 rfl rfl ?_
        refine ih (i + 1) x18 (by omega) (by subst e11; simp only [Int.toNat_natCast] at *; omega) (fun j hj => ?_)
        by_cases hji : j = i
        · subst hji
          intro hz
          refine q17 ?_
          rw [e16]
          refine (aw_cmp0 _ _).mpr ?_
          rw [ey15, ← hz]
          exact congrArg _ (by omega)
        · exact hlow j (by omega)
      · have q17 : x16.toInt = (0 : Int) := aw_t_ne (a := x16.toInt) (b := (0 : Int)) rfl rfl q17
        refine aw_n aj_d231 rfl rfl ?_
        refine aw_e aj_d231 rfl rfl ?_
        refine ⟨_, rfl, rfl, Or.inl ⟨i, hu, ?_, ?_⟩⟩
        · subst e11
          simp only [Int.toNat_natCast] at *
          omega
        · have hz := (aw_cmp0 _ _).mp (e16 ▸ q17)
          rw [ey15] at hz
          rw [← hz]
          exact congrArg _ (by omega)
theorem aw_tableOfK (hV : aw_V tb s h G) (hI : aw_I s h G S) (hd : 1 ≤ d) {hh : Int32} {nm : Int64} {t : Nat} (hh0 : hh.toInt = t) (ht : t ≤ 1) : aw_K tb h d 231 [.ref 117, .int hh, .long nm] S (fun r S' => ∃ b : Int32, r = some (.int b) ∧ S' = S ∧ aw_find231 S t nm b) := by
  obtain ⟨d, rfl⟩ : ∃ e, d = e + 1 := ⟨d - 1, by omega⟩
  refine aw_m aj_m231_at rfl (Nat.le_of_ble_eq_true rfl) ?_
  show aw_W _ _ _ _ 0 [(0, .ref 117), (1, .int hh), (2, .long nm)] [] _ _
  refine aw_n aj_d231 rfl rfl ?_
  refine aw_n aj_d231 rfl rfl ?_
  have b0 := aw_bd_a hV.2.2.1 hI.1 (k := 7) (j := t) (lo := 0) (hi := 10) (by decide) (by decide) rfl (by decide) rfl (by omega)
  exact aw_tableOf_l hV hI hh0 ht 10 0 _ rfl (by omega) (fun j hj => absurd hj (Nat.not_lt_zero _))
/-- columnOf -/
def aw_find233 (S : aj_S) (t : Nat) (nm : Int64) (x : Int32) : Prop := (∃ i : Nat, x.toInt = i ∧ (i : Int) < (S.2.2.1 15 t).toInt ∧ S.2.2.2 16 (t * 8 + i) = nm) ∨ (x.toInt = -1 ∧ ∀ j : Nat, (j : Int) < (S.2.2.1 15 t).toInt → S.2.2.2 16 (t * 8 + j) ≠ nm)
theorem aw_columnOf_l (hV : aw_V tb s h G) (hI : aw_I s h G S) {hh : Int32} {nm : Int64} {t : Nat} (hh0 : hh.toInt = t) (ht : t ≤ 49) : ∀ (g i : Nat) (u : Int32), u.toInt = i → (S.2.2.1 15 t).toInt ≤ (i : Int) + g → (∀ j : Nat, j < i → S.2.2.2 16 (t * 8 + j) ≠ nm) → aw_W tb h d aj_m233 3 [(4, .int u), (0, .ref 117), (1, .int hh), (2, .long nm)] [] S (fun r S' => ∃ b : Int32, r = some (.int b) ∧ S' = S ∧ aw_find233 S t nm b) := by
  have b0 := aw_bd_a hV.2.2.1 hI.1 (k := 15) (j := t) (lo := (-1)) (hi := 6) (by decide) (by decide) rfl (by decide) rfl (by omega)
  intro g
  induction g with
  | zero =>
    intro i u hu hg hlow
    refine aw_n aj_d233 rfl rfl ?_
    refine aw_n aj_d233 rfl rfl ?_
    refine aw_g hV.1 aj_d233 rfl rfl (by decide) (v := .ref 132) rfl ?_
    refine aw_n aj_d233 rfl rfl ?_
    refine aw_ld (k := 15) hV.1 aj_d233 (Or.inl ⟨rfl, rfl⟩) rfl (by decide) (by decide) rfl (a := (t : Int)) hh0 (by omega) (by omega) (fun x29 e29 => ?_)
    have b29 : (-1) ≤ x29.toInt ∧ x29.toInt ≤ 6 := by
      rw [e29]
      exact aw_bd_a hV.2.2.1 (hI).1 (k := 15) (by decide) (by decide) rfl (by decide) rfl (by omega)
    refine aw_c (tgt := 40) aj_d233 rfl rfl (fun q30 => ?_) (fun q30 => ?_)
    · have q30 : (i : Int) ≥ x29.toInt := aw_t_ge (a := (i : Int)) (b := x29.toInt) hu rfl q30
      refine aw_n aj_d233 rfl rfl ?_
      refine aw_e aj_d233 rfl rfl ?_
      refine ⟨_, rfl, rfl, Or.inr ⟨rfl, fun j hj => ?_⟩⟩
      subst e29
      have hj : (j : Int) < (S.2.2.1 15 t).toInt := hj
      exact hlow j (by simp only [Int.toNat_natCast] at *; omega)
    · have q30 : (i : Int) < x29.toInt := aw_t_ge (a := (i : Int)) (b := x29.toInt) hu rfl q30
      exfalso
      subst e29
      simp only [Int.toNat_natCast] at *
      omega
  | succ g ih =>
    intro i u hu hg hlow
    refine aw_n aj_d233 rfl rfl ?_
    refine aw_n aj_d233 rfl rfl ?_
    refine aw_g hV.1 aj_d233 rfl rfl (by decide) (v := .ref 132) rfl ?_
    refine aw_n aj_d233 rfl rfl ?_
    refine aw_ld (k := 15) hV.1 aj_d233 (Or.inl ⟨rfl, rfl⟩) rfl (by decide) (by decide) rfl (a := (t : Int)) hh0 (by omega) (by omega) (fun x21 e21 => ?_)
    have b21 : (-1) ≤ x21.toInt ∧ x21.toInt ≤ 6 := by
      rw [e21]
      exact aw_bd_a hV.2.2.1 (hI).1 (k := 15) (by decide) (by decide) rfl (by decide) rfl (by omega)
    refine aw_c (tgt := 40) aj_d233 rfl rfl (fun q22 => ?_) (fun q22 => ?_)
    · have q22 : (i : Int) ≥ x21.toInt := aw_t_ge (a := (i : Int)) (b := x21.toInt) hu rfl q22
      refine aw_n aj_d233 rfl rfl ?_
      refine aw_e aj_d233 rfl rfl ?_
      refine ⟨_, rfl, rfl, Or.inr ⟨rfl, fun j hj => ?_⟩⟩
      subst e21
      have hj : (j : Int) < (S.2.2.1 15 t).toInt := hj
      exact hlow j (by simp only [Int.toNat_natCast] at *; omega)
    · have q22 : (i : Int) < x21.toInt := aw_t_ge (a := (i : Int)) (b := x21.toInt) hu rfl q22
      refine aw_n aj_d233 rfl rfl ?_
      refine aw_g hV.1 aj_d233 rfl rfl (by decide) (v := .ref 133) rfl ?_
      refine aw_n aj_d233 rfl rfl ?_
      refine aw_n aj_d233 rfl rfl ?_
      refine aw_mul aj_d233 rfl (a := (t : Int)) (b := (8 : Int)) hh0 rfl (by omega) (by omega) (fun x23 e23 => ?_)
      refine aw_n aj_d233 rfl rfl ?_
      refine aw_add aj_d233 rfl (a := x23.toInt) (b := (i : Int)) rfl hu (by omega) (by omega) (fun x24 e24 => ?_)
      refine aw_ldl (k := 16) hV.1 aj_d233 rfl (by decide) (by decide) rfl (a := x24.toInt) rfl (by omega) (by omega) (fun y25 ey25 => ?_)
      refine aw_n aj_d233 rfl rfl ?_
      refine aw_any aj_d233 rfl rfl (fun x26 e26 => ?_)
      refine aw_z (tgt := 34) aj_d233 rfl rfl (fun q27 => ?_) (fun q27 => ?_)
      · have q27 : x26.toInt ≠ (0 : Int) := aw_t_ne (a := x26.toInt) (b := (0 : Int)) rfl rfl q27
        refine aw_inc aj_d233 rfl rfl (a := (i : Int)) hu (by omega) (by omega) (by decide) (by decide) (fun x28 e28 => ?_)
        show aw_W _ _ _ _ 37 [(4, .int x28), (0, .ref 117), (1, .int hh), (2, .long nm)] [] _ _
        refine aw_n aj_d233 rfl rfl ?_
        refine ih (i + 1) x28 (by omega) (by subst e21; simp only [Int.toNat_natCast] at *; omega) (fun j hj => ?_)
        by_cases hji : j = i
        · subst hji
          intro hz
          refine q27 ?_
          rw [e26]
          refine (aw_cmp0 _ _).mpr ?_
          rw [ey25, ← hz]
          exact congrArg _ (by omega)
        · exact hlow j (by omega)
      · have q27 : x26.toInt = (0 : Int) := aw_t_ne (a := x26.toInt) (b := (0 : Int)) rfl rfl q27
        refine aw_n aj_d233 rfl rfl ?_
        refine aw_e aj_d233 rfl rfl ?_
        refine ⟨_, rfl, rfl, Or.inl ⟨i, hu, ?_, ?_⟩⟩
        · subst e21
          simp only [Int.toNat_natCast] at *
          omega
        · have hz := (aw_cmp0 _ _).mp (e26 ▸ q27)
          rw [ey25] at hz
          rw [← hz]
          exact congrArg _ (by omega)
theorem aw_columnOfK (hV : aw_V tb s h G) (hI : aw_I s h G S) (hd : 1 ≤ d) {hh : Int32} {nm : Int64} {t : Nat} (hh0 : hh.toInt = t) (ht : t ≤ 49) : aw_K tb h d 233 [.ref 117, .int hh, .long nm] S (fun r S' => ∃ b : Int32, r = some (.int b) ∧ S' = S ∧ aw_find233 S t nm b) := by
  obtain ⟨d, rfl⟩ : ∃ e, d = e + 1 := ⟨d - 1, by omega⟩
  refine aw_m aj_m233_at rfl (Nat.le_of_ble_eq_true rfl) ?_
  show aw_W _ _ _ _ 0 [(0, .ref 117), (1, .int hh), (2, .long nm)] [] _ _
  refine aw_n aj_d233 rfl rfl ?_
  refine aw_n aj_d233 rfl rfl ?_
  have b0 := aw_bd_a hV.2.2.1 hI.1 (k := 15) (j := t) (lo := (-1)) (hi := 6) (by decide) (by decide) rfl (by decide) rfl (by omega)
  exact aw_columnOf_l hV hI hh0 ht 6 0 _ rfl (by omega) (fun j hj => absurd hj (Nat.not_lt_zero _))
end AWFIND
