/-! THE REFERENCE'S CELLS AS FUNCTIONS (printed by wip/p2/gen_model.py): ints and booleans of the object by their field's number, longs likewise, arrays by their cell's number behind the object -/
abbrev aj_S : Type := (Nat → Int32) × (Nat → Int64) × (Nat → Nat → Int32) × (Nat → Nat → Int64)
def aj_ml : List (Nat × Nat) := [(0, 0), (0, 2), (1, 16), (0, 16), (0, 1024), (0, 2), (0, 16384), (0, 2), (1, 20), (2, 20), (0, 2), (0, 2), (0, 1280), (0, 32), (0, 50), (0, 50), (1, 400), (4, 12000), (0, 12000), (0, 48000), (0, 1024), (4, 4000), (0, 40), (0, 64), (0, 64), (0, 16), (0, 30), (0, 8), (0, 1024), (0, 20), (0, 30), (0, 30720), (0, 30)]
def aj_mf (S : aj_S) : List Value := [.int (S.1 0), .ref 118, .ref 119, .ref 120, .ref 121, .ref 122, .ref 123, .ref 124, .ref 125, .ref 126, .ref 127, .ref 128, .ref 129, .int (S.1 13), .ref 130, .ref 131, .ref 132, .ref 133, .ref 134, .ref 135, .ref 136, .ref 137, .ref 138, .int (S.1 23), .int (S.1 24), .int (S.1 25), .int (S.1 26), .int (S.1 27), .int (S.1 28), .int (S.1 29), .int (S.1 30), .int (S.1 31), .int (S.1 32), .long (S.2.1 33), .int (S.1 34), .int (S.1 35), .int (S.1 36), .int (S.1 37), .int (S.1 38), .int (S.1 39), .int (S.1 40), .int (S.1 41), .ref 139, .int (S.1 43), .int (S.1 44), .int (S.1 45), .int (S.1 46), .int (S.1 47), .ref 140, .ref 141, .int (S.1 50), .int (S.1 51), .int (S.1 52), .int (S.1 53), .int (S.1 54), .ref 142, .int (S.1 56), .ref 143, .int (S.1 58), .ref 144, .ref 145, .int (S.1 61), .ref 146, .ref 147, .int (S.1 64), .int (S.1 65), .ref 148, .int (S.1 67), .long (S.2.1 68), .long (S.2.1 69), .int (S.1 70), .ref 149]
def aj_mi : List Nat := [0, 13, 23, 24, 25, 26, 27, 28, 29, 30, 31, 32, 34, 35, 36, 37, 38, 39, 40, 41, 43, 44, 45, 46, 47, 50, 51, 52, 53, 54, 56, 58, 61, 64, 65, 67, 70]
def aj_mj : List Nat := [33, 68, 69]
def aj_mr : List (Nat × Nat) := [(1, 118), (2, 119), (3, 120), (4, 121), (5, 122), (6, 123), (7, 124), (8, 125), (9, 126), (10, 127), (11, 128), (12, 129), (14, 130), (15, 131), (16, 132), (17, 133), (18, 134), (19, 135), (20, 136), (21, 137), (22, 138), (42, 139), (48, 140), (49, 141), (55, 142), (57, 143), (59, 144), (60, 145), (62, 146), (63, 147), (66, 148), (71, 149)]
/-- the cell k behind the object (0: the object) -/
def aj_mc (S : aj_S) (k : Nat) : aj_E := if k = 0 then .inr (11, aj_mf S) else match aj_ml[k]? with
  | some (kd, n) => if kd = 1 then .inl (1, n, .inr (.inl (S.2.2.2 k))) else .inl (kd, n, .inl (S.2.2.1 k))
  | none => .inl (0, 0, .inl (fun _ => 0))
/-- the heap h with these cells of the reference -/
def aj_mh (h : aj_H) (S : aj_S) : aj_H := h.mapIdx fun i e => if 65 ≤ i ∧ i < 98 then aj_mc S (i - 65) else e
def aj_u {α : Type} (f : Nat → α) (k : Nat) (v : α) : Nat → α := fun j => if j = k then v else f j
theorem aj_mh_len (h : aj_H) (S : aj_S) : (aj_mh h S).length = h.length := by simp [aj_mh]
theorem aj_mh_get {h : aj_H} (hl : 98 ≤ h.length) (S : aj_S) {k : Nat} (hk : k < 33) : (aj_mh h S)[65 + k]? = some (aj_mc S k) := by
  unfold aj_mh
  rw [List.getElem?_mapIdx, List.getElem?_eq_getElem (by omega)]
  simp only [Option.map_some]
  rw [if_pos (by omega), Nat.add_sub_cancel_left]
theorem aj_mh_out {h : aj_H} (S : aj_S) {i : Nat} (hi : i < 65 ∨ 98 ≤ i) : (aj_mh h S)[i]? = h[i]? := by
  unfold aj_mh
  rw [List.getElem?_mapIdx]
  cases h[i]? with
  | none => rfl
  | some e =>
    simp only [Option.map_some]
    rw [if_neg (by omega)]
theorem aj_mh_set {h : aj_H} {S S' : aj_S} {k : Nat} {e : aj_E} (hk : k < 33) (he : aj_mc S' k = e) (ho : ∀ j, j ≠ k → aj_mc S' j = aj_mc S j) : (aj_mh h S).set (65 + k) e = aj_mh h S' := by
  apply List.ext_getElem?
  intro i
  rw [List.getElem?_set, aj_mh_len]
  unfold aj_mh
  rw [List.getElem?_mapIdx, List.getElem?_mapIdx]
  by_cases hi : 65 + k = i
  · subst hi
    rw [if_pos rfl]
    by_cases hl : 65 + k < h.length
    · rw [if_pos hl, List.getElem?_eq_getElem hl]
      simp only [Option.map_some]
      rw [if_pos (by omega), Nat.add_sub_cancel_left, he]
    · rw [if_neg hl, List.getElem?_eq_none (by omega)]
      rfl
  · rw [if_neg hi]
    cases h[i]? with
    | none => rfl
    | some x =>
      simp only [Option.map_some]
      by_cases hr : 65 ≤ i ∧ i < 98
      · rw [if_pos hr, if_pos hr, ho (i - 65) (by omega)]
      · rw [if_neg hr, if_neg hr]
/-- an array's cell, written -/
theorem aj_mh_arr {h : aj_H} {S : aj_S} {k kd n : Nat} {g : Nat → Int32} (hk : k < 33) (hk0 : k ≠ 0) (hm : aj_ml[k]? = some (kd, n)) (hkd : kd ≠ 1) : (aj_mh h S).set (65 + k) (.inl (kd, n, .inl g)) = aj_mh h (S.1, S.2.1, aj_u S.2.2.1 k g, S.2.2.2) := by
  refine aj_mh_set hk ?_ fun z hz => ?_
  · unfold aj_mc
    rw [if_neg hk0, hm]
    dsimp only
    rw [if_neg hkd]
    unfold aj_u
    rw [if_pos rfl]
  · unfold aj_mc
    by_cases h0 : z = 0
    · rw [if_pos h0, if_pos h0]
      rfl
    · rw [if_neg h0, if_neg h0]
      have e : aj_u S.2.2.1 k g z = S.2.2.1 z := if_neg hz
      dsimp only
      rw [e]
theorem aj_mh_arl {h : aj_H} {S : aj_S} {k n : Nat} {g : Nat → Int64} (hk : k < 33) (hk0 : k ≠ 0) (hm : aj_ml[k]? = some (1, n)) : (aj_mh h S).set (65 + k) (.inl (1, n, .inr (.inl g))) = aj_mh h (S.1, S.2.1, S.2.2.1, aj_u S.2.2.2 k g) := by
  refine aj_mh_set hk ?_ fun z hz => ?_
  · unfold aj_mc
    rw [if_neg hk0, hm]
    dsimp only
    rw [if_pos rfl]
    unfold aj_u
    rw [if_pos rfl]
  · unfold aj_mc
    by_cases h0 : z = 0
    · rw [if_pos h0, if_pos h0]
      rfl
    · rw [if_neg h0, if_neg h0]
      have e : aj_u S.2.2.2 k g z = S.2.2.2 z := if_neg hz
      dsimp only
      rw [e]
/-- a field of the object, written -/
theorem aj_mh_fld {h : aj_H} {S : aj_S} {k : Nat} {v : Int32} (hk : k ∈ aj_mi) : (aj_mh h S).set 65 (.inr (11, (aj_mf S).set k (.int v))) = aj_mh h (aj_u S.1 k v, S.2) := by
  refine aj_mh_set (k := 0) (by decide) ?_ fun z hz => ?_
  · unfold aj_mc
    rw [if_pos rfl]
    have e : aj_mf (aj_u S.1 k v, S.2) = (aj_mf S).set k (.int v) := by
      simp only [aj_mi, List.mem_cons, List.not_mem_nil, or_false] at hk
      repeat' (first | (rcases hk with rfl | hk; rfl) | (subst hk; rfl))
    rw [e]
  · unfold aj_mc
    rw [if_neg hz, if_neg hz]
theorem aj_mh_fll {h : aj_H} {S : aj_S} {k : Nat} {v : Int64} (hk : k ∈ aj_mj) : (aj_mh h S).set 65 (.inr (11, (aj_mf S).set k (.long v))) = aj_mh h (S.1, aj_u S.2.1 k v, S.2.2) := by
  refine aj_mh_set (k := 0) (by decide) ?_ fun z hz => ?_
  · unfold aj_mc
    rw [if_pos rfl]
    have e : aj_mf (S.1, aj_u S.2.1 k v, S.2.2) = (aj_mf S).set k (.long v) := by
      simp only [aj_mj, List.mem_cons, List.not_mem_nil, or_false] at hk
      repeat' (first | (rcases hk with rfl | hk; rfl) | (subst hk; rfl))
    rw [e]
  · unfold aj_mc
    rw [if_neg hz, if_neg hz]
