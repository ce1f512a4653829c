/-! WHAT THE ABSTRACT MACHINE DOES, THE MACHINE DOES -/
def aj_ad (S base : Nat) (stA : Nat → Nat) (r : Nat) : Nat := if r < S then stA r else base + (r - S)
def aj_c (ad : Nat → Nat) : Value → Value
  | .ref r => .ref (ad r)
  | v => v
def aj_cv (ad : Nat → Nat) (lv : aj_V) : aj_V := lv.map fun q => (q.1, aj_c ad q.2)
def aj_ca (ad : Nat → Nat) : vp_A → vp_A
  | (n, .inr (.inr (.inr (.inr f)))) => (n, .inr (.inr (.inr (.inr (fun i => (f i).map ad)))))
  | a => a
def aj_ce (ad : Nat → Nat) (cA : Nat → ClassId) : aj_E → va_E
  | .inl (k, a) => .inl (cA k, aj_ca ad a)
  | .inr (ci, fs) => .inr (ci, fs.map (aj_c ad))
def aj_ws (ad : Nat → Nat) (cA : Nat → ClassId) (base : Nat) (h : aj_H) : va_W := h.mapIdx fun i e => (base + i, aj_ce ad cA e)
theorem aj_c_cat (ad : Nat → Nat) (v : Value) : (aj_c ad v).category = v.category := by cases v <;> rfl
theorem aj_lv_has {ad : Nat → Nat} {ls : Array Slot} {nL : Nat} {lv : aj_V} {i : Nat} {v : Value} (h : lv_has ls nL (aj_cv ad lv)) (hv : aj_lv lv i = some v) : ls[i]? = some (.val (aj_c ad v)) := by
  unfold aj_lv at hv
  obtain ⟨q, hq, rfl⟩ := Option.map_eq_some_iff.mp hv
  have h1 := List.find?_some hq
  have h2 := List.mem_of_find?_eq_some hq
  have h3 : q.1 = i := by simpa using h1
  have h4 := h.2.2 (q.1, aj_c ad q.2) (List.mem_map.mpr ⟨q, h2, rfl⟩)
  rw [← h3]
  exact h4
theorem aj_lv_idx {ad : Nat → Nat} {lv : aj_V} {i : Nat} {v : Value} (hv : aj_lv lv i = some v) : ∃ k : Nat, (aj_cv ad lv)[k]? = some (i, aj_c ad v) := by
  unfold aj_lv at hv
  obtain ⟨q, hq, rfl⟩ := Option.map_eq_some_iff.mp hv
  have h1 := List.find?_some hq
  have h2 := List.mem_of_find?_eq_some hq
  have h3 : q.1 = i := by simpa using h1
  rw [← h3]
  exact List.getElem?_of_mem (List.mem_map.mpr ⟨q, h2, rfl⟩)
theorem aj_cv_set1 (ad : Nat → Nat) (lv : aj_V) (i : Nat) (v : Value) : (i, aj_c ad v) :: (aj_cv ad lv).filter (fun q => !(q.1 == i) && !(q.1 + 1 == i && q.2.category == 2)) = aj_cv ad (aj_set1 lv i v) := by
  simp only [aj_cv, aj_set1, List.map_cons, List.filter_map]
  congr 2
  apply List.filter_congr
  intro q _
  simp [Function.comp, aj_c_cat]
theorem aj_cv_set2 (ad : Nat → Nat) (lv : aj_V) (i : Nat) (v : Value) : (i, aj_c ad v) :: (aj_cv ad lv).filter (fun q => !(q.1 == i) && (!(q.1 == i + 1) && !(q.1 + 1 == i && q.2.category == 2))) = aj_cv ad (aj_set2 lv i v) := by
  simp only [aj_cv, aj_set2, List.map_cons, List.filter_map]
  congr 2
  apply List.filter_congr
  intro q _
  simp [Function.comp, aj_c_cat]
theorem aj_ws_get {ad : Nat → Nat} {cA : Nat → ClassId} {base : Nat} {h : aj_H} {k : Nat} {e : aj_E} (hk : h[k]? = some e) : (aj_ws ad cA base h)[k]? = some (base + k, aj_ce ad cA e) := by
  simp [aj_ws, hk]
theorem aj_ws_set {ad : Nat → Nat} {cA : Nat → ClassId} {base : Nat} {h : aj_H} {k : Nat} {e : aj_E} : (aj_ws ad cA base h).set k (base + k, aj_ce ad cA e) = aj_ws ad cA base (h.set k e) := by
  apply List.ext_getElem?
  intro j
  simp only [aj_ws, List.getElem?_mapIdx, List.getElem?_set, List.length_mapIdx]
  by_cases hj : k = j
  · subst hj
    by_cases hk : k < h.length <;> simp [hk]
  · simp [hj]
theorem aj_ws_app {ad : Nat → Nat} {cA : Nat → ClassId} {base : Nat} {h : aj_H} {e : aj_E} : aj_ws ad cA base (h ++ [e]) = aj_ws ad cA base h ++ [(base + h.length, aj_ce ad cA e)] := by
  simp [aj_ws, List.mapIdx_append]
theorem aj_ws_len {ad : Nat → Nat} {cA : Nat → ClassId} {base : Nat} {h : aj_H} : (aj_ws ad cA base h).length = h.length := by simp [aj_ws]
theorem aj_D {ad : Nat → Nat} {cA : Nat → ClassId} {base : Nat} (h : aj_H) : va_D (fun q => base ≤ q) (aj_ws ad cA base h) := by
  constructor
  · intro i j p q hp hq hpq
    simp only [aj_ws, List.getElem?_mapIdx, Option.map_eq_some_iff] at hp hq
    obtain ⟨a, -, rfl⟩ := hp
    obtain ⟨b, -, rfl⟩ := hq
    dsimp only at hpq
    omega
  · intro k q hq
    simp only [aj_ws, List.getElem?_mapIdx, Option.map_eq_some_iff] at hq
    obtain ⟨a, -, rfl⟩ := hq
    exact Nat.le_add_right _ _
theorem aj_in_ok {i : Int32} {n : Nat} (h : aj_in i n = true) : vp_in i n := by
  simp only [aj_in, Bool.and_eq_true, Bool.not_eq_true', decide_eq_false_iff_not, decide_eq_true_eq] at h
  intro q
  rcases q with q | q
  · exact h.1 q
  · omega
