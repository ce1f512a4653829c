/-! A HEAP HELD AGAINST THE TYPES OF THE FIRST CELLS, CELL BY CELL -/
def cw_gb (s : List Nat) (a : ak_A) (v : Value) : Bool := match a, v with
  | .inl q, .int x => decide (q.1 ≤ x.toInt) && decide (x.toInt ≤ q.2)
  | .inr none, .long _ => true
  | .inr (some q), .null => q.2
  | .inr (some q), .ref r => decide (52 ≤ r) && q.1.any (fun t => decide (52 ≤ t) && decide (s[r - 52]? = some t))
  | _, _ => false
theorem cw_gb_ok {s : List Nat} {a : ak_A} {v : Value} (h0 : cw_gb s a v = true) : ak_gam s a v := by
  unfold cw_gb at h0
  split at h0
  · rw [Bool.and_eq_true] at h0
    exact ⟨of_decide_eq_true h0.1, of_decide_eq_true h0.2⟩
  · trivial
  · exact h0
  · rename_i q r
    rw [Bool.and_eq_true] at h0
    obtain ⟨t, ht, h1⟩ := List.any_eq_true.mp h0.2
    rw [Bool.and_eq_true] at h1
    exact ⟨t, ht, Or.inr ⟨of_decide_eq_true h0.1, of_decide_eq_true h1.1, of_decide_eq_true h1.2⟩⟩
  · cases h0
def cw_xgb (s : List Nat) (kd n : Nat) (x : cw_X) (a : ak_A) : Bool := match x with
  | .inl f => decide (kd ≠ 1) && (decide (kd < 5) && (List.range n).all (fun j => cw_gb s a (.int (f j))))
  | .inr (.inl _) => decide (kd = 1) && (match a with
    | .inr none => true
    | _ => false)
  | .inr (.inr (.inr (.inr f))) => decide (kd = 5) && (List.range n).all (fun j => cw_gb s a (va_rf (f j)))
  | _ => false
theorem cw_xgb_ok {s : List Nat} {kd n : Nat} {x : cw_X} {a : ak_A} (h0 : cw_xgb s kd n x a = true) : ak_xOK s kd n x a := by
  unfold cw_xgb at h0
  unfold ak_xOK
  split at h0
  · rw [Bool.and_eq_true, Bool.and_eq_true] at h0
    exact ⟨of_decide_eq_true h0.1, of_decide_eq_true h0.2.1, fun j hj => cw_gb_ok (List.all_eq_true.mp h0.2.2 j (List.mem_range.mpr hj))⟩
  · rw [Bool.and_eq_true] at h0
    obtain ⟨c1, h0⟩ := h0
    split at h0
    · exact ⟨of_decide_eq_true c1, rfl⟩
    · cases h0
  · rw [Bool.and_eq_true] at h0
    exact ⟨of_decide_eq_true h0.1, fun j hj => cw_gb_ok (List.all_eq_true.mp h0.2 j (List.mem_range.mpr hj))⟩
  · cases h0
def cw_cb (T : ak_TT) (s : List Nat) (t : Nat) (e : aj_E) : Bool := match T.1[t]? with
  | some (.inl c) => (match e with
    | .inr (c', fs) => decide (c' = c) && (match T.2.1[c]? with
      | some fa => decide (fs.length = fa.length) && (fa.zip fs).all (fun q => cw_gb s q.1 q.2)
      | none => false)
    | _ => false)
  | some (.inr (kd, n1, n2, a)) => (match e with
    | .inl (kd', n, x) => decide (kd' = kd) && (decide (n1 ≤ n) && (decide (n ≤ n2) && cw_xgb s kd n x a))
    | _ => false)
  | none => false
theorem cw_cb_ok {T : ak_TT} {s : List Nat} {t : Nat} {e : aj_E} (h0 : cw_cb T s t e = true) : ak_cOK T s t e := by
  unfold cw_cb at h0
  unfold ak_cOK
  cases hq : T.1[t]? with
  | none =>
    rw [hq] at h0
    cases h0
  | some z =>
    rw [hq] at h0
    cases z with
    | inl c =>
      dsimp only at h0
      split at h0
      · rename_i c' fs
        rw [Bool.and_eq_true] at h0
        obtain ⟨c1, h0⟩ := h0
        obtain rfl := of_decide_eq_true c1
        split at h0
        · rename_i fa hfa
          rw [Bool.and_eq_true] at h0
          have hl : fs.length = fa.length := of_decide_eq_true h0.1
          refine ⟨fs, rfl, fa, hfa, hl, fun k a hk => ?_⟩
          have hk2 := (List.getElem?_eq_some_iff.mp hk).1
          have hv : fs[k]? = some (fs[k]'(by omega)) := List.getElem?_eq_getElem _
          exact ⟨_, hv, cw_gb_ok (List.all_eq_true.mp h0.2 _ (List.mem_of_getElem? (List.getElem?_zip_eq_some (z := (a, fs[k]'(by omega))).mpr ⟨hk, hv⟩)))⟩
        · cases h0
      · cases h0
    | inr q =>
      obtain ⟨kd, n1, n2, a⟩ := q
      dsimp only at h0
      split at h0
      · rename_i kd' n x
        rw [Bool.and_eq_true, Bool.and_eq_true, Bool.and_eq_true] at h0
        obtain ⟨c1, c2, c3, h0⟩ := h0
        obtain rfl := of_decide_eq_true c1
        exact ⟨n, x, rfl, of_decide_eq_true c2, of_decide_eq_true c3, cw_xgb_ok h0⟩
      · cases h0
def cw_tyb (T : ak_TT) (s : List Nat) (h : aj_H) : Bool := decide (h.length = s.length) && (s.zip h).all (fun q => decide (52 ≤ q.1) && cw_cb T s q.1 q.2)
theorem cw_tyb_ok {T : ak_TT} {s : List Nat} {h : aj_H} (h0 : cw_tyb T s h = true) : ak_Ty T s h := by
  unfold cw_tyb at h0
  rw [Bool.and_eq_true] at h0
  have hl : h.length = s.length := of_decide_eq_true h0.1
  refine ⟨hl, fun i t hs => ?_⟩
  have hi := (List.getElem?_eq_some_iff.mp hs).1
  have he : h[i]? = some (h[i]'(by omega)) := List.getElem?_eq_getElem _
  have h1 := List.all_eq_true.mp h0.2 _ (List.mem_of_getElem? (List.getElem?_zip_eq_some (z := (t, h[i]'(by omega))).mpr ⟨hs, he⟩))
  rw [Bool.and_eq_true] at h1
  exact ⟨of_decide_eq_true h1.1, _, he, cw_cb_ok h1.2⟩
