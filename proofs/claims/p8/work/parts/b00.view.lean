/-! RUNS SEEN AS CHANGES OF A VIEW of the heap: by reference and place its ints, longs, references, what each cell is, the next reference -/
abbrev fx_X : Type := (Nat → Nat → Int32) × (Nat → Nat → Int64) × (Nat → Nat → Option Nat) × (Nat → Nat × Nat) × Nat
def fx_vI (v : Value) : Int32 := match v with
  | .int x => x
  | _ => 0
def fx_vL (v : Value) : Int64 := match v with
  | .long x => x
  | _ => 0
def fx_vR (v : Value) : Option Nat := match v with
  | .ref r => some r
  | _ => none
def fx_c (tb : aj_T) (h : aj_H) (r : Nat) : Option aj_E := if r < tb.length then (tb[r]?).map Sum.inl else h[r - tb.length]?
def fx_I (e : Option aj_E) (k : Nat) : Int32 := match e with
  | some (.inl (_, _, .inl f)) => f k
  | some (.inr (_, fs)) => fx_vI ((fs[k]?).getD .null)
  | _ => 0
def fx_L (e : Option aj_E) (k : Nat) : Int64 := match e with
  | some (.inl (_, _, .inr (.inl f))) => f k
  | some (.inr (_, fs)) => fx_vL ((fs[k]?).getD .null)
  | _ => 0
def fx_R (e : Option aj_E) (k : Nat) : Option Nat := match e with
  | some (.inl (_, _, .inr (.inr (.inr (.inr f))))) => f k
  | some (.inr (_, fs)) => fx_vR ((fs[k]?).getD .null)
  | _ => none
def fx_A (e : Option aj_E) : Nat × Nat := match e with
  | some (.inl (k, n, _)) => (k, n)
  | some (.inr (ci, fs)) => (10 + ci, fs.length)
  | none => (9, 0)
def fx_V (tb : aj_T) (h : aj_H) : fx_X := (fun r => fx_I (fx_c tb h r), fun r => fx_L (fx_c tb h r), fun r => fx_R (fx_c tb h r), fun r => fx_A (fx_c tb h r), tb.length + h.length)
def fx_u {α : Type} (f : Nat → Nat → α) (r k : Nat) (v : α) : Nat → Nat → α := fun r' k' => if r' = r ∧ k' = k then v else f r' k'
def fx_wI (X : fx_X) (r k : Nat) (v : Int32) : fx_X := (fx_u X.1 r k v, X.2)
def fx_wL (X : fx_X) (r k : Nat) (v : Int64) : fx_X := (X.1, fx_u X.2.1 r k v, X.2.2)
def fx_wR (X : fx_X) (r k : Nat) (v : Option Nat) : fx_X := (X.1, X.2.1, fx_u X.2.2.1 r k v, X.2.2.2)
/-- fields that never change: the class, the field, whether it lies so far behind the object, where, what is there -/
def fx_tg (e : Nat × Nat × Nat × Nat × Nat × Nat) (r : Nat) : Nat := if e.2.2.1 = 1 then r + e.2.2.2.1 else e.2.2.2.1
def fx_fin : List (Nat × Nat × Nat × Nat × Nat × Nat) := [(0, 0, 0, 78, 18, 4), (0, 1, 0, 82, 14, 7), (0, 3, 0, 92, 1, 120), (0, 4, 0, 93, 0, 20), (0, 6, 0, 94, 1, 6), (1, 0, 0, 97, 0, 6), (1, 4, 0, 98, 0, 30), (1, 5, 0, 99, 0, 6), (1, 6, 0, 100, 2, 6), (2, 7, 0, 110, 0, 1024), (2, 9, 0, 111, 0, 30), (2, 10, 0, 112, 0, 30), (3, 0, 0, 78, 18, 4), (3, 1, 0, 82, 14, 7), (3, 2, 0, 88, 0, 512), (3, 3, 0, 89, 1, 10), (3, 4, 0, 90, 0, 10), (4, 0, 0, 83, 0, 2500), (4, 1, 0, 84, 0, 2500), (4, 2, 0, 85, 0, 2500), (4, 3, 0, 86, 0, 2500), (5, 2, 0, 114, 0, 1024), (6, 0, 1, 1, 0, 180), (6, 1, 1, 2, 2, 180), (6, 2, 1, 3, 0, 1024), (7, 0, 1, 1, 1, 8), (7, 1, 1, 2, 0, 8), (7, 2, 1, 3, 0, 512), (7, 3, 1, 4, 0, 8192), (7, 4, 1, 5, 0, 1024), (7, 5, 1, 6, 0, 1024), (7, 6, 1, 7, 2, 1024), (7, 7, 1, 8, 5, 10), (7, 8, 1, 9, 1, 10), (7, 9, 1, 10, 1, 60), (7, 10, 1, 11, 2, 10), (8, 0, 0, 79, 0, 1002), (8, 1, 0, 80, 0, 1002), (8, 2, 0, 81, 1, 1002), (9, 0, 0, 78, 18, 4), (9, 1, 0, 82, 14, 7), (9, 2, 0, 96, 11, 7), (9, 3, 0, 101, 5, 20), (9, 6, 0, 106, 0, 1024), (10, 0, 0, 53, 3, 4000), (10, 5, 0, 78, 18, 4), (10, 6, 0, 82, 14, 7), (10, 7, 0, 87, 13, 16), (10, 8, 0, 91, 10, 9), (10, 9, 0, 95, 19, 15), (10, 10, 0, 107, 12, 11), (10, 11, 0, 113, 15, 4), (10, 12, 0, 115, 0, 30), (10, 13, 0, 116, 0, 30), (11, 1, 0, 118, 0, 2), (11, 2, 0, 119, 1, 16), (11, 3, 0, 120, 0, 16), (11, 4, 0, 121, 0, 1024), (11, 5, 0, 122, 0, 2), (11, 6, 0, 123, 0, 16384), (11, 7, 0, 124, 0, 2), (11, 8, 0, 125, 1, 20), (11, 9, 0, 126, 2, 20), (11, 10, 0, 127, 0, 2), (11, 11, 0, 128, 0, 2), (11, 12, 0, 129, 0, 1280), (11, 14, 0, 130, 0, 32), (11, 15, 0, 131, 0, 50), (11, 16, 0, 132, 0, 50), (11, 17, 0, 133, 1, 400), (11, 18, 0, 134, 4, 12000), (11, 19, 0, 135, 0, 12000), (11, 20, 0, 136, 0, 48000), (11, 21, 0, 137, 0, 1024), (11, 22, 0, 138, 4, 4000), (11, 42, 0, 139, 0, 40), (11, 48, 0, 140, 0, 64), (11, 49, 0, 141, 0, 64), (11, 55, 0, 142, 0, 16), (11, 57, 0, 143, 0, 30), (11, 59, 0, 144, 0, 8), (11, 60, 0, 145, 0, 1024), (11, 62, 0, 146, 0, 20), (11, 63, 0, 147, 0, 30), (11, 66, 0, 148, 0, 30720), (11, 71, 0, 149, 0, 30)]
/-- never null -/
def fx_nn : List (Nat × Nat) := [(2, 5), (2, 6), (9, 5), (10, 3), (10, 4)]
/-- the first cells -/
def fx_shl : List (Nat × Nat) := [(20, 14), (3, 4000), (17, 18), (1, 8), (0, 8), (0, 512), (0, 8192), (0, 1024), (0, 1024), (2, 1024), (5, 10), (1, 10), (1, 60), (2, 10), (17, 18), (1, 8), (0, 8), (0, 512), (0, 8192), (0, 1024), (0, 1024), (2, 1024), (5, 10), (1, 10), (1, 60), (2, 10), (18, 4), (0, 1002), (0, 1002), (1, 1002), (14, 7), (0, 2500), (0, 2500), (0, 2500), (0, 2500), (13, 16), (0, 512), (1, 10), (0, 10), (10, 9), (1, 120), (0, 20), (1, 6), (19, 15), (11, 7), (0, 6), (0, 30), (0, 6), (2, 6), (5, 20), (16, 5), (0, 180), (2, 180), (0, 1024), (0, 1024), (12, 11), (0, 64), (0, 64), (0, 1024), (0, 30), (0, 30), (15, 4), (0, 1024), (0, 30), (0, 30), (21, 72), (0, 2), (1, 16), (0, 16), (0, 1024), (0, 2), (0, 16384), (0, 2), (1, 20), (2, 20), (0, 2), (0, 2), (0, 1280), (0, 32), (0, 50), (0, 50), (1, 400), (4, 12000), (0, 12000), (0, 48000), (0, 1024), (4, 4000), (0, 40), (0, 64), (0, 64), (0, 16), (0, 30), (0, 8), (0, 1024), (0, 20), (0, 30), (0, 30720), (0, 30)]
def fx_sh (c : Nat) : Nat × Nat := (fx_shl[c]?).getD (9, 0)
/-- what an element of such an array may be -/
def fx_rg (k : Nat) (v : Int32) : Prop := (k = 2 → v = 0 ∨ v = 1) ∧ (k = 3 → 0 ≤ v.toInt ∧ v.toInt ≤ 65535) ∧ (k = 4 → -128 ≤ v.toInt ∧ v.toInt ≤ 127)
def fx_TO (tb : aj_T) (h : aj_H) (c ci : Nat) (fs : List Value) : Prop := ∃ q, aj_cls[ci]? = some q ∧ fs.length = q.2.2.1 ∧ (∀ k v, fs[k]? = some v → aj_fit (q.2.2.2 k) v = true) ∧ (∀ e, e ∈ fx_fin → e.1 = ci → fs[e.2.1]? = some (.ref (fx_tg e (52 + c))) ∧ fx_A (fx_c tb h (fx_tg e (52 + c))) = (e.2.2.2.2.1, e.2.2.2.2.2)) ∧ (∀ e, e ∈ fx_nn → e.1 = ci → fs[e.2]? ≠ some .null)
def fx_T (tb : aj_T) (h : aj_H) : Prop := tb.length = 52 ∧ (∀ r, r < 51 → tb[r]? = aj_tbS[r]?) ∧ 98 ≤ h.length ∧ (∀ c ci fs, h[c]? = some (.inr (ci, fs)) → fx_TO tb h c ci fs) ∧ (∀ c, c < 98 → fx_A (h[c]?) = fx_sh c) ∧ (∀ (c k n : Nat) (x : (Nat → Int32) ⊕ (Nat → Int64) ⊕ (Nat → UInt32) ⊕ (Nat → UInt64) ⊕ (Nat → Option Nat)), h[c]? = some (.inl (k, n, x)) → k < 9 ∧ ∀ f, x = .inl f → ∀ i, i < n → fx_rg k (f i))
section FX0
variable {tb : aj_T} {h h' : aj_H} {c r : Nat} {e : aj_E}
theorem fx_c_set (htb : tb.length = 52) (hc : c < h.length) : fx_c tb (h.set c e) r = if r = 52 + c then some e else fx_c tb h r := by
  unfold fx_c
  rw [htb]
  by_cases h1 : r < 52
  · rw [if_pos h1, if_pos h1, if_neg (by omega)]
  · rw [if_neg h1, if_neg h1, List.getElem?_set]
    by_cases h2 : r = 52 + c
    · rw [if_pos (by omega), if_pos h2, if_pos hc]
    · rw [if_neg (by omega), if_neg h2]
theorem fx_c_at (htb : tb.length = 52) : fx_c tb h (52 + c) = h[c]? := by
  unfold fx_c
  rw [htb, if_neg (by omega), Nat.add_sub_cancel_left]
theorem fx_lt {α : Type} {l : List α} {c : Nat} {x : α} (hx : l[c]? = some x) : c < l.length := (List.getElem?_eq_some_iff.mp hx).1
theorem fx_arr {r : Nat} {z : Nat × vp_A} (hz : aj_arr tb h r = some z) : fx_c tb h r = some (.inl z) := by
  unfold aj_arr at hz
  unfold fx_c
  split at hz
  · rename_i q
    rw [if_pos q, hz]
    rfl
  · rename_i q
    rw [if_neg q]
    split at hz
    · rename_i a ha
      rw [ha]
      cases hz
      rfl
    · cases hz
theorem fx_obj {r : Nat} {z : Nat × List Value} (htb : tb.length = 52) (hz : aj_obj tb h r = some z) : ∃ c, r = 52 + c ∧ h[c]? = some (.inr z) := by
  unfold aj_obj at hz
  split at hz
  · cases hz
  · rename_i q
    split at hz
    · rename_i a ha
      cases hz
      refine ⟨r - 52, by omega, ?_⟩
      rw [htb] at ha
      exact ha
    · cases hz
/-- an array's elements change -/
theorem fx_T_arr (hT : fx_T tb h) {k n : Nat} {x x' : (Nat → Int32) ⊕ (Nat → Int64) ⊕ (Nat → UInt32) ⊕ (Nat → UInt64) ⊕ (Nat → Option Nat)} (hc : h[c]? = some (.inl (k, n, x))) (hr : ∀ f, x' = .inl f → ∀ i, i < n → fx_rg k (f i)) : fx_T tb (h.set c (.inl (k, n, x'))) := by
  have hl := fx_lt hc
  obtain ⟨t1, t2, t3, t4, t5, t6⟩ := hT
  have hA : ∀ r, fx_A (fx_c tb (h.set c (.inl (k, n, x'))) r) = fx_A (fx_c tb h r) := by
    intro r
    rw [fx_c_set t1 hl]
    split
    · rename_i q
      rw [q, fx_c_at t1, hc]
      rfl
    · rfl
  refine ⟨t1, t2, by rw [List.length_set]; exact t3, fun c' ci fs hx => ?_, fun c' hc' => ?_, fun c' k' n' x1 hx => ?_⟩
  · rw [List.getElem?_set] at hx
    split at hx
    · cases hx
    · obtain ⟨q, q1, q2, q3, q4, q5⟩ := t4 c' ci fs hx
      exact ⟨q, q1, q2, q3, fun e he h1 => ⟨(q4 e he h1).1, by rw [hA]; exact (q4 e he h1).2⟩, q5⟩
  · rw [← fx_c_at (tb := tb) t1, hA, fx_c_at t1]
    exact t5 c' hc'
  · rw [List.getElem?_set] at hx
    split at hx
    · cases hx
      exact ⟨(t6 _ _ _ _ hc).1, hr⟩
    · exact t6 c' k' n' x1 hx
/-- a field changes -/
theorem fx_T_fld (hT : fx_T tb h) {ci k : Nat} {fs : List Value} {v : Value} (hc : h[c]? = some (.inr (ci, fs))) {q : aj_C} (hq : aj_cls[ci]? = some q) (hf : aj_fit (q.2.2.2 k) v = true) (hk : k < fs.length) (h1 : ∀ e, e ∈ fx_fin → e.1 = ci → e.2.1 ≠ k) (h2 : (ci, k) ∈ fx_nn → v ≠ .null) : fx_T tb (h.set c (.inr (ci, fs.set k v))) := by
  have hl := fx_lt hc
  obtain ⟨t1, t2, t3, t4, t5, t6⟩ := hT
  have hA : ∀ r, fx_A (fx_c tb (h.set c (.inr (ci, fs.set k v))) r) = fx_A (fx_c tb h r) := by
    intro r
    rw [fx_c_set t1 hl]
    split
    · rename_i q
      rw [q, fx_c_at t1, hc]
      show (10 + ci, (fs.set k v).length) = (10 + ci, fs.length)
      rw [List.length_set]
    · rfl
  refine ⟨t1, t2, by rw [List.length_set]; exact t3, fun c' ci' fs' hx => ?_, fun c' hc' => ?_, fun c' k' n' x1 hx => ?_⟩
  · rw [List.getElem?_set] at hx
    split at hx
    · rename_i ec
      subst ec
      cases hx
      obtain ⟨q', q1, q2, q3, q4, q5⟩ := t4 c ci fs hc
      rw [hq] at q1
      cases q1
      refine ⟨q, hq, by rw [List.length_set]; exact q2, fun j w hw => ?_, fun e he h3 => ⟨?_, by rw [hA]; exact (q4 e he h3).2⟩, fun e he h3 => ?_⟩
      · rw [List.getElem?_set] at hw
        split at hw
        · rename_i ej
          subst ej
          cases hw
          exact hf
        · exact q3 j w hw
      · rw [List.getElem?_set, if_neg (fun z => h1 e he h3 z.symm)]
        exact (q4 e he h3).1
      · rw [List.getElem?_set]
        split
        · rename_i ej
          intro z
          cases z
          exact h2 (by subst ej; subst h3; exact he) rfl
        · exact q5 e he h3
    · obtain ⟨q', q1, q2, q3, q4, q5⟩ := t4 c' ci' fs' hx
      exact ⟨q', q1, q2, q3, fun e he h3 => ⟨(q4 e he h3).1, by rw [hA]; exact (q4 e he h3).2⟩, q5⟩
  · rw [← fx_c_at (tb := tb) t1, hA, fx_c_at t1]
    exact t5 c' hc'
  · rw [List.getElem?_set] at hx
    split at hx
    · cases hx
    · exact t6 c' k' n' x1 hx
theorem fx_V_ext {X : fx_X} (h1 : ∀ r k, fx_I (fx_c tb h r) k = X.1 r k) (h2 : ∀ r k, fx_L (fx_c tb h r) k = X.2.1 r k) (h3 : ∀ r k, fx_R (fx_c tb h r) k = X.2.2.1 r k) (h4 : ∀ r, fx_A (fx_c tb h r) = X.2.2.2.1 r) (h5 : tb.length + h.length = X.2.2.2.2) : fx_V tb h = X :=
  Prod.ext (funext fun r => funext fun k => h1 r k) (Prod.ext (funext fun r => funext fun k => h2 r k) (Prod.ext (funext fun r => funext fun k => h3 r k) (Prod.ext (funext fun r => h4 r) h5)))
theorem fx_V_aI (htb : tb.length = 52) {k n : Nat} {f : Nat → Int32} {i : Nat} {v : Int32} (hc : h[c]? = some (.inl (k, n, .inl f))) : fx_V tb (h.set c (.inl (k, n, .inl (upd f i v)))) = fx_wI (fx_V tb h) (52 + c) i v := by
  have hl := fx_lt hc
  refine fx_V_ext (fun r j => ?_) (fun r j => ?_) (fun r j => ?_) (fun r => ?_) (by rw [List.length_set]; rfl)
  · rw [fx_c_set htb hl]
    show _ = if r = 52 + c ∧ j = i then v else fx_I (fx_c tb h r) j
    by_cases q : r = 52 + c
    · rw [if_pos q]
      show upd f i v j = _
      unfold upd
      by_cases q2 : j = i
      · rw [if_pos q2, if_pos ⟨q, q2⟩]
      · rw [if_neg q2, if_neg (fun z => q2 z.2), q, fx_c_at htb, hc]
        rfl
    · rw [if_neg q, if_neg (fun z => q z.1)]
  · rw [fx_c_set htb hl]
    show _ = fx_L (fx_c tb h r) j
    split
    · rename_i q
      rw [q, fx_c_at htb, hc]
      rfl
    · rfl
  · rw [fx_c_set htb hl]
    show _ = fx_R (fx_c tb h r) j
    split
    · rename_i q
      rw [q, fx_c_at htb, hc]
      rfl
    · rfl
  · rw [fx_c_set htb hl]
    show _ = fx_A (fx_c tb h r)
    split
    · rename_i q
      rw [q, fx_c_at htb, hc]
      rfl
    · rfl
theorem fx_V_aL (htb : tb.length = 52) {k n : Nat} {f : Nat → Int64} {i : Nat} {v : Int64} (hc : h[c]? = some (.inl (k, n, .inr (.inl f)))) : fx_V tb (h.set c (.inl (k, n, .inr (.inl (vp_updL f i v))))) = fx_wL (fx_V tb h) (52 + c) i v := by
  have hl := fx_lt hc
  refine fx_V_ext (fun r j => ?_) (fun r j => ?_) (fun r j => ?_) (fun r => ?_) (by rw [List.length_set]; rfl)
  · rw [fx_c_set htb hl]
    show _ = fx_I (fx_c tb h r) j
    split
    · rename_i q
      rw [q, fx_c_at htb, hc]
      rfl
    · rfl
  · rw [fx_c_set htb hl]
    show _ = if r = 52 + c ∧ j = i then v else fx_L (fx_c tb h r) j
    by_cases q : r = 52 + c
    · rw [if_pos q]
      show vp_updL f i v j = _
      unfold vp_updL
      by_cases q2 : j = i
      · rw [if_pos q2, if_pos ⟨q, q2⟩]
      · rw [if_neg q2, if_neg (fun z => q2 z.2), q, fx_c_at htb, hc]
        rfl
    · rw [if_neg q, if_neg (fun z => q z.1)]
  · rw [fx_c_set htb hl]
    show _ = fx_R (fx_c tb h r) j
    split
    · rename_i q
      rw [q, fx_c_at htb, hc]
      rfl
    · rfl
  · rw [fx_c_set htb hl]
    show _ = fx_A (fx_c tb h r)
    split
    · rename_i q
      rw [q, fx_c_at htb, hc]
      rfl
    · rfl
theorem fx_V_aR (htb : tb.length = 52) {k n : Nat} {f : Nat → Option Nat} {i : Nat} {v : Option Nat} (hc : h[c]? = some (.inl (k, n, .inr (.inr (.inr (.inr f)))))) : fx_V tb (h.set c (.inl (k, n, .inr (.inr (.inr (.inr (va_up f i v))))))) = fx_wR (fx_V tb h) (52 + c) i v := by
  have hl := fx_lt hc
  refine fx_V_ext (fun r j => ?_) (fun r j => ?_) (fun r j => ?_) (fun r => ?_) (by rw [List.length_set]; rfl)
  · rw [fx_c_set htb hl]
    show _ = fx_I (fx_c tb h r) j
    split
    · rename_i q
      rw [q, fx_c_at htb, hc]
      rfl
    · rfl
  · rw [fx_c_set htb hl]
    show _ = fx_L (fx_c tb h r) j
    split
    · rename_i q
      rw [q, fx_c_at htb, hc]
      rfl
    · rfl
  · rw [fx_c_set htb hl]
    show _ = if r = 52 + c ∧ j = i then v else fx_R (fx_c tb h r) j
    by_cases q : r = 52 + c
    · rw [if_pos q]
      show va_up f i v j = _
      unfold va_up
      by_cases q2 : j = i
      · rw [if_pos q2, if_pos ⟨q, q2⟩]
      · rw [if_neg q2, if_neg (fun z => q2 z.2), q, fx_c_at htb, hc]
        rfl
    · rw [if_neg q, if_neg (fun z => q z.1)]
  · rw [fx_c_set htb hl]
    show _ = fx_A (fx_c tb h r)
    split
    · rename_i q
      rw [q, fx_c_at htb, hc]
      rfl
    · rfl
theorem fx_gd {fs : List Value} {k j : Nat} {v : Value} (hk : k < fs.length) : ((fs.set k v)[j]?).getD .null = if j = k then v else (fs[j]?).getD .null := by
  rw [List.getElem?_set]
  by_cases q : j = k
  · rw [if_pos q.symm, if_pos hk, if_pos q]
    rfl
  · rw [if_neg (fun z => q z.symm), if_neg q]
/-- a field of the object: what it was is told by its type -/
theorem fx_V_f (htb : tb.length = 52) {ci k : Nat} {fs : List Value} {v : Value} (hc : h[c]? = some (.inr (ci, fs))) (hk : k < fs.length) {X : fx_X} (g1 : ∀ r j, X.1 r j = if r = 52 + c ∧ j = k then fx_vI v else (fx_V tb h).1 r j) (g2 : ∀ r j, X.2.1 r j = if r = 52 + c ∧ j = k then fx_vL v else (fx_V tb h).2.1 r j) (g3 : ∀ r j, X.2.2.1 r j = if r = 52 + c ∧ j = k then fx_vR v else (fx_V tb h).2.2.1 r j) (g4 : X.2.2.2 = (fx_V tb h).2.2.2) : fx_V tb (h.set c (.inr (ci, fs.set k v))) = X := by
  have hl := fx_lt hc
  refine fx_V_ext (fun r j => ?_) (fun r j => ?_) (fun r j => ?_) (fun r => ?_) (by rw [List.length_set, g4]; rfl)
  · rw [fx_c_set htb hl, g1]
    by_cases q : r = 52 + c
    · rw [if_pos q]
      show fx_vI (((fs.set k v)[j]?).getD .null) = _
      rw [fx_gd hk]
      by_cases q2 : j = k
      · rw [if_pos q2, if_pos ⟨q, q2⟩]
      · rw [if_neg q2, if_neg (fun z => q2 z.2)]
        show _ = fx_I (fx_c tb h r) j
        rw [q, fx_c_at htb, hc]
        rfl
    · rw [if_neg q, if_neg (fun z => q z.1)]
      rfl
  · rw [fx_c_set htb hl, g2]
    by_cases q : r = 52 + c
    · rw [if_pos q]
      show fx_vL (((fs.set k v)[j]?).getD .null) = _
      rw [fx_gd hk]
      by_cases q2 : j = k
      · rw [if_pos q2, if_pos ⟨q, q2⟩]
      · rw [if_neg q2, if_neg (fun z => q2 z.2)]
        show _ = fx_L (fx_c tb h r) j
        rw [q, fx_c_at htb, hc]
        rfl
    · rw [if_neg q, if_neg (fun z => q z.1)]
      rfl
  · rw [fx_c_set htb hl, g3]
    by_cases q : r = 52 + c
    · rw [if_pos q]
      show fx_vR (((fs.set k v)[j]?).getD .null) = _
      rw [fx_gd hk]
      by_cases q2 : j = k
      · rw [if_pos q2, if_pos ⟨q, q2⟩]
      · rw [if_neg q2, if_neg (fun z => q2 z.2)]
        show _ = fx_R (fx_c tb h r) j
        rw [q, fx_c_at htb, hc]
        rfl
    · rw [if_neg q, if_neg (fun z => q z.1)]
      rfl
  · rw [fx_c_set htb hl, g4]
    show _ = fx_A (fx_c tb h r)
    split
    · rename_i q
      rw [q, fx_c_at htb, hc]
      show (10 + ci, (fs.set k v).length) = (10 + ci, fs.length)
      rw [List.length_set]
    · rfl
end FX0
