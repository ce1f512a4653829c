/-! STEPS OF THE CLASS'S METHODS BY HAND: values of typed cells -/
section CWV
variable {T : ak_TT} {Φ : List Nat → Option Value → aj_H → Prop} {tb : aj_T} {d : Nat} {mm : aj_M} {con : ak_Con} {s : List Nat} {h : aj_H} {kc ks pc : Nat} {lv : aj_V} {st rest : List Value} {ct : List (Nat × Instr × Nat)} {i k kd n t : Nat} {v : Value} {x : cw_X} {lo hi a : Int}
theorem cw_gl (h0 : ak_gam s (.inr none) v) : ∃ y : Int64, v = .long y := by
  cases v with
  | long y => exact ⟨y, rfl⟩
  | _ => exact h0.elim
theorem cw_s0 (hB : cw_B s) (h0 : ak_s0[i]? = some t) : s[i]? = some t := by
  obtain ⟨u, rfl, -⟩ := hB
  rw [List.getElem?_append_left (List.getElem?_eq_some_iff.mp h0).1]
  exact h0
theorem cw_uni (hB : cw_B s) (h0 : s[k]? = some t) (h2 : t ∉ [58, 94, 95, 96, 98]) (h3 : ((List.range 98).all fun j => (ak_s0[j]? != some t) || j == i) = true) : k = i := by
  obtain ⟨u, rfl, hu⟩ := hB
  by_cases hl : k < ak_s0.length
  · rw [List.getElem?_append_left hl] at h0
    have h4 := List.all_eq_true.mp h3 k (List.mem_range.mpr hl)
    rw [h0] at h4
    simpa using h4
  · rw [List.getElem?_append_right (by omega)] at h0
    exact absurd (hu t (List.mem_of_getElem? h0)) h2
theorem cw_gr (h0 : ak_gam s (.inr (some ([t], false))) v) (h1 : 52 ≤ t) : ∃ i, v = .ref (52 + i) ∧ s[i]? = some t := by
  rcases ak_gr h0 with ⟨-, z⟩ | ⟨r, t', rfl, ht, hr⟩
  · cases z
  · cases List.mem_singleton.mp ht
    rcases hr with ⟨q1, q2⟩ | ⟨q1, q2, q3⟩
    · omega
    · exact ⟨r - 52, by rw [Nat.add_sub_cancel' q1], q3⟩
theorem cw_grn (h0 : ak_gam s (.inr (some ([t], true))) v) (h1 : 52 ≤ t) : v = .null ∨ ∃ i, v = .ref (52 + i) ∧ s[i]? = some t := by
  rcases ak_gr h0 with ⟨z, -⟩ | ⟨r, t', rfl, ht, hr⟩
  · exact Or.inl z
  · cases List.mem_singleton.mp ht
    rcases hr with ⟨q1, q2⟩ | ⟨q1, q2, q3⟩
    · omega
    · exact Or.inr ⟨r - 52, by rw [Nat.add_sub_cancel' q1], q3⟩
theorem cw_gu (hB : cw_B s) (h0 : ak_gam s (.inr (some ([t], false))) v) (h1 : 52 ≤ t) (h2 : t ∉ [58, 94, 95, 96, 98]) (h3 : ((List.range 98).all fun j => (ak_s0[j]? != some t) || j == i) = true) : v = .ref (52 + i) := by
  obtain ⟨j, rfl, hj⟩ := cw_gr h0 h1
  rw [cw_uni hB hj h2 h3]
theorem cw_xi (h0 : ak_xOK s kd n x (.inl (lo, hi))) (hk : kd ≠ 5 := by decide) : ∃ f : Nat → Int32, x = .inl f ∧ ∀ j, j < n → lo ≤ (f j).toInt ∧ (f j).toInt ≤ hi := by
  unfold ak_xOK at h0
  split at h0
  · rename_i f
    exact ⟨f, rfl, h0.2.2⟩
  · cases h0.2
  · exact absurd h0.1 hk
  · exact h0.elim
theorem cw_xl {y : ak_A} (h0 : ak_xOK s 1 n x y) : ∃ f : Nat → Int64, x = .inr (.inl f) ∧ True := by
  unfold ak_xOK at h0
  split at h0
  · exact absurd rfl h0.1
  · rename_i f
    exact ⟨f, rfl, trivial⟩
  · cases h0.1
  · exact h0.elim
theorem cw_xq {y : ak_A} (h0 : ak_xOK s 5 n x y) : ∃ f : Nat → Option Nat, x = .inr (.inr (.inr (.inr f))) ∧ ∀ j, j < n → ak_gam s y (va_rf (f j)) := by
  unfold ak_xOK at h0
  split at h0
  · have := h0.2.1
    omega
  · cases h0.1
  · rename_i f
    exact ⟨f, rfl, h0.2⟩
  · exact h0.elim
theorem cw_gw {y : Int32} (hy : y.toInt = a) (h1 : lo ≤ a) (h2 : a ≤ hi) : ak_gam s (.inl (lo, hi)) (.int y) := by
  show lo ≤ y.toInt ∧ y.toInt ≤ hi
  omega
theorem cw_gw2 {y : Int32} (hy : y.toInt = a) (h1 : lo ≤ a) (h2 : a ≤ hi) : lo ≤ (aj_nar 0 y).toInt ∧ (aj_nar 0 y).toInt ≤ hi := by
  show lo ≤ y.toInt ∧ y.toInt ≤ hi
  omega
theorem cw_full (y : Int32) : -2147483648 ≤ y.toInt ∧ y.toInt ≤ 2147483647 := aw_full y
theorem cw_gR {q : List Nat × Bool} (hs : s[i]? = some t) (h1 : 52 ≤ t) (hm : t ∈ q.1) : ak_gam s (.inr (some q)) (.ref (52 + i)) := ⟨t, hm, Or.inr ⟨Nat.le_add_right _ _, h1, by rw [Nat.add_sub_cancel_left]; exact hs⟩⟩
theorem cw_anyl (hct : aj_ctOK ct mm.2.1) {j : Instr} {len : Nat} (hd : aj_ct ct pc = some (j, len)) {pc' : Nat} {lv' : aj_V} {rest' : List Value} {y : Int64} (hs : aj_step aj_rc aj_cls tb mm.2.2.2.2.2.1 mm.2.2.1 mm.2.2.2.1 (aj_isI mm) j len pc lv st h = some (.inl ((pc', lv', .long y :: rest'), h, 0, 0))) (kk : ∀ z : Int64, z = y → cw_W T Φ tb d mm con s h kc ks pc' lv' (.long z :: rest')) : cw_W T Φ tb d mm con s h kc ks pc lv st := cw_n hct hd hs (kk y rfl)
/-- the arguments, one by one -/
theorem cw_gAc {x : ak_A} {A : List ak_A} {as : List Value} (h0 : ak_gA s (x :: A) as) : ∃ v as', as = v :: as' ∧ ak_gam s x v ∧ ak_gA s A as' := by
  cases as with
  | nil => exact h0.elim
  | cons v as => exact ⟨v, as, rfl, h0.1, h0.2⟩
theorem cw_gAn {as : List Value} (h0 : ak_gA s [] as) : as = [] := by
  cases as with
  | nil => rfl
  | cons v as => exact h0.elim
theorem cw_B_app {u : List Nat} (hB : cw_B s) (hu : ∀ t ∈ u, t ∈ [58, 94, 95, 96, 98]) : cw_B (s ++ u) := by
  obtain ⟨w, rfl, hw⟩ := hB
  refine ⟨w ++ u, by rw [List.append_assoc], fun t ht => ?_⟩
  rcases List.mem_append.mp ht with q | q
  · exact hw t q
  · exact hu t q
end CWV
