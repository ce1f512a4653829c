/-! THE REFERENCE: # of a query, groups put in their order -/
/-- one group at the place of groups -/
def rx_gr (X : fx_X) (i : Nat) (x : List Int32) (D : Nat → Bool) : Prop := (∀ (c : Nat) (v : Int32), x[c]? = some v → (X.1 134 (8 * (30 * 49 + i) + c)).toInt = 0 ∧ X.1 135 (8 * (30 * 49 + i) + c) = v) ∧ ∀ b, b < 1024 → fx_bt (X.1 136) (32 * (30 * 49 + i)) b = D b
/-- the groups so far -/
def rx_gi (X : fx_X) (k : Nat) (G : List (List Int32)) (D : Nat → List Int32 → Bool) : Prop := ((X.1 131 49).toInt = (G.length : Int) ∧ G.length ≤ 30) ∧ md_so G ∧ (∀ x, x ∈ G → x.length = k) ∧ (∀ x, x ∈ G ↔ ∃ b, b < 1024 ∧ D b x = true) ∧ ∀ i x, G[i]? = some x → rx_gr X i x (fun b => D b x)
/-- the place of groups alone -/
def rx_g9 (X0 X : fx_X) : Prop := X.2 = X0.2 ∧ ∀ q k, (q = 131 → k ≠ 49) → (q = 134 ∨ q = 135 → k / 240 ≠ 49) → (q = 136 → k / 960 ≠ 49) → X.1 q k = X0.1 q k
section DD57
variable {P : md_P} {X X' X0 X1 X2 : fx_X} {n d k h b i i' c a j : Nat} {v w y3 y4 y5 p1 p2 p3 p4 p5 z : Int32} {u : Unit} {G : List (List Int32)} {D : Nat → List Int32 → Bool} {x g0 : List Int32} {E : Nat → Bool}
theorem rx_g9_rf : rx_g9 X X := ⟨rfl, fun _ _ _ _ _ => rfl⟩
theorem rx_g9_tr (h1 : rx_g9 X X1) (h2 : rx_g9 X1 X2) : rx_g9 X X2 := ⟨h2.1.trans h1.1, fun q k a b c => (h2.2 q k a b c).trans (h1.2 q k a b c)⟩
theorem rx_g9_q (h : rx_g9 X X1) : rx_gq X X1 := ⟨h.1, fun q k _ _ _ a b c => h.2 q k a b c⟩
theorem rx_g9_w (hk : (a = 131 ∧ k = 49) ∨ ((a = 134 ∨ a = 135) ∧ k / 240 = 49) ∨ (a = 136 ∧ k / 960 = 49)) : rx_g9 X (fx_wI X a k z) := ⟨rfl, fun q j h4 h5 h6 => by rw [fx_rI, if_neg (by rintro ⟨e1, e2⟩; subst e1; subst e2; omega)]⟩
theorem rx_g9_but (h : rx_but (30 * 49 + i) X X') (hi : i < 30) : rx_g9 X X' := by
  obtain ⟨h1, h2, h3, h4⟩ := h
  refine ⟨h1, fun q k a b c => ?_⟩
  by_cases e : q = 134 ∨ q = 135
  · exact h3 q k e (by have := b e; omega)
  · by_cases e6 : q = 136
    · subst e6
      exact h4 k (by have := c rfl; omega)
    · rw [h2 q (fun y => e (Or.inl y)) (fun y => e (Or.inr y)) e6]
theorem rx_gr_but (h : rx_gr X i x E) (hb : rx_but (30 * 49 + i') X X') (hx : x.length ≤ 8) (hn : i ≠ i') : rx_gr X' i x E := by
  obtain ⟨h1, h2, h3, h4⟩ := hb
  refine ⟨fun c v hc => ?_, fun b hb => ?_⟩
  · have := (List.getElem?_eq_some_iff.mp hc).1
    rw [h3 134 _ (Or.inl rfl) (by omega), h3 135 _ (Or.inr rfl) (by omega)]
    exact h.1 c v hc
  · have := h.2 b hb
    unfold fx_bt at this ⊢
    rw [h4 _ (by omega)]
    exact this
theorem rx_gr_cp (h : rx_gr X i x E) (hc : rx_cpr X X' (30 * 49 + i) (30 * 49 + i')) (hx : x.length ≤ 8) : rx_gr X' i' x E := by
  refine ⟨fun c v hv => ?_, fun b hb => ?_⟩
  · have := (List.getElem?_eq_some_iff.mp hv).1
    obtain ⟨k1, k2⟩ := hc.1 c (by omega)
    obtain ⟨q1, q2⟩ := h.1 c v hv
    rw [k1, k2]
    refine ⟨?_, q2⟩
    have e : X.1 134 (8 * (30 * 49 + i) + c) = Int32.ofInt 0 := fx_inj q1
    rw [e]
    rfl
  · have := h.2 b hb
    unfold fx_bt at this ⊢
    rw [hc.2 _ (by omega)]
    exact this
theorem rx_gr_e (h : rx_gr X i x E) (e1 : ∀ c, c < 8 → X'.1 134 (8 * (30 * 49 + i) + c) = X.1 134 (8 * (30 * 49 + i) + c) ∧ X'.1 135 (8 * (30 * 49 + i) + c) = X.1 135 (8 * (30 * 49 + i) + c)) (e2 : ∀ c, c < 32 → X'.1 136 (32 * (30 * 49 + i) + c) = X.1 136 (32 * (30 * 49 + i) + c)) (hx : x.length ≤ 8) : rx_gr X' i x E := by
  refine ⟨fun c v hv => ?_, fun b hb => ?_⟩
  · have := (List.getElem?_eq_some_iff.mp hv).1
    rw [(e1 c (by omega)).1, (e1 c (by omega)).2]
    exact h.1 c v hv
  · have := h.2 b hb
    unfold fx_bt at this ⊢
    rw [e2 _ (by omega)]
    exact this
/-- a group compared with what was reckoned -/
theorem rx_272l (hx : x.length = k) (hz : g0.length = k) (h8 : k ≤ 8) (hr : rx_gr X i x E) (hi : i < 30) (hv : ∀ (c : Nat) (v : Int32), g0[c]? = some v → X.1 144 c = v) (h1 : p1.toInt = (i : Int)) (h2 : p2.toInt = (k : Int)) : ∀ (d c n : Nat) (y3 : Int32), c + d = k → y3.toInt = (c : Int) → gxF_272 p1 p2 n 2 [y3] [] [] X v X' → X' = X ∧ ((v.toInt = 0 ∧ x.drop c = g0.drop c) ∨ (v.toInt < 0 ∧ md_lt (x.drop c) (g0.drop c) = true) ∨ (0 < v.toInt ∧ md_lt (g0.drop c) (x.drop c) = true)) := by
  intro d
  induction d with
  | zero =>
    intro c n y3 hcd hc g
    cases n with
    | zero => exact g.elim
    | succ n =>
      replace g := gxO_272_2 g
      unfold gxT_272_2 at g
      rw [if_neg (by omega)] at g
      rw [List.drop_of_length_le (by omega), List.drop_of_length_le (by omega)]
      exact ⟨g.2, Or.inl ⟨by rw [g.1]; rfl, rfl⟩⟩
  | succ d ih =>
    intro c n y3 hcd hc g
    cases n with
    | zero => exact g.elim
    | succ n =>
      replace g := gxO_272_2 g
      unfold gxT_272_2 at g
      rw [if_pos (by omega), fx_in hc] at g
      obtain ⟨w6, X5, r1, g⟩ := g
      obtain ⟨e5, v6⟩ := rx_236 (s := 49) (r := i) (c := c) rfl h1 hc (by omega) r1
      subst e5
      rw [fx_in v6] at g
      obtain ⟨-, x8, e8, -, g⟩ := g
      have q1 : x[c]? = some x[c] := List.getElem?_eq_getElem (by omega)
      have q2 : g0[c]? = some g0[c] := List.getElem?_eq_getElem (by omega)
      rw [(hr.1 c _ q1).2] at e8
      subst e8
      rw [hv c _ q2] at g
      rw [md_drop_s q1, md_drop_s q2]
      show _ ∧ (_ ∨ (_ ∧ (if x[c] = g0[c] then md_lt _ _ else decide (x[c].toInt < g0[c].toInt)) = true) ∨ (_ ∧ (if g0[c] = x[c] then md_lt _ _ else decide (g0[c].toInt < x[c].toInt)) = true))
      rcases fy_ifd g with ⟨e, g'⟩ | ⟨e, g'⟩ <;> replace g := g'
      · obtain ⟨x13, e13, g⟩ := g
        have e' := fx_inj e
        obtain ⟨s1, s2⟩ := ih (c + 1) n x13 (by omega) (by rw [e13]; exact cx_in1 hc (by omega)) g
        rw [if_pos e', if_pos e'.symm]
        refine ⟨s1, ?_⟩
        rcases s2 with ⟨t1, t2⟩ | t | t
        · exact Or.inl ⟨t1, by rw [t2, e']⟩
        · exact Or.inr (Or.inl t)
        · exact Or.inr (Or.inr t)
      · have e' : x[c] ≠ g0[c] := fun y => e (by rw [y])
        rw [if_neg e', if_neg (fun y => e' y.symm), decide_eq_true_eq, decide_eq_true_eq]
        replace g := g.2
        rcases fy_ifd g with ⟨e2, g'⟩ | ⟨e2, g'⟩ <;> replace g := g'
        · exact ⟨g.2, Or.inr (Or.inl ⟨by rw [g.1]; decide, e2⟩)⟩
        · exact ⟨g.2, Or.inr (Or.inr ⟨by rw [g.1]; decide, by omega⟩)⟩
theorem rx_272 (hx : x.length = k) (hz : g0.length = k) (h8 : k ≤ 8) (hr : rx_gr X i x E) (hi : i < 30) (hv : ∀ (c : Nat) (v : Int32), g0[c]? = some v → X.1 144 c = v) (h1 : p1.toInt = (i : Int)) (h2 : p2.toInt = (k : Int)) (g : gx_272 p1 p2 X v X') : X' = X ∧ ((v.toInt = 0 ∧ x = g0) ∨ (v.toInt < 0 ∧ md_lt x g0 = true) ∨ (0 < v.toInt ∧ md_lt g0 x = true)) := by
  obtain ⟨n, g⟩ := g
  exact rx_272l hx hz h8 hr hi hv h1 h2 k 0 n _ (by omega) rfl g
end DD57
