/-! THE REFERENCE: # of a query, ROWS of one WORLD in their order -/
/-- ROWS of a place as lists of values, in one WORLD -/
def rx_ga (h s R C b : Nat) (F : Nat → List Int32) (X : fx_X) : Prop := ((X.1 117 37).toInt = (h : Int) ∧ h ≤ 1) ∧ (20 ≤ s ∧ s < 48) ∧ ((X.1 131 s).toInt = (R : Int) ∧ R ≤ 30) ∧ ((X.1 132 s).toInt = (C : Int) ∧ C ≤ 6) ∧ b < 1024 ∧ ∀ i, i < R → (F i).length = C ∧ ∀ (c : Nat) (v : Int32), (F i)[c]? = some v → rx_cx X (30 * s + i) (2, Int32.ofInt (c : Int)) ∧ rx_cc h X (30 * s + i) c b = v
/-- what these methods change -/
def rx_gq (X0 X : fx_X) : Prop := X.2 = X0.2 ∧ ∀ q k, (q = 117 → k ≠ 58) → q ≠ 143 → q ≠ 144 → (q = 131 → k ≠ 49) → (q = 134 ∨ q = 135 → k / 240 ≠ 49) → (q = 136 → k / 960 ≠ 49) → X.1 q k = X0.1 q k
section DD54
variable {P : md_P} {X X' X0 X1 X2 : fx_X} {n d k s h b R C i i' c a j : Nat} {v w y3 y4 y5 p1 p2 p3 p4 p5 z : Int32} {u : Unit} {F : Nat → List Int32} {ix : List Nat} {bt : Nat → Bool}
theorem rx_gq_rf : rx_gq X X := ⟨rfl, fun _ _ _ _ _ _ _ _ => rfl⟩
theorem rx_gq_tr (h1 : rx_gq X X1) (h2 : rx_gq X1 X2) : rx_gq X X2 := ⟨h2.1.trans h1.1, fun q k a b c d e f => (h2.2 q k a b c d e f).trans (h1.2 q k a b c d e f)⟩
theorem rx_gq_w (hk : (a = 117 ∧ k = 58) ∨ a = 143 ∨ a = 144 ∨ (a = 131 ∧ k = 49) ∨ ((a = 134 ∨ a = 135) ∧ k / 240 = 49) ∨ (a = 136 ∧ k / 960 = 49)) : rx_gq X (fx_wI X a k z) := ⟨rfl, fun q j h1 h2 h3 h4 h5 h6 => by rw [fx_rI, if_neg (by rintro ⟨e1, e2⟩; subst e1; subst e2; omega)]⟩
theorem rx_cc_gq (hq : rx_gq X0 X) (hs : s < 49) (hi : i < 30) (hc : c < 8) : rx_cc h X (30 * s + i) c b = rx_cc h X0 (30 * s + i) c b ∧ (rx_cx X0 (30 * s + i) (2, Int32.ofInt (c : Int)) → rx_cx X (30 * s + i) (2, Int32.ofInt (c : Int))) := by
  have e : (Int32.ofInt (c : Int)).toInt = (c : Int) := fx_ofI (by omega) (by omega)
  have e0 : (Int32.ofInt (c : Int)).toInt.toNat = c := fx_in e
  have k1 : X.1 134 (8 * (30 * s + i) + c) = X0.1 134 (8 * (30 * s + i) + c) := hq.2 _ _ (by omega) (by omega) (by omega) (by omega) (by omega) (by omega)
  have k2 : X.1 135 (8 * (30 * s + i) + c) = X0.1 135 (8 * (30 * s + i) + c) := hq.2 _ _ (by omega) (by omega) (by omega) (by omega) (by omega) (by omega)
  have k3 : X.1 123 = X0.1 123 := funext fun k => hq.2 _ _ (by omega) (by omega) (by omega) (by omega) (by omega) (by omega)
  refine ⟨?_, ?_⟩
  · unfold rx_cc rx_cw
    rw [if_pos rfl, if_pos rfl]
    show rx_vw h X ((X.1 134 (8 * (30 * s + i) + (Int32.ofInt (c : Int)).toInt.toNat)).toInt, X.1 135 (8 * (30 * s + i) + (Int32.ofInt (c : Int)).toInt.toNat)) b = rx_vw h X0 ((X0.1 134 (8 * (30 * s + i) + (Int32.ofInt (c : Int)).toInt.toNat)).toInt, X0.1 135 (8 * (30 * s + i) + (Int32.ofInt (c : Int)).toInt.toNat)) b
    rw [e0, k1, k2]
    unfold rx_vw
    rw [k3]
  · unfold rx_cx
    show _ ∨ _ ∨ (_ ∧ _ ∧ _ ∧ ((X0.1 134 (8 * (30 * s + i) + (Int32.ofInt (c : Int)).toInt.toNat)).toInt = 0 ∨ ((X0.1 134 (8 * (30 * s + i) + (Int32.ofInt (c : Int)).toInt.toNat)).toInt = 1 ∧ 0 ≤ (X0.1 135 (8 * (30 * s + i) + (Int32.ofInt (c : Int)).toInt.toNat)).toInt ∧ (X0.1 135 (8 * (30 * s + i) + (Int32.ofInt (c : Int)).toInt.toNat)).toInt < 8))) → _ ∨ _ ∨ (_ ∧ _ ∧ _ ∧ ((X.1 134 (8 * (30 * s + i) + (Int32.ofInt (c : Int)).toInt.toNat)).toInt = 0 ∨ ((X.1 134 (8 * (30 * s + i) + (Int32.ofInt (c : Int)).toInt.toNat)).toInt = 1 ∧ 0 ≤ (X.1 135 (8 * (30 * s + i) + (Int32.ofInt (c : Int)).toInt.toNat)).toInt ∧ (X.1 135 (8 * (30 * s + i) + (Int32.ofInt (c : Int)).toInt.toNat)).toInt < 8)))
    rw [e0, k1, k2]
    exact id
theorem rx_ga_gq (hg : rx_ga h s R C b F X0) (hq : rx_gq X0 X) : rx_ga h s R C b F X := by
  obtain ⟨⟨a1, a2⟩, a3, ⟨a4, a5⟩, ⟨a6, a7⟩, a8, a9⟩ := hg
  refine ⟨⟨by rw [hq.2 _ _ (by omega) (by omega) (by omega) (by omega) (by omega) (by omega)]; exact a1, a2⟩, a3, ⟨by rw [hq.2 _ _ (by omega) (by omega) (by omega) (by omega) (by omega) (by omega)]; exact a4, a5⟩, ⟨by rw [hq.2 _ _ (by omega) (by omega) (by omega) (by omega) (by omega) (by omega)]; exact a6, a7⟩, a8, fun i hi => ⟨(a9 i hi).1, fun c v hc => ?_⟩⟩
  obtain ⟨l1, l2⟩ := a9 i hi
  obtain ⟨b1, b2⟩ := l2 c v hc
  have hcl := (List.getElem?_eq_some_iff.mp hc).1
  have k := rx_cc_gq (h := h) (b := b) hq (s := s) (i := i) (c := c) (by omega) (by omega) (by omega)
  exact ⟨k.2 b1, k.1.trans b2⟩
theorem rx_gb_gq (hq : rx_gq X0 X) (hs : s < 49) (hi : i < 30) (hb : b < 1024) : fx_bt (X.1 136) (32 * (30 * s + i)) b = fx_bt (X0.1 136) (32 * (30 * s + i)) b := by
  unfold fx_bt
  rw [hq.2 _ _ (by omega) (by omega) (by omega) (by omega) (by omega) (by omega)]
theorem rx_gc (hg : rx_ga h s R C b F X) (hi : i < R) (hc : c < C) (h1 : p1.toInt = (s : Int)) (h2 : p2.toInt = (i : Int)) (h3 : p3.toInt = (c : Int)) (h4 : p4.toInt = (b : Int)) (g : gx_258 p1 p2 p3 p4 X v X') : X' = X ∧ (F i)[c]? = some v := by
  obtain ⟨⟨a1, a2⟩, a3, ⟨a4, a5⟩, ⟨a6, a7⟩, a8, a9⟩ := hg
  obtain ⟨l1, l2⟩ := a9 i hi
  have hcl : c < (F i).length := by omega
  obtain ⟨b1, b2⟩ := l2 c (F i)[c] (List.getElem?_eq_getElem hcl)
  obtain ⟨r1, r2⟩ := rx_258 a1 a2 h1 (by omega) h2 (by omega) h3 h4 a8 b1 g
  exact ⟨r1, by rw [r2, b2]; exact List.getElem?_eq_getElem hcl⟩
theorem md_drop_s {l : List Int32} (hv : l[c]? = some v) : l.drop c = v :: l.drop (c + 1) := by
  obtain ⟨h1, h2⟩ := List.getElem?_eq_some_iff.mp hv
  rw [List.drop_eq_getElem_cons h1, h2]
/-- two of them compared -/
theorem rx_267l (hg : rx_ga h s R C b F X) (hi : i < R) (hi' : i' < R) (h1 : p1.toInt = (s : Int)) (h2 : p2.toInt = (i : Int)) (h3 : p3.toInt = (i' : Int)) (h4 : p4.toInt = (b : Int)) (h5 : p5.toInt = (b : Int)) : ∀ (d c n : Nat) (y6 : Int32), c + d = C → y6.toInt = (c : Int) → gxF_267 p1 p2 p3 p4 p5 n 3 [y6] [] [] X v X' → X' = X ∧ ((v.toInt = 0 ∧ (F i).drop c = (F i').drop c) ∨ (v.toInt < 0 ∧ md_lt ((F i).drop c) ((F i').drop c) = true) ∨ (0 < v.toInt ∧ md_lt ((F i').drop c) ((F i).drop c) = true)) := by
  have a3 := hg.2.1
  have a6 := hg.2.2.2.1
  have l1 := (hg.2.2.2.2.2 i hi).1
  have l2 := (hg.2.2.2.2.2 i' hi').1
  intro d
  induction d with
  | zero =>
    intro c n y6 hcd hc g
    cases n with
    | zero => exact g.elim
    | succ n =>
      replace g := gxO_267_3 g
      unfold gxT_267_3 at g
      rw [fx_in h1] at g
      replace g := g.2
      rw [if_neg (by omega)] at g
      rw [List.drop_of_length_le (by omega), List.drop_of_length_le (by omega)]
      exact ⟨g.2, Or.inl ⟨by rw [g.1]; rfl, rfl⟩⟩
  | succ d ih =>
    intro c n y6 hcd hc g
    cases n with
    | zero => exact g.elim
    | succ n =>
      replace g := gxO_267_3 g
      unfold gxT_267_3 at g
      rw [fx_in h1] at g
      replace g := g.2
      rw [if_pos (by omega)] at g
      obtain ⟨w7, X6, r1, w10, X9, r2, g⟩ := g
      obtain ⟨e6, q1⟩ := rx_gc hg hi (by omega) h1 h2 hc h4 r1
      subst e6
      obtain ⟨e9, q2⟩ := rx_gc hg hi' (by omega) h1 h3 hc h5 r2
      subst e9
      rw [md_drop_s q1, md_drop_s q2]
      show _ ∧ (_ ∨ (_ ∧ (if w7 = w10 then md_lt _ _ else decide (w7.toInt < w10.toInt)) = true) ∨ (_ ∧ (if w10 = w7 then md_lt _ _ else decide (w10.toInt < w7.toInt)) = true))
      rcases fy_ifd g with ⟨e, g⟩ | ⟨e, g⟩
      · obtain ⟨x13, e13, g⟩ := g
        have e' := fx_inj e
        obtain ⟨s1, s2⟩ := ih (c + 1) n x13 (by omega) (by rw [e13]; exact cx_in1 hc (by omega)) g
        subst e'
        rw [if_pos rfl, if_pos rfl]
        refine ⟨s1, ?_⟩
        rcases s2 with ⟨t1, t2⟩ | t | t
        · exact Or.inl ⟨t1, by rw [t2]⟩
        · exact Or.inr (Or.inl t)
        · exact Or.inr (Or.inr t)
      · have e' : w7 ≠ w10 := fun y => e (by rw [y])
        rw [if_neg e', if_neg (fun y => e' y.symm), decide_eq_true_eq, decide_eq_true_eq]
        rcases fy_ifd g with ⟨e2, g⟩ | ⟨e2, g⟩
        · exact ⟨g.2, Or.inr (Or.inl ⟨by rw [g.1]; decide, e2⟩)⟩
        · exact ⟨g.2, Or.inr (Or.inr ⟨by rw [g.1]; decide, by omega⟩)⟩
theorem rx_267 (hg : rx_ga h s R C b F X) (hi : i < R) (hi' : i' < R) (h1 : p1.toInt = (s : Int)) (h2 : p2.toInt = (i : Int)) (h3 : p3.toInt = (i' : Int)) (h4 : p4.toInt = (b : Int)) (h5 : p5.toInt = (b : Int)) (g : gx_267 p1 p2 p3 p4 p5 X v X') : X' = X ∧ ((v.toInt = 0 ∧ F i = F i') ∨ (v.toInt < 0 ∧ md_lt (F i) (F i') = true) ∨ (0 < v.toInt ∧ md_lt (F i') (F i) = true)) := by
  obtain ⟨n, g⟩ := g
  exact rx_267l hg hi hi' h1 h2 h3 h4 h5 C 0 n _ (by omega) rfl g
end DD54
