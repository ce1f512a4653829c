/-! THE REFERENCE: places of ROWS, one copied to another -/
/-- what lies below a place stays (of what is told) -/
def rx_lo (s : Nat) (X X' : fx_X) : Prop := (∀ r, r ∈ [118, 120, 121, 122, 123, 124, 126, 127, 128, 129] → X'.1 r = X.1 r) ∧ X'.2.1 119 = X.2.1 119 ∧ X'.2.1 125 = X.2.1 125 ∧ (∀ r k, (r = 131 ∨ r = 132) → k < s → X'.1 r k = X.1 r k) ∧ (∀ k, k < 8 * s → X'.2.1 133 k = X.2.1 133 k) ∧ (∀ r k, (r = 134 ∨ r = 135) → k < 240 * s → X'.1 r k = X.1 r k) ∧ ∀ k b, k < 30 * s → b < 1024 → fx_bt (X'.1 136) (32 * k) b = fx_bt (X.1 136) (32 * k) b
/-- ROW b of the one as ROW a of the other -/
def rx_cpr (X X' : fx_X) (a b : Nat) : Prop := (∀ c, c < 8 → X'.1 134 (8 * b + c) = aj_nar 4 (X.1 134 (8 * a + c)) ∧ X'.1 135 (8 * b + c) = X.1 135 (8 * a + c)) ∧ ∀ i, i < 32 → X'.1 136 (32 * b + i) = X.1 136 (32 * a + i)
/-- nothing but ROW b changes -/
def rx_but (b : Nat) (X X' : fx_X) : Prop := X'.2 = X.2 ∧ (∀ q, q ≠ 134 → q ≠ 135 → q ≠ 136 → X'.1 q = X.1 q) ∧ (∀ q k, (q = 134 ∨ q = 135) → k / 8 ≠ b → X'.1 q k = X.1 q k) ∧ ∀ k, k / 32 ≠ b → X'.1 136 k = X.1 136 k
section DD28
variable {P : md_P} {X X' X0 X1 X2 : fx_X} {n t k s s1 s2 r r1 r2 a b c R : Nat} {v w y3 y5 p1 p2 p3 p4 z : Int32} {u : Unit} {w8 z8 : Int64} {F L : List (Nat × Nat)} {A : List Nat} {l8 : List Int64}
theorem rx_lo_rf : rx_lo s X X := ⟨fun _ _ => rfl, rfl, rfl, fun _ _ _ _ => rfl, fun _ _ => rfl, fun _ _ _ _ => rfl, fun _ _ _ _ => rfl⟩
theorem rx_lo_tr (h1 : rx_lo s X X1) (h2 : rx_lo s X1 X2) : rx_lo s X X2 := by
  obtain ⟨a1, a2, a3, a4, a5, a6, a7⟩ := h1
  obtain ⟨b1, b2, b3, b4, b5, b6, b7⟩ := h2
  exact ⟨fun r hr => (b1 r hr).trans (a1 r hr), b2.trans a2, b3.trans a3, fun r k x y => (b4 r k x y).trans (a4 r k x y), fun k x => (b5 k x).trans (a5 k x), fun r k x y => (b6 r k x y).trans (a6 r k x y), fun k b x y => (b7 k b x y).trans (a7 k b x y)⟩
theorem rx_lo_le (h : rx_lo s X X1) (hs : s1 ≤ s) : rx_lo s1 X X1 := by
  obtain ⟨a1, a2, a3, a4, a5, a6, a7⟩ := h
  exact ⟨a1, a2, a3, fun r k x y => a4 r k x (by omega), fun k x => a5 k (by omega), fun r k x y => a6 r k x (by omega), fun k b x y => a7 k b (by omega) y⟩
theorem rx_lo_fy (hf : fy F L A X X') (hA : ∀ a, a ∈ A → a < 118 ∨ 137 ≤ a) (hF : (∀ q, q ∈ F → q.1 < 118) ∧ ∀ q, q ∈ L → q.1 < 118) : rx_lo s X X' := by
  have e : ∀ r, 118 ≤ r → r < 137 → X'.1 r = X.1 r := fun r h1 h2 => fy_ra hf (fun z => by have := hA r z; omega) (fun q hq => by have := hF.1 q hq; omega)
  have e2 : ∀ r, 118 ≤ r → r < 137 → X'.2.1 r = X.2.1 r := fun r h1 h2 => fy_rl hf (fun z => by have := hA r z; omega) (fun q hq => by have := hF.2 q hq; omega)
  refine ⟨fun r hr => e r ?_ ?_, e2 119 (by decide) (by decide), e2 125 (by decide) (by decide), fun r k hr _ => by rw [e r (by omega) (by omega)], fun k _ => by rw [e2 133 (by decide) (by decide)], fun r k hr _ => by rw [e r (by omega) (by omega)], fun k b _ _ => by rw [e 136 (by decide) (by decide)]⟩
  · have : ∀ r, r ∈ [118, 120, 121, 122, 123, 124, 126, 127, 128, 129] → 118 ≤ r := by decide
    exact this r hr
  · have : ∀ r, r ∈ [118, 120, 121, 122, 123, 124, 126, 127, 128, 129] → r < 137 := by decide
    exact this r hr
theorem rx_lo_w {a : Nat} (hk : (a = 131 ∨ a = 132) ∧ s ≤ k ∨ (a = 134 ∨ a = 135) ∧ 240 * s ≤ k ∨ a < 118 ∨ 137 ≤ a) : rx_lo s X (fx_wI X a k z) := by
  have key : ∀ r, r ∈ [118, 120, 121, 122, 123, 124, 126, 127, 128, 129] → 118 ≤ r ∧ r < 131 := by decide
  refine ⟨fun r hr => fx_rIn (fun y => ?_), rfl, rfl, fun r k' hr hk1 => ?_, fun _ _ => rfl, fun r k' hr hk1 => ?_, fun k' b h1 h2 => ?_⟩
  · have := key r hr
    omega
  · rw [fx_rI, if_neg (by omega)]
  · rw [fx_rI, if_neg (by omega)]
  · rw [fx_rIn (by omega)]
theorem rx_lo_wL {a : Nat} (hk : a = 133 ∧ 8 * s ≤ k) : rx_lo s X (fx_wL X a k z8) := by
  have e : ∀ r j, ¬ (r = a ∧ j = k) → (fx_wL X a k z8).2.1 r j = X.2.1 r j := fun r j hn => if_neg hn
  exact ⟨fun _ _ => rfl, fx_rLn (by omega), fx_rLn (by omega), fun _ _ _ _ => rfl, fun k' h1 => e _ _ (by omega), fun _ _ _ _ => rfl, fun _ _ _ _ => rfl⟩
theorem rx_lo_but (h : rx_but b X X') (hb : 30 * s ≤ b) : rx_lo s X X' := by
  obtain ⟨h1, h2, h3, h4⟩ := h
  have key : ∀ r, r ∈ [118, 120, 121, 122, 123, 124, 126, 127, 128, 129] → r < 131 := by decide
  refine ⟨fun r hr => h2 r ?_ ?_ ?_, by rw [h1], by rw [h1], fun r k hr _ => by rw [h2 r (by omega) (by omega) (by omega)], fun k _ => by rw [h1], fun r k hr hk => h3 r k hr (by omega), fun k b' hk hb' => ?_⟩
  · have := key r hr; omega
  · have := key r hr; omega
  · have := key r hr; omega
  · unfold fx_bt
    rw [h4 _ (by omega)]
theorem rx_sl_lo (h : rx_lo s X X') (hs : 20 ≤ s) : rx_sl P t X X' := by
  obtain ⟨a1, a2, a3, a4, a5, a6, a7⟩ := h
  refine ⟨fun r hr => a1 r ?_, a2, fun r k hr hk _ => ?_, fun k _ => by rw [a3], fun k hk _ => a5 k (by omega), fun r k hr hk _ => a6 r k hr (by omega), fun k b hk _ hb => a7 k b (by omega) hb⟩
  · have : ∀ r, r ∈ [118, 120, 121, 122, 123, 124, 127, 128, 129] → r ∈ [118, 120, 121, 122, 123, 124, 126, 127, 128, 129] := by decide
    exact this r hr
  · rcases hr with e | e | e
    · rw [e, a1 126 (by decide)]
    · exact a4 r k (Or.inl e) (by omega)
    · exact a4 r k (Or.inr e) (by omega)
/-- indices -/
theorem rx_236 (h1 : p1.toInt = (s : Int)) (h2 : p2.toInt = (r : Int)) (h3 : p3.toInt = (c : Int)) (hs : s ≤ 1000 ∧ r ≤ 1000 ∧ c ≤ 1000) (g : gx_236 p1 p2 p3 X v X') : X' = X ∧ v.toInt = ((8 * (30 * s + r) + c : Nat) : Int) := by
  obtain ⟨e1, e2⟩ := g
  refine ⟨e2, ?_⟩
  have k1 : (p1 * ((Int8.ofInt 30).toInt32) + p2).toInt = ((s * 30 + r : Nat) : Int) := rx_lin h1 rfl h2 (by omega)
  have k2 := rx_lin (m := 8) (z := (Int8.ofInt 8).toInt32) k1 rfl h3 (by omega)
  rw [e1, show 8 * (30 * s + r) + c = (s * 30 + r) * 8 + c by omega]
  exact k2
theorem rx_225r (h1 : p1.toInt = (s : Int)) (h2 : p2.toInt = (r : Int)) (hs : s ≤ 100 ∧ r ≤ 1000) (g : gx_225 p1 p2 X v X') : X' = X ∧ v.toInt = ((32 * (30 * s + r) : Nat) : Int) := by
  obtain ⟨e1, e2⟩ := g
  refine ⟨e2, ?_⟩
  have k1 : (p1 * ((Int8.ofInt 30).toInt32) + p2).toInt = ((s * 30 + r : Nat) : Int) := rx_lin h1 rfl h2 (by omega)
  have k2 := rx_i32 k1 (by omega)
  rw [e1, show 30 * s + r = s * 30 + r by omega]
  exact k2
/-- a ROW copied -/
theorem rx_252w (h1 : p1.toInt = (s1 : Int)) (h2 : p2.toInt = (r1 : Int)) (h3 : p3.toInt = (s2 : Int)) (h4 : p4.toInt = (r2 : Int)) (hs : s1 < 50 ∧ s2 < 50 ∧ r1 ≤ 1000 ∧ r2 ≤ 1000) (hne : 30 * s1 + r1 ≠ 30 * s2 + r2) : ∀ (n k : Nat) (y5 : Int32) (X : fx_X), y5.toInt = (k : Int) → k ≤ 32 → rx_but (30 * s2 + r2) X0 X → (∀ c, c < 8 → X.1 134 (8 * (30 * s2 + r2) + c) = aj_nar 4 (X0.1 134 (8 * (30 * s1 + r1) + c)) ∧ X.1 135 (8 * (30 * s2 + r2) + c) = X0.1 135 (8 * (30 * s1 + r1) + c)) → (∀ i, i < k → X.1 136 (32 * (30 * s2 + r2) + i) = X0.1 136 (32 * (30 * s1 + r1) + i)) → gxF_252 p1 p2 p3 p4 n 69 [y5] [] [] X u X' → rx_but (30 * s2 + r2) X0 X' ∧ rx_cpr X0 X' (30 * s1 + r1) (30 * s2 + r2) := by
  intro n
  induction n with
  | zero => intro k y5 X _ _ _ _ _ g; exact g.elim
  | succ n ih =>
    intro k y5 X hk hk32 hb hT hB g
    replace g := gxO_252_69 g
    rcases fy_ifd g with ⟨c1, g1⟩ | ⟨c1, g1⟩
    · have hk2 : k < 32 := by
        have e : ((Int8.ofInt 32).toInt32).toInt = 32 := rfl
        have c1 : y5.toInt < 32 := c1
        omega
      obtain ⟨w28, X27, q1, w31, X30, q2, -, -, X34, e34, x35, e35, g2⟩ := g1
      obtain ⟨e27, v27⟩ := rx_225r h3 h4 (by omega) q1
      subst e27
      obtain ⟨e30, v30⟩ := rx_225r h1 h2 (by omega) q2
      subst e30
      have i1 : (w28 + y5).toInt = ((32 * (30 * s2 + r2) + k : Nat) : Int) := by rw [fx_add (by omega) (by omega)]; omega
      have i2 : (w31 + y5).toInt = ((32 * (30 * s1 + r1) + k : Nat) : Int) := by rw [fx_add (by omega) (by omega)]; omega
      rw [fx_in i1, fx_in i2] at e34
      obtain ⟨b1, b2, b3, b4⟩ := hb
      refine ih (k + 1) x35 X34 (by rw [e35]; exact cx_in1 hk (by omega)) (by omega) ⟨by rw [e34]; exact b1, fun q z1 z2 z3 => by rw [e34, fx_rIn z3]; exact b2 q z1 z2 z3, fun q k' hq hk' => by rw [e34, fx_rIn (by omega)]; exact b3 q k' hq hk', fun k' hk' => by rw [e34, fx_rIk (by omega)]; exact b4 k' hk'⟩ (fun c hc => by rw [e34, fx_rIn (by decide), fx_rIn (by decide)]; exact hT c hc) (fun i hi => ?_) g2
      by_cases z : i = k
      · subst z
        rw [e34, fx_rIe]
        exact b4 _ (by omega)
      · rw [e34, fx_rIk (by omega)]
        exact hB i (by omega)
    · have g1 : X' = X := g1
      have : 32 ≤ k := by
        have e : ((Int8.ofInt 32).toInt32).toInt = 32 := rfl
        have c1 : ¬ y5.toInt < 32 := c1
        omega
      subst g1
      exact ⟨hb, hT, fun i hi => hB i (by omega)⟩
theorem rx_252t (h1 : p1.toInt = (s1 : Int)) (h2 : p2.toInt = (r1 : Int)) (h3 : p3.toInt = (s2 : Int)) (h4 : p4.toInt = (r2 : Int)) (hs : s1 < 50 ∧ s2 < 50 ∧ r1 ≤ 1000 ∧ r2 ≤ 1000) (hne : 30 * s1 + r1 ≠ 30 * s2 + r2) : ∀ (n k : Nat) (y5 : Int32) (X : fx_X), y5.toInt = (k : Int) → k ≤ 8 → rx_but (30 * s2 + r2) X0 X → (∀ c, c < k → X.1 134 (8 * (30 * s2 + r2) + c) = aj_nar 4 (X0.1 134 (8 * (30 * s1 + r1) + c)) ∧ X.1 135 (8 * (30 * s2 + r2) + c) = X0.1 135 (8 * (30 * s1 + r1) + c)) → gxF_252 p1 p2 p3 p4 n 3 [y5] [] [] X u X' → rx_but (30 * s2 + r2) X0 X' ∧ rx_cpr X0 X' (30 * s1 + r1) (30 * s2 + r2) := by
  intro n
  induction n with
  | zero => intro k y5 X _ _ _ _ g; exact g.elim
  | succ n ih =>
    intro k y5 X hk hk8 hb hT g
    replace g := gxO_252_3 g
    rcases fy_ifd g with ⟨c1, g1⟩ | ⟨c1, g1⟩
    · have hk2 : k < 8 := by
        have c1 : y5.toInt < 8 := c1
        omega
      obtain ⟨w7, X6, q1, w10, X9, q2, -, -, X13, e13, w16, X15, q3, w19, X18, q4, -, -, X22, e22, x23, e23, g2⟩ := g1
      obtain ⟨e6, v7⟩ := rx_236 h3 h4 hk (by omega) q1
      subst e6
      obtain ⟨e9, v10⟩ := rx_236 h1 h2 hk (by omega) q2
      subst e9
      obtain ⟨e15, v16⟩ := rx_236 h3 h4 hk (by omega) q3
      subst e15
      obtain ⟨e18, v19⟩ := rx_236 h1 h2 hk (by omega) q4
      subst e18
      rw [fx_in v7, fx_in v10] at e13
      rw [fx_in v16, fx_in v19] at e22
      obtain ⟨b1, b2, b3, b4⟩ := hb
      have k22 : ∀ q k', (q = 134 ∨ q = 135) → k' ≠ 8 * (30 * s2 + r2) + k → X22.1 q k' = X9.1 q k' := fun q k' hq hn => by rw [e22, fx_rIk hn, e13, fx_rIk hn]
      refine ih (k + 1) x23 X22 (by rw [e23]; exact cx_in1 hk (by omega)) (by omega) ⟨by rw [e22, e13]; exact b1, fun q z1 z2 z3 => by rw [e22, fx_rIn z2, e13, fx_rIn z1]; exact b2 q z1 z2 z3, fun q k' hq hk' => by rw [k22 q k' hq (by omega)]; exact b3 q k' hq hk', fun k' hk' => by rw [e22, fx_rIn (by decide), e13, fx_rIn (by decide)]; exact b4 k' hk'⟩ (fun c hc => ?_) g2
      by_cases z : c = k
      · subst z
        refine ⟨?_, ?_⟩
        · rw [e22, fx_rIn (by decide), e13, fx_rIe, b3 134 _ (Or.inl rfl) (by omega)]
        · rw [e22, fx_rIe, e13, fx_rIn (by decide), b3 135 _ (Or.inr rfl) (by omega)]
      · rw [k22 134 _ (Or.inl rfl) (by omega), k22 135 _ (Or.inr rfl) (by omega)]
        exact hT c (by omega)
    · have : k = 8 := by
        have c1 : ¬ y5.toInt < 8 := c1
        omega
      subst this
      exact rx_252w h1 h2 h3 h4 hs hne n 0 _ X rfl (Nat.zero_le _) hb hT (fun i hi => absurd hi (Nat.not_lt_zero _)) g1
theorem rx_252 (h1 : p1.toInt = (s1 : Int)) (h2 : p2.toInt = (r1 : Int)) (h3 : p3.toInt = (s2 : Int)) (h4 : p4.toInt = (r2 : Int)) (hs : s1 < 50 ∧ s2 < 50 ∧ r1 ≤ 1000 ∧ r2 ≤ 1000) (hne : 30 * s1 + r1 ≠ 30 * s2 + r2) (g : gx_252 p1 p2 p3 p4 X u X') : rx_but (30 * s2 + r2) X X' ∧ rx_cpr X X' (30 * s1 + r1) (30 * s2 + r2) := by
  obtain ⟨n, g⟩ := g
  exact rx_252t h1 h2 h3 h4 hs hne n 0 _ X rfl (Nat.zero_le _) ⟨rfl, fun _ _ _ _ => rfl, fun _ _ _ _ => rfl, fun _ _ => rfl⟩ (fun c hc => absurd hc (Nat.not_lt_zero _)) g
/-- ROWS of one place copied to another -/
def rx_cpa (X X' : fx_X) (s1 s2 : Nat) : Prop := X'.1 131 s2 = X.1 131 s1 ∧ X'.1 132 s2 = X.1 132 s1 ∧ (∀ c, c < 8 → X'.2.1 133 (8 * s2 + c) = X.2.1 133 (8 * s1 + c)) ∧ ((X.1 117 32).toInt ≠ 0 → ∀ r : Nat, (r : Int) < (X.1 131 s1).toInt → rx_cpr X X' (30 * s1 + r) (30 * s2 + r))
/-- nothing but what lies at a place changes -/
def rx_on (s : Nat) (X X' : fx_X) : Prop := X'.2.2 = X.2.2 ∧ (∀ q, q ≠ 131 → q ≠ 132 → q ≠ 134 → q ≠ 135 → q ≠ 136 → X'.1 q = X.1 q) ∧ (∀ q, q ≠ 133 → X'.2.1 q = X.2.1 q) ∧ (∀ q k, (q = 131 ∨ q = 132) → k ≠ s → X'.1 q k = X.1 q k) ∧ (∀ k, k / 8 ≠ s → X'.2.1 133 k = X.2.1 133 k) ∧ (∀ q k, (q = 134 ∨ q = 135) → k / 240 ≠ s → X'.1 q k = X.1 q k) ∧ ∀ k, k / 960 ≠ s → X'.1 136 k = X.1 136 k
theorem rx_on_lo (h : rx_on s X X') (hs : s1 ≤ s) : rx_lo s1 X X' := by
  obtain ⟨a0, a1, a2, a3, a4, a5, a6⟩ := h
  have key : ∀ r, r ∈ [118, 120, 121, 122, 123, 124, 126, 127, 128, 129] → r < 131 := by decide
  refine ⟨fun r hr => a1 r ?_ ?_ ?_ ?_ ?_, a2 119 (by decide), a2 125 (by decide), fun r k hr hk => a3 r k hr (by omega), fun k hk => a4 k (by omega), fun r k hr hk => a5 r k hr (by omega), fun k b' hk hb' => ?_⟩
  all_goals first
    | (have := key r hr; omega)
    | (unfold fx_bt; rw [a6 _ (by omega)])
theorem rx_on_but (h : rx_but b X X') (hb : b / 30 = s) : rx_on s X X' := by
  obtain ⟨h1, h2, h3, h4⟩ := h
  exact ⟨by rw [h1], fun q _ _ z3 z4 z5 => h2 q z3 z4 z5, fun q _ => by rw [h1], fun q k hq _ => by rw [h2 q (by omega) (by omega) (by omega)], fun k _ => by rw [h1], fun q k hq hk => h3 q k hq (by omega), fun k hk => h4 k (by omega)⟩
theorem rx_on_tr (h1 : rx_on s X X1) (h2 : rx_on s X1 X2) : rx_on s X X2 := by
  obtain ⟨a0, a1, a2, a3, a4, a5, a6⟩ := h1
  obtain ⟨b0, b1, b2, b3, b4, b5, b6⟩ := h2
  exact ⟨b0.trans a0, fun q x1 x2 x3 x4 x5 => (b1 q x1 x2 x3 x4 x5).trans (a1 q x1 x2 x3 x4 x5), fun q x => (b2 q x).trans (a2 q x), fun q k x y => (b3 q k x y).trans (a3 q k x y), fun k x => (b4 k x).trans (a4 k x), fun q k x y => (b5 q k x y).trans (a5 q k x y), fun k x => (b6 k x).trans (a6 k x)⟩
theorem rx_251r (h1 : p1.toInt = (s1 : Int)) (h2 : p2.toInt = (s2 : Int)) (hs : s1 < 50 ∧ s2 < 50 ∧ s1 ≠ s2) (hR : (X0.1 117 32).toInt ≠ 0 → (X0.1 131 s1).toInt ≤ 30) : ∀ (n k : Nat) (y3 : Int32) (X : fx_X), y3.toInt = (k : Int) → rx_on s2 X0 X → X.1 131 s2 = X0.1 131 s1 → X.1 132 s2 = X0.1 132 s1 → (∀ c, c < 8 → X.2.1 133 (8 * s2 + c) = X0.2.1 133 (8 * s1 + c)) → (∀ r, r < k → (r : Int) < (X0.1 131 s1).toInt → rx_cpr X0 X (30 * s1 + r) (30 * s2 + r)) → gxF_251 p1 p2 n 62 [y3] [] [] X u X' → rx_on s2 X0 X' ∧ rx_cpa X0 X' s1 s2 := by
  intro n
  induction n with
  | zero => intro k y3 X _ _ _ _ _ _ g; exact g.elim
  | succ n ih =>
    intro k y3 X hk hon e1 e2 e3 hB g
    replace g := gxO_251_62 g
    have e117 : X.1 117 = X0.1 117 := hon.2.1 117 (by decide) (by decide) (by decide) (by decide) (by decide)
    have e131 : X.1 131 s1 = X0.1 131 s1 := hon.2.2.2.1 131 _ (Or.inl rfl) hs.2.2
    rcases fy_ifd g with ⟨c1, g1⟩ | ⟨c1, g1⟩
    · have g1 : X' = X := g1
      subst g1
      refine ⟨hon, e1, e2, e3, fun z => ?_⟩
      rw [e117] at c1
      exact absurd c1 z
    · replace g1 := g1.2
      have hR' := hR (by rw [← e117]; exact c1)
      rw [fx_in h1, e131] at g1
      rcases fy_ifd g1 with ⟨c2, g2⟩ | ⟨c2, g2⟩
      · obtain ⟨w27, X26, q, x28, e28, g3⟩ := g2
        obtain ⟨b1, b2, b3⟩ := rx_252 h1 hk h2 hk (by omega) (by omega) q
        have hk30 : k < 30 := by omega
        obtain ⟨d1, d2, d3, d4⟩ := b1
        refine ih (k + 1) x28 X26 (by rw [e28]; exact cx_in1 hk (by omega)) (rx_on_tr hon (rx_on_but ⟨d1, d2, d3, d4⟩ (by omega))) ((congrFun (d2 131 (by decide) (by decide) (by decide)) s2).trans e1) ((congrFun (d2 132 (by decide) (by decide) (by decide)) s2).trans e2) (fun c hc => by rw [d1]; exact e3 c hc) (fun r hr hr2 => ?_) g3
        by_cases z : r = k
        · subst z
          refine ⟨fun c hc => ⟨?_, ?_⟩, fun i hi => ?_⟩
          · rw [(b2 c hc).1, hon.2.2.2.2.2.1 134 _ (Or.inl rfl) (by omega)]
          · rw [(b2 c hc).2, hon.2.2.2.2.2.1 135 _ (Or.inr rfl) (by omega)]
          · rw [b3 i hi, hon.2.2.2.2.2.2 _ (by omega)]
        · obtain ⟨f1, f2⟩ := hB r (by omega) hr2
          refine ⟨fun c hc => ⟨?_, ?_⟩, fun i hi => ?_⟩
          · rw [d3 134 _ (Or.inl rfl) (by omega)]; exact (f1 c hc).1
          · rw [d3 135 _ (Or.inr rfl) (by omega)]; exact (f1 c hc).2
          · rw [d4 _ (by omega)]; exact f2 i hi
      · have g2 : X' = X := g2
        subst g2
        exact ⟨hon, e1, e2, e3, fun _ r hr => hB r (by omega) hr⟩
theorem rx_251n (h1 : p1.toInt = (s1 : Int)) (h2 : p2.toInt = (s2 : Int)) (hs : s1 < 50 ∧ s2 < 50 ∧ s1 ≠ s2) (hR : (X0.1 117 32).toInt ≠ 0 → (X0.1 131 s1).toInt ≤ 30) : ∀ (n k : Nat) (y3 : Int32) (X : fx_X), y3.toInt = (k : Int) → k ≤ 8 → rx_on s2 X0 X → X.1 131 s2 = X0.1 131 s1 → X.1 132 s2 = X0.1 132 s1 → (∀ c, c < k → X.2.1 133 (8 * s2 + c) = X0.2.1 133 (8 * s1 + c)) → gxF_251 p1 p2 n 26 [y3] [] [] X u X' → rx_on s2 X0 X' ∧ rx_cpa X0 X' s1 s2 := by
  intro n
  induction n with
  | zero => intro k y3 X _ _ _ _ _ _ g; exact g.elim
  | succ n ih =>
    intro k y3 X hk hk8 hon e1 e2 e3 g
    replace g := gxO_251_26 g
    rcases fy_ifd g with ⟨c1, g1⟩ | ⟨c1, g1⟩
    · have c1 : y3.toInt < 8 := c1
      obtain ⟨-, -, X19, e19, x20, e20, g2⟩ := g1
      have i1 : (p1 * ((Int8.ofInt 8).toInt32) + y3).toInt = ((s1 * 8 + k : Nat) : Int) := rx_lin h1 rfl hk (by omega)
      have i2 : (p2 * ((Int8.ofInt 8).toInt32) + y3).toInt = ((s2 * 8 + k : Nat) : Int) := rx_lin h2 rfl hk (by omega)
      rw [fx_in i1, fx_in i2, show s1 * 8 + k = 8 * s1 + k by omega, show s2 * 8 + k = 8 * s2 + k by omega] at e19
      have hx1 : X19.1 = X.1 := by rw [e19]; rfl
      obtain ⟨a0, a1, a2, a3, a4, a5, a6⟩ := hon
      refine ih (k + 1) x20 X19 (by rw [e20]; exact cx_in1 hk (by omega)) (by omega) ⟨by rw [e19]; exact a0, by rw [hx1]; exact a1, fun q hq => by rw [e19, fx_rLn hq]; exact a2 q hq, by rw [hx1]; exact a3, fun k' hk' => by rw [e19, fx_rLk (by omega)]; exact a4 k' hk', by rw [hx1]; exact a5, by rw [hx1]; exact a6⟩ (by rw [hx1]; exact e1) (by rw [hx1]; exact e2) (fun c hc => ?_) g2
      by_cases z : c = k
      · subst z
        rw [e19, fx_rLe, a4 _ (by omega)]
      · rw [e19, fx_rLk (by omega)]
        exact e3 c (by omega)
    · have c1 : ¬ y3.toInt < 8 := c1
      exact rx_251r h1 h2 hs hR n 0 _ X rfl hon e1 e2 (fun c hc => e3 c (by omega)) (fun r hr => absurd hr (Nat.not_lt_zero _)) g1
theorem rx_251 (h1 : p1.toInt = (s1 : Int)) (h2 : p2.toInt = (s2 : Int)) (hs : s1 < 50 ∧ s2 < 50 ∧ s1 ≠ s2) (hR : (X.1 117 32).toInt ≠ 0 → (X.1 131 s1).toInt ≤ 30) (g : gx_251 p1 p2 X u X') : rx_on s2 X X' ∧ rx_cpa X X' s1 s2 := by
  obtain ⟨n, g⟩ := g
  obtain ⟨-, -, X6, e6, -, -, X11, e11, g1⟩ := g
  rw [fx_in h1, fx_in h2] at e6 e11
  have e132 : X6.1 132 = X.1 132 := by rw [e6, fx_rIn (by decide)]
  rw [e132] at e11
  refine rx_251n h1 h2 hs hR n 0 _ X11 rfl (Nat.zero_le _) ⟨by rw [e11, e6]; rfl, fun q x1 x2 _ _ _ => by rw [e11, fx_rIn x2, e6, fx_rIn x1], fun q _ => by rw [e11, e6]; rfl, fun q k hq hk => by rw [e11, fx_rIk hk, e6, fx_rIk hk], fun k _ => by rw [e11, e6]; rfl, fun q k hq _ => by rw [e11, fx_rIn (by omega), e6, fx_rIn (by omega)], fun k _ => by rw [e11, fx_rIn (by decide), e6, fx_rIn (by decide)]⟩ ?_ ?_ (fun c hc => absurd hc (Nat.not_lt_zero _)) g1
  · rw [e11, fx_rIn (by decide), e6, fx_rIe]
  · rw [e11, fx_rIe]
end DD28
