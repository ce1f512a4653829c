/-! THE REFERENCE: join, its ROWS laid out -/
section DD41
variable {P : md_P} {X X' X0 X1 X2 Y : fx_X} {n m k s R R1 R2 T a b c : Nat} {v w p1 p2 z y3 y4 y5 y6 y7 y8 y9 : Int32}
/-- names of the left side -/
theorem rx_276n (hp : p1.toInt = (s : Int)) (hs : 20 ≤ s ∧ s < 48) (h4 : y4.toInt = (a : Int)) (ha : a ≤ 6) : ∀ (n k : Nat) (y5 : Int32) (X : fx_X), y5.toInt = (k : Int) → k ≤ a → X.1 = Y.1 → (X.2.2 = Y.2.2 ∧ (∀ q, q ≠ 133 → X.2.1 q = Y.2.1 q) ∧ ∀ k', X.2.1 133 k' = if 392 ≤ k' ∧ k' < 392 + k then Y.2.1 133 (8 * s + (k' - 392)) else Y.2.1 133 k') → gxF_276 p1 p2 n 88 [y3, y4, y5] [] [] X v X' → ∃ n2 X2, gxF_276 p1 p2 n2 127 [y3, y4, Int32.ofInt 0] [] [] X2 v X' ∧ X2.1 = Y.1 ∧ (X2.2.2 = Y.2.2 ∧ (∀ q, q ≠ 133 → X2.2.1 q = Y.2.1 q) ∧ ∀ k', X2.2.1 133 k' = if 392 ≤ k' ∧ k' < 392 + a then Y.2.1 133 (8 * s + (k' - 392)) else Y.2.1 133 k') := by
  intro n
  induction n with
  | zero => intro k y5 X _ _ _ _ g; exact g.elim
  | succ n ih =>
    intro k y5 X hk hka e1 e2 g
    replace g := gxO_276_88 g
    unfold gxT_276_88 at g
    rcases fy_ifd g with ⟨c1, g1⟩ | ⟨c1, g1⟩
    · obtain ⟨-, -, X56, e56, x57, e57, g2⟩ := g1
      have hk2 : k < a := by omega
      have e392 : ((Int16.ofInt 392).toInt32).toInt = 392 := rfl
      have i1 : (((Int16.ofInt 392).toInt32) + y5).toInt = ((392 + k : Nat) : Int) := by rw [fx_add (by omega) (by omega), e392, hk]; omega
      have i2 : (p1 * ((Int8.ofInt 8).toInt32) + y5).toInt = ((s * 8 + k : Nat) : Int) := rx_lin hp rfl hk (by omega)
      rw [fx_in i1, fx_in i2, show s * 8 + k = 8 * s + k by omega] at e56
      refine ih (k + 1) x57 X56 (by rw [e57]; exact cx_in1 hk (by omega)) (by omega) (by rw [e56]; exact e1) ⟨by rw [e56]; exact e2.1, fun q hq => by rw [e56, fx_rLn hq]; exact e2.2.1 q hq, fun k' => ?_⟩ g2
      by_cases z : k' = 392 + k
      · subst z
        rw [e56, fx_rLe, e2.2.2, if_neg (by omega), if_pos ⟨by omega, by omega⟩, show 392 + k - 392 = k by omega]
      · rw [e56, fx_rLk z, e2.2.2]
        by_cases z2 : 392 ≤ k' ∧ k' < 392 + k
        · rw [if_pos z2, if_pos ⟨z2.1, by omega⟩]
        · rw [if_neg z2, if_neg (fun y => z2 ⟨y.1, by omega⟩)]
    · have : k = a := by omega
      subst this
      exact ⟨n, X, g1, e1, e2⟩
/-- ROWS of the left side, each as often as the right has ROWS -/
theorem rx_276r (hp : p1.toInt = (s : Int)) (hs : 20 ≤ s ∧ s < 48) (h3 : y3.toInt = ((s + 1 : Nat) : Int)) (hR1 : (Y.1 131 s).toInt = (R1 : Int)) (hR2 : (Y.1 131 (s + 1)).toInt = (R2 : Int)) (hT : (Y.1 131 49).toInt = ((R1 * R2 : Nat) : Int)) (hR30 : R1 ≤ 30 ∧ R2 ≤ 30 ∧ R1 * R2 ≤ 30) : ∀ (n k : Nat) (y5 : Int32) (X : fx_X), y5.toInt = (k : Int) → k ≤ R1 * R2 → X.2 = Y.2 → (∀ q, q ≠ 134 → q ≠ 135 → q ≠ 136 → X.1 q = Y.1 q) → (∀ q k', (q = 134 ∨ q = 135) → k' / 240 ≠ 49 → X.1 q k' = Y.1 q k') → (∀ k', k' / 960 ≠ 49 → X.1 136 k' = Y.1 136 k') → (∀ r, r < k → rx_cpr Y X (30 * s + r / R2) (30 * 49 + r)) → gxF_276 p1 p2 n 127 [y3, y4, y5] [] [] X v X' → ∃ n2 X2, gxF_276 p1 p2 n2 166 [y3, y4, Int32.ofInt 0] [] [] X2 v X' ∧ X2.2 = Y.2 ∧ (∀ q, q ≠ 134 → q ≠ 135 → q ≠ 136 → X2.1 q = Y.1 q) ∧ (∀ q k', (q = 134 ∨ q = 135) → k' / 240 ≠ 49 → X2.1 q k' = Y.1 q k') ∧ (∀ k', k' / 960 ≠ 49 → X2.1 136 k' = Y.1 136 k') ∧ ∀ r, r < R1 * R2 → rx_cpr Y X2 (30 * s + r / R2) (30 * 49 + r) := by
  intro n
  induction n with
  | zero => intro k y5 X _ _ _ _ _ _ _ g; exact g.elim
  | succ n ih =>
    intro k y5 X hk hkT e2 e1 e3 e4 hB g
    replace g := gxO_276_127 g
    unfold gxT_276_127 at g
    rw [e1 131 (by decide) (by decide) (by decide), fx_in h3] at g
    rcases fy_ifd g with ⟨c1, g1⟩ | ⟨c1, g1⟩
    · have hk2 : k < R1 * R2 := by omega
      have hpos : 0 < R2 := by
        rcases Nat.eq_zero_or_pos R2 with z | z
        · rw [z, Nat.mul_zero] at hk2; omega
        · exact z
      have hdiv : k / R2 < R1 := Nat.div_lt_of_lt_mul (by rw [Nat.mul_comm]; exact hk2)
      obtain ⟨-, -, w67, X66, q, x68, e68, g2⟩ := g1
      have e49 : ((Int8.ofInt 49).toInt32).toInt = ((49 : Nat) : Int) := rfl
      obtain ⟨⟨b1, b2, b3, b4⟩, b5, b6⟩ := rx_252 hp (fx_div hk hR2 (by omega)) e49 hk (by omega) (by omega) q
      refine ih (k + 1) x68 X66 (by rw [e68]; exact cx_in1 hk (by omega)) (by omega) (b1.trans e2) (fun q z1 z2 z3 => (b2 q z1 z2 z3).trans (e1 q z1 z2 z3)) (fun q k' hq hk' => by rw [b3 q k' hq (by omega)]; exact e3 q k' hq hk') (fun k' hk' => by rw [b4 k' (by omega)]; exact e4 k' hk') (fun r hr => ?_) g2
      by_cases z : r = k
      · subst z
        refine ⟨fun c hc => ⟨?_, ?_⟩, fun i hi => ?_⟩
        · rw [(b5 c hc).1, e3 134 _ (Or.inl rfl) (by omega)]
        · rw [(b5 c hc).2, e3 135 _ (Or.inr rfl) (by omega)]
        · rw [b6 i hi, e4 _ (by omega)]
      · obtain ⟨f1, f2⟩ := hB r (by omega)
        refine ⟨fun c hc => ⟨?_, ?_⟩, fun i hi => ?_⟩
        · rw [b3 134 _ (Or.inl rfl) (by omega)]; exact (f1 c hc).1
        · rw [b3 135 _ (Or.inr rfl) (by omega)]; exact (f1 c hc).2
        · rw [b4 _ (by omega)]; exact f2 i hi
    · have : k = R1 * R2 := by omega
      subst this
      exact ⟨n, X, g1, e2, e1, e3, e4, hB⟩
end DD41
