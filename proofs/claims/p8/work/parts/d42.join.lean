/-! THE REFERENCE: join, a COLUMN of the right side -/
section DD42
variable {P : md_P} {X X' X0 X1 X2 Y : fx_X} {n m k s R R1 R2 T a b c d e M N h : Nat} {v w p1 p2 z y3 y4 y5 y6 y7 y8 y9 : Int32}
/-- a COLUMN that the left side has none of -/
theorem rx_276w (hs : 20 ≤ s ∧ s < 48) (h3 : y3.toInt = ((s + 1 : Nat) : Int)) (h4 : y4.toInt = (e : Int)) (he : e < 8) (h5 : y5.toInt = (c : Int)) (hc : c < 8) (h6 : y6.toInt < 0) (hT : (Y.1 131 49).toInt = (T : Int)) (hT30 : T ≤ 30) (hR : 0 < T → (Y.1 131 (s + 1)).toInt = (R2 : Int) ∧ 0 < R2 ∧ R2 ≤ 30) : ∀ (d n r : Nat) (y7 : Int32) (X : fx_X), n ≤ d → n ≤ N → y7.toInt = (r : Int) → r ≤ T → X.2 = Y.2 → (∀ q, q ≠ 134 → q ≠ 135 → X.1 q = Y.1 q) → (∀ q k', (q = 134 ∨ q = 135) → ¬ (k' / 240 = 49 ∧ k' % 8 = e) → X.1 q k' = Y.1 q k') → (∀ r', r' < r → X.1 134 (8 * (30 * 49 + r') + e) = aj_nar 4 (Y.1 134 (8 * (30 * (s + 1) + r' % R2) + c)) ∧ X.1 135 (8 * (30 * 49 + r') + e) = Y.1 135 (8 * (30 * (s + 1) + r' % R2) + c)) → gxF_276 p1 p2 n 199 [y3, y4, y5, y6, y7] [] [] X v X' → ∃ n2 X2 x100 x102, n2 + 1 ≤ N ∧ x100 = y4 + Int32.ofInt 1 ∧ x102 = y5 + Int32.ofInt 1 ∧ gxF_276 p1 p2 n2 166 [y3, x100, x102] [] [] X2 v X' ∧ (X2.2.2 = Y.2.2 ∧ (∀ q, q ≠ 133 → X2.2.1 q = Y.2.1 q) ∧ ∀ k', X2.2.1 133 k' = if k' = 392 + e then Y.2.1 133 (8 * (s + 1) + c) else Y.2.1 133 k') ∧ (∀ q, q ≠ 134 → q ≠ 135 → X2.1 q = Y.1 q) ∧ (∀ q k', (q = 134 ∨ q = 135) → ¬ (k' / 240 = 49 ∧ k' % 8 = e) → X2.1 q k' = Y.1 q k') ∧ ∀ r', r' < T → X2.1 134 (8 * (30 * 49 + r') + e) = aj_nar 4 (Y.1 134 (8 * (30 * (s + 1) + r' % R2) + c)) ∧ X2.1 135 (8 * (30 * 49 + r') + e) = Y.1 135 (8 * (30 * (s + 1) + r' % R2) + c) := by
  intro d
  have e49 : ((Int8.ofInt 49).toInt32).toInt = ((49 : Nat) : Int) := rfl
  induction d with
  | zero =>
    intro n r y7 X hn _ _ _ _ _ _ _ g
    cases n with
    | zero => exact g.elim
    | succ n => omega
  | succ d ih =>
    intro n r y7 X hn hN hr hrT e2 e1 e3 hB g
    cases n with
    | zero => exact g.elim
    | succ n =>
      replace g := gxO_276_199 g
      unfold gxT_276_199 at g
      rw [e1 131 (by decide) (by decide), fx_in h3] at g
      rcases fy_ifd g with ⟨c1, g1⟩ | ⟨c1, g1⟩
      · have hr2 : r < T := by omega
        obtain ⟨r1, r2, r3⟩ := hR (by omega)
        obtain ⟨-, -, x107, e107, g2⟩ := g1
        have h107 : x107.toInt = ((r % R2 : Nat) : Int) := by rw [e107]; exact fx_rem hr r1 (by omega)
        have hmod : r % R2 < R2 := Nat.mod_lt _ r2
        cases n with
        | zero => exact g2.elim
        | succ n =>
          replace g2 := gxO_276_225 g2
          unfold gxT_276_225 at g2
          replace g2 := g2.2
          -- the cell
          have cell : ∀ {w160 w163 w169 w172 x176 : Int32} {X159 X162 X166 X168 X171 X175 : fx_X}, gx_236 ((Int8.ofInt 49).toInt32) y7 y4 X w160 X159 → gx_236 y3 x107 y5 X159 w163 X162 → X166 = (fx_wI X162 134 (w160).toInt.toNat (aj_nar 4 (X162.1 134 (w163).toInt.toNat))) → gx_236 ((Int8.ofInt 49).toInt32) y7 y4 X166 w169 X168 → gx_236 y3 x107 y5 X168 w172 X171 → X175 = (fx_wI X171 135 (w169).toInt.toNat (X171.1 135 (w172).toInt.toNat)) → x176 = y7 + Int32.ofInt 1 → gxF_276 p1 p2 n 199 [y3, y4, y5, y6, x176] [] [] X175 v X' → ∃ n2 X2 x100 x102, n2 + 1 ≤ N ∧ x100 = y4 + Int32.ofInt 1 ∧ x102 = y5 + Int32.ofInt 1 ∧ gxF_276 p1 p2 n2 166 [y3, x100, x102] [] [] X2 v X' ∧ (X2.2.2 = Y.2.2 ∧ (∀ q, q ≠ 133 → X2.2.1 q = Y.2.1 q) ∧ ∀ k', X2.2.1 133 k' = if k' = 392 + e then Y.2.1 133 (8 * (s + 1) + c) else Y.2.1 133 k') ∧ (∀ q, q ≠ 134 → q ≠ 135 → X2.1 q = Y.1 q) ∧ (∀ q k', (q = 134 ∨ q = 135) → ¬ (k' / 240 = 49 ∧ k' % 8 = e) → X2.1 q k' = Y.1 q k') ∧ ∀ r', r' < T → X2.1 134 (8 * (30 * 49 + r') + e) = aj_nar 4 (Y.1 134 (8 * (30 * (s + 1) + r' % R2) + c)) ∧ X2.1 135 (8 * (30 * 49 + r') + e) = Y.1 135 (8 * (30 * (s + 1) + r' % R2) + c) := by
            intro w160 w163 w169 w172 x176 X159 X162 X166 X168 X171 X175 q1 q2 e166 q3 q4 e175 e176 g3
            obtain ⟨e159, v160⟩ := rx_236 e49 hr h4 (by omega) q1
            subst e159
            obtain ⟨e162, v163⟩ := rx_236 h3 h107 h5 (by omega) q2
            subst e162
            rw [fx_in v160, fx_in v163] at e166
            obtain ⟨e168, v169⟩ := rx_236 e49 hr h4 (by omega) q3
            subst e168
            obtain ⟨e171, v172⟩ := rx_236 h3 h107 h5 (by omega) q4
            subst e171
            rw [fx_in v169, fx_in v172] at e175
            have k175 : ∀ q k', (q = 134 ∨ q = 135) → k' ≠ 8 * (30 * 49 + r) + e → X175.1 q k' = X162.1 q k' := fun q k' hq hn => by rw [e175, fx_rIk hn, e166, fx_rIk hn]
            refine ih n (r + 1) x176 X175 (by omega) (by omega) (by rw [e176]; exact cx_in1 hr (by omega)) (by omega) (by rw [e175, e166]; exact e2) (fun q z1 z2 => by rw [e175, fx_rIn z2, e166, fx_rIn z1]; exact e1 q z1 z2) (fun q k' hq hk' => by rw [k175 q k' hq (by omega)]; exact e3 q k' hq hk') (fun r' hr' => ?_) g3
            by_cases z : r' = r
            · subst z
              refine ⟨?_, ?_⟩
              · rw [e175, fx_rIn (by decide), e166, fx_rIe, e3 134 _ (Or.inl rfl) (by omega)]
              · rw [e175, fx_rIe, e166, fx_rIn (by decide), e3 135 _ (Or.inr rfl) (by omega)]
            · rw [k175 134 _ (Or.inl rfl) (by omega), k175 135 _ (Or.inr rfl) (by omega)]
              exact hB r' (by omega)
          rcases fy_ifd g2 with ⟨c2, g3⟩ | ⟨c2, g3⟩
          · rw [if_pos h6, if_pos h6] at g3
            obtain ⟨w160, X159, q1, w163, X162, q2, -, -, X166, e166, w169, X168, q3, w172, X171, q4, -, -, X175, e175, x176, e176, g4⟩ := g3
            exact cell q1 q2 e166 q3 q4 e175 e176 g4
          · rw [if_pos h6] at g3
            obtain ⟨w160, X159, q1, w163, X162, q2, -, -, X166, e166, w169, X168, q3, w172, X171, q4, -, -, X175, e175, x176, e176, g4⟩ := g3
            exact cell q1 q2 e166 q3 q4 e175 e176 g4
      · have : r = T := by omega
        subst this
        rw [if_pos h6] at g1
        obtain ⟨-, -, X99, e99, x100, e100, x102, e102, g2⟩ := g1
        have e392 : ((Int16.ofInt 392).toInt32).toInt = 392 := rfl
        have i1 : (((Int16.ofInt 392).toInt32) + y4).toInt = ((392 + e : Nat) : Int) := by rw [fx_add (by omega) (by omega), e392, h4]; omega
        have i2 : (y3 * ((Int8.ofInt 8).toInt32) + y5).toInt = (((s + 1) * 8 + c : Nat) : Int) := rx_lin h3 rfl h5 (by omega)
        rw [fx_in i1, fx_in i2, show (s + 1) * 8 + c = 8 * (s + 1) + c by omega, e2] at e99
        refine ⟨n, X99, x100, x102, by omega, e100, e102, g2, ⟨by rw [e99]; show X.2.2 = _; rw [e2], fun q hq => by rw [e99, fx_rLn hq, e2], fun k' => ?_⟩, fun q z1 z2 => by rw [e99]; exact e1 q z1 z2, fun q k' hq hk' => by rw [e99]; exact e3 q k' hq hk', fun r' hr' => by rw [e99]; exact hB r' hr'⟩
        by_cases z : k' = 392 + e
        · subst z
          rw [e99, fx_rLe, if_pos rfl]
        · rw [e99, fx_rLk z, if_neg z, e2]
end DD42
