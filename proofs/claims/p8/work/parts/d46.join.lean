/-! THE REFERENCE: join, the WORLDS of both sides -/
section DD46
variable {P : md_P} {X X' X0 X1 X2 Y : fx_X} {n m k s r R R1 R2 T d N : Nat} {v w p1 p2 z y3 y4 y5 y6 : Int32}
theorem rx_276w2 (hs : 20 ≤ s ∧ s < 48) (h3 : y3.toInt = ((s + 1 : Nat) : Int)) (h5 : y5.toInt = (r : Int)) (hr : r < 30) (hR : (Y.1 131 (s + 1)).toInt = (R2 : Int)) (hR2 : 0 < R2 ∧ R2 ≤ 30) : ∀ (n k : Nat) (y6 : Int32) (X : fx_X), n ≤ N → y6.toInt = (k : Int) → k ≤ 32 → X.2 = Y.2 → (∀ q i, q ≠ 136 → X.1 q i = Y.1 q i) → (∀ k', X.1 136 k' = if 32 * (30 * 49 + r) ≤ k' ∧ k' < 32 * (30 * 49 + r) + k then Y.1 136 k' &&& Y.1 136 (32 * (30 * (s + 1) + r % R2) + (k' - 32 * (30 * 49 + r))) else Y.1 136 k') → gxF_276 p1 p2 n 420 [y3, y4, y5, y6] [] [] X v X' → ∃ n2 X2 x, n2 + 1 ≤ N ∧ x = y5 + Int32.ofInt 1 ∧ gxF_276 p1 p2 n2 405 [y3, y4, x] [] [] X2 v X' ∧ X2.2 = Y.2 ∧ (∀ q i, q ≠ 136 → X2.1 q i = Y.1 q i) ∧ ∀ k', X2.1 136 k' = if 32 * (30 * 49 + r) ≤ k' ∧ k' < 32 * (30 * 49 + r) + 32 then Y.1 136 k' &&& Y.1 136 (32 * (30 * (s + 1) + r % R2) + (k' - 32 * (30 * 49 + r))) else Y.1 136 k' := by
  intro n
  have e49 : ((Int8.ofInt 49).toInt32).toInt = ((49 : Nat) : Int) := rfl
  have e32 : ((Int8.ofInt 32).toInt32).toInt = 32 := rfl
  have hmod : r % R2 < R2 := Nat.mod_lt _ hR2.1
  induction n with
  | zero => intro k y6 X _ _ _ _ _ _ g; exact g.elim
  | succ n ih =>
    intro k y6 X hN hk hk32 e2 e1 hB g
    replace g := gxO_276_420 g
    unfold gxT_276_420 at g
    rcases fy_ifd g with ⟨c1, g1⟩ | ⟨c1, g1⟩
    · have c1 : y6.toInt < 32 := c1
      obtain ⟨w115, X114, q1, -, -, -, w122, X121, q2, -, -, X125, e125, x126, e126, g2⟩ := g1
      obtain ⟨e114, v115⟩ := rx_225r e49 h5 (by omega) q1
      subst e114
      rw [fx_in h3, e1 131 (s + 1) (by decide)] at q2
      obtain ⟨e121, v122⟩ := rx_225r h3 (fx_rem h5 hR (by omega)) (by omega) q2
      subst e121
      have i1 : (w115 + y6).toInt = ((32 * (30 * 49 + r) + k : Nat) : Int) := by rw [fx_add (by omega) (by omega)]; omega
      have i2 : (w122 + y6).toInt = ((32 * (30 * (s + 1) + r % R2) + k : Nat) : Int) := by rw [fx_add (by omega) (by omega)]; omega
      rw [fx_in i1, fx_in i2, hB, hB, if_neg (by omega), if_neg (by omega)] at e125
      refine ih (k + 1) x126 X125 (by omega) (by rw [e126]; exact cx_in1 hk (by omega)) (by omega) (by rw [e125]; exact e2) (fun q i hq => by rw [e125, fx_rIn hq]; exact e1 q i hq) (fun k' => ?_) g2
      by_cases z : k' = 32 * (30 * 49 + r) + k
      · subst z
        rw [e125, fx_rIe, if_pos ⟨by omega, by omega⟩, show 32 * (30 * 49 + r) + k - 32 * (30 * 49 + r) = k by omega]
      · rw [e125, fx_rIk z, hB]
        by_cases z2 : 32 * (30 * 49 + r) ≤ k' ∧ k' < 32 * (30 * 49 + r) + k
        · rw [if_pos z2, if_pos ⟨z2.1, by omega⟩]
        · rw [if_neg z2, if_neg (fun y => z2 ⟨y.1, by omega⟩)]
    · have c1 : ¬ y6.toInt < 32 := c1
      have : k = 32 := by omega
      subst this
      obtain ⟨x111, e111, g2⟩ := g1
      exact ⟨n, X, x111, by omega, e111, g2, e2, e1, hB⟩
theorem rx_276z (hs : 20 ≤ s ∧ s < 48) (h3 : y3.toInt = ((s + 1 : Nat) : Int)) (hT : (Y.1 131 49).toInt = (T : Int)) (hT30 : T ≤ 30) (hR : 0 < T → (Y.1 131 (s + 1)).toInt = (R2 : Int) ∧ 0 < R2 ∧ R2 ≤ 30) : ∀ (d n r : Nat) (y5 : Int32) (X : fx_X), n ≤ d → y5.toInt = (r : Int) → r ≤ T → X.2 = Y.2 → (∀ q i, q ≠ 136 → X.1 q i = Y.1 q i) → (∀ k', k' / 960 ≠ 49 → X.1 136 k' = Y.1 136 k') → (∀ r' b, r' < 30 → b < 1024 → fx_bt (X.1 136) (32 * (30 * 49 + r')) b = if r' < r then (fx_bt (Y.1 136) (32 * (30 * 49 + r')) b && fx_bt (Y.1 136) (32 * (30 * (s + 1) + r' % R2)) b) else fx_bt (Y.1 136) (32 * (30 * 49 + r')) b) → gxF_276 p1 p2 n 405 [y3, y4, y5] [] [] X v X' → v = Int32.ofInt 1 ∧ ∃ (X2 : fx_X) (u : Unit), gx_251 ((Int8.ofInt 49).toInt32) p1 (fx_wI X2 132 49 y4) u X' ∧ X2.2 = Y.2 ∧ (∀ q i, q ≠ 136 → X2.1 q i = Y.1 q i) ∧ (∀ k', k' / 960 ≠ 49 → X2.1 136 k' = Y.1 136 k') ∧ ∀ r' b, r' < T → b < 1024 → fx_bt (X2.1 136) (32 * (30 * 49 + r')) b = (fx_bt (Y.1 136) (32 * (30 * 49 + r')) b && fx_bt (Y.1 136) (32 * (30 * (s + 1) + r' % R2)) b) := by
  intro d
  induction d with
  | zero =>
    intro n r y5 X hn _ _ _ _ _ _ g
    cases n with
    | zero => exact g.elim
    | succ n => omega
  | succ d ih =>
    intro n r y5 X hn hr hrT e2 e1 e3 hB g
    cases n with
    | zero => exact g.elim
    | succ n =>
      replace g := gxO_276_405 g
      unfold gxT_276_405 at g
      rw [e1 131 49 (by decide)] at g
      rcases fy_ifd g with ⟨c1, g1⟩ | ⟨c1, g1⟩
      · have hr2 : r < T := by omega
        obtain ⟨r1, r2, r3⟩ := hR (by omega)
        have hmod : ∀ r', r' % R2 < R2 := fun r' => Nat.mod_lt _ r2
        have hmr := hmod r
        obtain ⟨n2, X2, x, hn2, ex, g2, b1, b2, b3⟩ := rx_276w2 (Y := X) (N := n) (s := s) (r := r) (R2 := R2) hs h3 hr (by omega) (by rw [e1 131 (s + 1) (by decide)]; exact r1) ⟨r2, r3⟩ n 0 _ X (Nat.le_refl _) rfl (Nat.zero_le _) rfl (fun _ _ _ => rfl) (fun k' => by rw [if_neg (by omega)]) g1
        refine ih n2 (r + 1) x X2 (by omega) (by rw [ex]; exact cx_in1 hr (by omega)) (by omega) (b1.trans e2) (fun q i hq => (b2 q i hq).trans (e1 q i hq)) (fun k' hk' => by rw [b3 k', if_neg (by omega)]; exact e3 k' hk') (fun r' b hr' hb => ?_) g2
        have hm' := hmod r'
        by_cases z : r' = r
        · subst z
          have hx := hB r' b hr' hb
          rw [if_neg (Nat.lt_irrefl _)] at hx
          rw [if_pos (Nat.lt_succ_self _), ← hx]
          unfold fx_bt
          rw [b3, if_pos ⟨by omega, by omega⟩, fx_ib_and, show 32 * (30 * (s + 1) + r' % R2) + (32 * (30 * 49 + r') + b / 32 - 32 * (30 * 49 + r')) = 32 * (30 * (s + 1) + r' % R2) + b / 32 by omega, e3 (32 * (30 * (s + 1) + r' % R2) + b / 32) (by omega)]
        · have hx := hB r' b hr' hb
          have : fx_bt (X2.1 136) (32 * (30 * 49 + r')) b = fx_bt (X.1 136) (32 * (30 * 49 + r')) b := by
            unfold fx_bt
            rw [b3, if_neg (by omega)]
          rw [this, hx]
          by_cases z2 : r' < r
          · rw [if_pos z2, if_pos (by omega)]
          · rw [if_neg z2, if_neg (by omega)]
      · have : r = T := by omega
        subst this
        obtain ⟨X85, e85, w87, X86, q, e4, e5⟩ := g1
        subst e85
        rw [← e5] at q
        exact ⟨e4, X, w87, q, e2, e1, e3, fun r' b hr' hb => by rw [hB r' b (by omega) hb, if_pos hr']⟩
end DD46
