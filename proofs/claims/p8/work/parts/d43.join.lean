/-! THE REFERENCE: join, a COLUMN that both sides have -/
section DD43
variable {P : md_P} {X X' X0 X1 X2 Y : fx_X} {n m k s r R R1 R2 T a b c d e M N h : Nat} {v w p1 p2 z y3 y4 y5 y6 y7 y8 y9 : Int32}
/-- where the two sides differ -/
def rx_ne (h : Nat) (X : fx_X) (s R2 e c r b : Nat) : Bool := !(rx_cc h X (30 * s + r / R2) e b == rx_cc h X (30 * (s + 1) + r % R2) c b)
theorem rx_ne_eq (e123 : X'.1 123 = X.1 123) (e134 : X'.1 134 = X.1 134) (e135 : X'.1 135 = X.1 135) : rx_ne h X' s R2 e c r b = rx_ne h X s R2 e c r b := by
  unfold rx_ne rx_cc
  rw [rx_cw_eq e123 e134 e135, rx_cw_eq e123 e134 e135]
/-- all WORLDS of one ROW -/
theorem rx_276v (hh : (Y.1 117 37).toInt = (h : Int)) (hh1 : h ≤ 1) (hM : (Y.1 122 h).toInt = (M : Int)) (hM4 : M ≤ 1024) (hp : p1.toInt = (s : Int)) (hs : 20 ≤ s ∧ s < 48) (h3 : y3.toInt = ((s + 1 : Nat) : Int)) (h5 : y5.toInt = (c : Int)) (h6 : y6.toInt = (e : Int)) (h7 : y7.toInt = (r : Int)) (hr : r < 30) (hR : (Y.1 131 (s + 1)).toInt = (R2 : Int)) (hR2 : 0 < R2 ∧ R2 ≤ 30) (h8 : y8.toInt = ((r % R2 : Nat) : Int)) (hx1 : rx_cx Y (30 * s + r / R2) (2, Int32.ofInt (e : Int))) (hx2 : rx_cx Y (30 * (s + 1) + r % R2) (2, Int32.ofInt (c : Int))) : ∀ (n k : Nat) (y9 : Int32) (X : fx_X), n ≤ N → y9.toInt = (k : Int) → k ≤ M → X.2 = Y.2 → (∀ q i, q ≠ 136 → X.1 q i = Y.1 q i) → (∀ k' b, b < 1024 → fx_bt (X.1 136) (32 * k') b = if k' = 30 * 49 + r ∧ b < k ∧ rx_ne h Y s R2 e c r b = true then false else fx_bt (Y.1 136) (32 * k') b) → gxF_276 p1 p2 n 225 [y3, y4, y5, y6, y7, y8, y9] [] [] X v X' → ∃ n2 X2 x, n2 + 1 ≤ N ∧ x = y7 + Int32.ofInt 1 ∧ gxF_276 p1 p2 n2 199 [y3, y4, y5, y6, x] [] [] X2 v X' ∧ X2.2 = Y.2 ∧ (∀ q i, q ≠ 136 → X2.1 q i = Y.1 q i) ∧ ∀ k' b, b < 1024 → fx_bt (X2.1 136) (32 * k') b = if k' = 30 * 49 + r ∧ b < M ∧ rx_ne h Y s R2 e c r b = true then false else fx_bt (Y.1 136) (32 * k') b := by
  intro n
  have e49 : ((Int8.ofInt 49).toInt32).toInt = ((49 : Nat) : Int) := rfl
  have hmod : r % R2 < R2 := Nat.mod_lt _ hR2.1
  have hdiv : r / R2 ≤ r := Nat.div_le_self _ _
  induction n with
  | zero => intro k y9 X _ _ _ _ _ _ g; exact g.elim
  | succ n ih =>
    intro k y9 X hN hk hkM e2 e1 hB g
    have eq : ∀ q, q ≠ 136 → X.1 q = Y.1 q := fun q hq => funext fun i => e1 q i hq
    have ecx : ∀ a x, rx_cx Y a x → rx_cx X a x := fun a x hx => by unfold rx_cx; rw [eq 134 (by decide), eq 135 (by decide)]; exact hx
    replace g := gxO_276_225 g
    unfold gxT_276_225 at g
    rw [e1 117 37 (by decide), fx_in hh, e1 122 h (by decide)] at g
    replace g := g.2
    rcases fy_ifd g with ⟨c1, g1⟩ | ⟨c1, g1⟩
    · rw [if_neg (by omega), fx_in h3, e1 131 (s + 1) (by decide)] at g1
      obtain ⟨-, -, w182, X181, q1, w184, X183, q2, g2⟩ := g1
      obtain ⟨e181, v182⟩ := rx_258 (s := s) (r := r / R2) (b := k) (by rw [e1 117 37 (by decide)]; exact hh) hh1 hp (by omega) (fx_div h7 hR (by omega)) (by omega) h6 hk (by omega) (ecx _ _ hx1) q1
      subst e181
      obtain ⟨e183, v184⟩ := rx_258 (s := s + 1) (r := r % R2) (b := k) (by rw [e1 117 37 (by decide)]; exact hh) hh1 h3 (by omega) h8 (by omega) h5 hk (by omega) (ecx _ _ hx2) q2
      subst e183
      have ene : rx_ne h X183 s R2 e c r k = rx_ne h Y s R2 e c r k := rx_ne_eq (eq 123 (by decide)) (eq 134 (by decide)) (eq 135 (by decide))
      rcases fy_ifd g2 with ⟨c2, g3⟩ | ⟨c2, g3⟩
      · obtain ⟨x186, e186, g4⟩ := g3
        have hne : rx_ne h Y s R2 e c r k = false := by
          rw [← ene]
          unfold rx_ne
          rw [← v182, ← v184, fx_inj c2]
          simp
        refine ih (k + 1) x186 _ (by omega) (by rw [e186]; exact cx_in1 hk (by omega)) (by omega) e2 e1 (fun k' b hb => ?_) g4
        rw [hB k' b hb]
        by_cases z : k' = 30 * 49 + r ∧ b < k ∧ rx_ne h Y s R2 e c r b = true
        · rw [if_pos z, if_pos ⟨z.1, by omega, z.2.2⟩]
        · rw [if_neg z, if_neg]
          rintro ⟨z1, z2, z3⟩
          by_cases z4 : b = k
          · rw [z4, hne] at z3; cases z3
          · exact z ⟨z1, by omega, z3⟩
      · obtain ⟨w190, X189, q3, w192, X191, q4, x193, e193, g4⟩ := g3
        have hne : rx_ne h Y s R2 e c r k = true := by
          rw [← ene]
          unfold rx_ne
          rw [← v182, ← v184]
          cases hq : (w182 == w184) with
          | false => rfl
          | true => exact absurd (by rw [beq_iff_eq.mp hq]) c2
        obtain ⟨e189, v190⟩ := rx_225r e49 h7 (by omega) q3
        subst e189
        obtain ⟨⟨b1, b2, b3⟩, -⟩ := rx_228 (k := 30 * 49 + r) v190 hk (by omega) (by omega) q4
        refine ih (k + 1) x193 X191 (by omega) (by rw [e193]; exact cx_in1 hk (by omega)) (by omega) (b1.trans e2) (fun q i hq => (b2 q i hq).trans (e1 q i hq)) (fun k' b hb => ?_) g4
        rw [b3 k' b hb, hB k' b hb]
        by_cases z : k' = 30 * 49 + r ∧ b = k
        · rw [if_pos z, if_pos ⟨z.1, by omega, by rw [z.2]; exact hne⟩]
          rfl
        · rw [if_neg z]
          by_cases z2 : k' = 30 * 49 + r ∧ b < k ∧ rx_ne h Y s R2 e c r b = true
          · rw [if_pos z2, if_pos ⟨z2.1, by omega, z2.2.2⟩]
          · rw [if_neg z2, if_neg (fun y => z2 ⟨y.1, by have := y.2.1; have : b ≠ k := fun w => z ⟨y.1, w⟩; omega, y.2.2⟩)]
    · have : k = M := by omega
      subst this
      rw [if_neg (by omega)] at g1
      obtain ⟨x132, e132, g2⟩ := g1
      exact ⟨n, X, x132, by omega, e132, g2, e2, e1, hB⟩
/-- all ROWS -/
theorem rx_276e (hh : (Y.1 117 37).toInt = (h : Int)) (hh1 : h ≤ 1) (hM : (Y.1 122 h).toInt = (M : Int)) (hM4 : M ≤ 1024) (hp : p1.toInt = (s : Int)) (hs : 20 ≤ s ∧ s < 48) (h3 : y3.toInt = ((s + 1 : Nat) : Int)) (h5 : y5.toInt = (c : Int)) (h6 : y6.toInt = (e : Int)) (hT : (Y.1 131 49).toInt = (T : Int)) (hT30 : T ≤ 30) (hR : 0 < T → (Y.1 131 (s + 1)).toInt = (R2 : Int) ∧ 0 < R2 ∧ R2 ≤ 30) (hx : ∀ r, r < T → rx_cx Y (30 * s + r / R2) (2, Int32.ofInt (e : Int)) ∧ rx_cx Y (30 * (s + 1) + r % R2) (2, Int32.ofInt (c : Int))) : ∀ (d n r : Nat) (y7 : Int32) (X : fx_X), n ≤ d → n ≤ N → y7.toInt = (r : Int) → r ≤ T → X.2 = Y.2 → (∀ q i, q ≠ 136 → X.1 q i = Y.1 q i) → (∀ k' b, b < 1024 → fx_bt (X.1 136) (32 * k') b = if (30 * 49 ≤ k' ∧ k' < 30 * 49 + r) ∧ b < M ∧ rx_ne h Y s R2 e c (k' - 30 * 49) b = true then false else fx_bt (Y.1 136) (32 * k') b) → gxF_276 p1 p2 n 199 [y3, y4, y5, y6, y7] [] [] X v X' → ∃ n2 X2 x, n2 + 1 ≤ N ∧ x = y5 + Int32.ofInt 1 ∧ gxF_276 p1 p2 n2 166 [y3, y4, x] [] [] X2 v X' ∧ X2.2 = Y.2 ∧ (∀ q i, q ≠ 136 → X2.1 q i = Y.1 q i) ∧ ∀ k' b, b < 1024 → fx_bt (X2.1 136) (32 * k') b = if (30 * 49 ≤ k' ∧ k' < 30 * 49 + T) ∧ b < M ∧ rx_ne h Y s R2 e c (k' - 30 * 49) b = true then false else fx_bt (Y.1 136) (32 * k') b := by
  intro d
  induction d with
  | zero =>
    intro n r y7 X hn _ _ _ _ _ _ g
    cases n with
    | zero => exact g.elim
    | succ n => omega
  | succ d ih =>
    intro n r y7 X hn hN hr hrT e2 e1 hB g
    cases n with
    | zero => exact g.elim
    | succ n =>
      have eq : ∀ q, q ≠ 136 → X.1 q = Y.1 q := fun q hq => funext fun i => e1 q i hq
      have ecx : ∀ a x, rx_cx Y a x → rx_cx X a x := fun a x hx => by unfold rx_cx; rw [eq 134 (by decide), eq 135 (by decide)]; exact hx
      replace g := gxO_276_199 g
      unfold gxT_276_199 at g
      rw [e1 131 49 (by decide), fx_in h3, e1 131 (s + 1) (by decide)] at g
      rcases fy_ifd g with ⟨c1, g1⟩ | ⟨c1, g1⟩
      · have hr2 : r < T := by omega
        obtain ⟨r1, r2, r3⟩ := hR (by omega)
        obtain ⟨-, -, x107, e107, g2⟩ := g1
        obtain ⟨hx1, hx2⟩ := hx r hr2
        obtain ⟨n2, X2, x, hn2, ex, g3, b1, b2, b3⟩ := rx_276v (N := n) (Y := X) (h := h) (M := M) (e := e) (c := c) (r := r) (R2 := R2) (by rw [e1 117 37 (by decide)]; exact hh) hh1 (by rw [e1 122 h (by decide)]; exact hM) hM4 hp hs h3 h5 h6 hr (by omega) (by rw [e1 131 (s + 1) (by decide)]; exact r1) ⟨r2, r3⟩ (by rw [e107]; exact fx_rem hr r1 (by omega)) (ecx _ _ hx1) (ecx _ _ hx2) n 0 _ X (Nat.le_refl _) rfl (Nat.zero_le _) rfl (fun _ _ _ => rfl) (fun k' b _ => by rw [if_neg (fun y => absurd y.2.1 (Nat.not_lt_zero _))]) g2
        refine ih n2 (r + 1) x X2 (by omega) (by omega) (by rw [ex]; exact cx_in1 hr (by omega)) (by omega) (b1.trans e2) (fun q i hq => (b2 q i hq).trans (e1 q i hq)) (fun k' b hb => ?_) g3
        have ene : rx_ne h X s R2 e c r b = rx_ne h Y s R2 e c r b := rx_ne_eq (eq 123 (by decide)) (eq 134 (by decide)) (eq 135 (by decide))
        rw [b3 k' b hb, hB k' b hb, ene]
        by_cases z : k' = 30 * 49 + r
        · subst z
          rw [if_neg (fun y : (30 * 49 ≤ 30 * 49 + r ∧ 30 * 49 + r < 30 * 49 + r) ∧ _ => absurd y.1.2 (Nat.lt_irrefl _)), show 30 * 49 + r - 30 * 49 = r by omega]
          by_cases z2 : b < M ∧ rx_ne h Y s R2 e c r b = true
          · rw [if_pos ⟨rfl, z2⟩, if_pos ⟨⟨by omega, by omega⟩, z2⟩]
          · rw [if_neg (fun y => z2 y.2), if_neg (fun y => z2 y.2)]
        · rw [if_neg (fun y => z y.1)]
          by_cases z2 : (30 * 49 ≤ k' ∧ k' < 30 * 49 + r) ∧ b < M ∧ rx_ne h Y s R2 e c (k' - 30 * 49) b = true
          · rw [if_pos z2, if_pos ⟨⟨z2.1.1, by omega⟩, z2.2⟩]
          · rw [if_neg z2, if_neg (fun y => z2 ⟨⟨y.1.1, by omega⟩, y.2⟩)]
      · have : r = T := by omega
        subst this
        rw [if_neg (by omega)] at g1
        obtain ⟨x93, e93, g2⟩ := g1
        exact ⟨n, X, x93, by omega, e93, g2, e2, e1, hB⟩
end DD43
