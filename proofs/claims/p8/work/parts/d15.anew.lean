/-! THE REFERENCE: WORLDS anew -/
section DD15
variable {P : md_P} {X X' X0 X1 : fx_X} {u1 : Unit} {h M T pn w i k t r n : Nat} {U : md_U} {y1 y2 : Int32} {last : Nat} {R : Nat → Nat}
theorem rx_i1024 {p a : Int32} {k m : Nat} (hp : p.toInt = (k : Int)) (ha : a.toInt = (m : Int)) (h : k * 1024 + m ≤ 2000000) : (p * ((Int16.ofInt 1024).toInt32) + a).toInt = ((k * 1024 + m : Nat) : Int) := rx_lin hp rfl ha (by omega)
/-- values of all WORLDS -/
theorem rx_224v (h1 : y1.toInt = (h : Int)) (hh : h ≤ 1) (hM : (X0.1 122 h).toInt = (M : Int)) (hM4 : M ≤ 1024) (hU1 : (X0.1 118 h).toInt = (U.length : Int)) (hU8 : U.length ≤ 8) (hUv : ∀ u x, U[u]? = some x → (X0.1 120 (8 * h + u)).toInt = (x.2.length : Int) ∧ (1 ≤ x.2.length ∧ x.2.length ≤ 64) ∧ ∀ i v, x.2[i]? = some v → X0.1 121 (64 * (8 * h + u) + i) = v) : ∀ n : Nat, (∀ (w : Nat) (y3 : Int32) (X : fx_X), y3.toInt = (w : Int) → w ≤ M → X.2 = X0.2 → (∀ q k, q ≠ 123 → X.1 q k = X0.1 q k) → (∀ k, (∀ u w', u < U.length → w' < M → k ≠ (8 * h + u) * 1024 + w') → X.1 123 k = X0.1 123 k) → (∀ u w', u < U.length → w' < w → X.1 123 ((8 * h + u) * 1024 + w') = md_val U w' u) → gxF_224 n 26 [y1, y2, y3] [] [] X u1 X' → ∃ n2 X2, gxF_224 n2 123 [y1, y2, Int32.ofInt 0] [] [] X2 u1 X' ∧ X2.2 = X0.2 ∧ (∀ q k, q ≠ 123 → X2.1 q k = X0.1 q k) ∧ (∀ k, (∀ u w', u < U.length → w' < M → k ≠ (8 * h + u) * 1024 + w') → X2.1 123 k = X0.1 123 k) ∧ ∀ u w', u < U.length → w' < M → X2.1 123 ((8 * h + u) * 1024 + w') = md_val U w' u) ∧ (∀ (w i : Nat) (y3 y4 y5 : Int32) (X : fx_X), y3.toInt = (w : Int) → w < M → i ≤ U.length → y4.toInt = (md_no (U.drop i) w : Int) → y5.toInt = (i : Int) - 1 → X.2 = X0.2 → (∀ q k, q ≠ 123 → X.1 q k = X0.1 q k) → (∀ k, (∀ u w', u < U.length → w' < M → k ≠ (8 * h + u) * 1024 + w') → X.1 123 k = X0.1 123 k) → (∀ u w', u < U.length → w' < w → X.1 123 ((8 * h + u) * 1024 + w') = md_val U w' u) → (∀ u, u < U.length → i ≤ u → X.1 123 ((8 * h + u) * 1024 + w) = md_val U w u) → gxF_224 n 49 [y1, y2, y3, y4, y5] [] [] X u1 X' → ∃ n2 X2, gxF_224 n2 123 [y1, y2, Int32.ofInt 0] [] [] X2 u1 X' ∧ X2.2 = X0.2 ∧ (∀ q k, q ≠ 123 → X2.1 q k = X0.1 q k) ∧ (∀ k, (∀ u w', u < U.length → w' < M → k ≠ (8 * h + u) * 1024 + w') → X2.1 123 k = X0.1 123 k) ∧ ∀ u w', u < U.length → w' < M → X2.1 123 ((8 * h + u) * 1024 + w') = md_val U w' u) := by
  intro n
  induction n with
  | zero => exact ⟨fun _ _ _ _ _ _ _ _ _ g => g.elim, fun _ _ _ _ _ _ _ _ _ _ _ _ _ _ _ _ g => g.elim⟩
  | succ n ih =>
    obtain ⟨ih26, ih49⟩ := ih
    refine ⟨fun w y3 X h3 hw e2 e1 hfr hv g => ?_, fun w i y3 y4 y5 X h3 hw hi h4 h5 e2 e1 hfr hv hvi g => ?_⟩
    · replace g := gxO_224_26 g
      unfold gxT_224_26 at g
      rw [fx_in h1, e1 122 h (by decide), e1 118 h (by decide)] at g
      replace g := g.2
      rcases fy_ifd g with ⟨c1, g1⟩ | ⟨c1, g1⟩
      · obtain ⟨-, x18, e18, g2⟩ := g1
        have e1' : (Int32.ofInt 1).toInt = 1 := rfl
        refine ih49 w U.length y3 y3 x18 X h3 (by omega) (Nat.le_refl _) ?_ ?_ e2 e1 hfr hv (fun u h1 h2 => absurd h2 (by omega)) g2
        · rw [List.drop_length]; exact h3
        · rw [e18, fx_sub (by omega) (by omega), hU1, e1']
      · have : w = M := by omega
        subst this
        exact ⟨n, X, g1, e2, e1, hfr, hv⟩
    · replace g := gxO_224_49 g
      unfold gxT_224_49 at g
      rcases fy_ifd g with ⟨c1, g1⟩ | ⟨c1, g1⟩
      · obtain ⟨x28, e28, g2⟩ := g1
        have : i = 0 := by omega
        subst this
        refine ih26 (w + 1) x28 X (by rw [e28]; exact cx_in1 h3 (by omega)) hw e2 e1 hfr (fun u w' hu hw' => ?_) g2
        by_cases z : w' = w
        · rw [z]; exact hvi u hu (Nat.zero_le _)
        · exact hv u w' hu (by omega)
      · obtain ⟨u, rfl⟩ : ∃ u, i = u + 1 := ⟨i - 1, by omega⟩
        have h5' : y5.toInt = (u : Int) := by omega
        obtain ⟨x, hx⟩ : ∃ x, U[u]? = some x := ⟨_, List.getElem?_eq_getElem (by omega)⟩
        obtain ⟨q1, q2, q3⟩ := hUv u x hx
        obtain ⟨x30, e30, g2⟩ := g1
        have hx30 : x30.toInt = ((8 * h + u : Nat) : Int) := by
          rw [e30, show 8 * h + u = h * 8 + u by omega]
          exact rx_lin h1 rfl h5' (by omega)
        rw [fx_in hx30, e1 120 _ (by decide)] at g2
        have hno : md_no (U.drop (u + 1)) w ≤ w := md_no_le _ _
        have hrem := fx_rem h4 q1 (by omega)
        have hmod : md_no (U.drop (u + 1)) w % x.2.length < x.2.length := Nat.mod_lt _ (by omega)
        have hj : (x30 * ((Int8.ofInt 64).toInt32) + (y4 - y4 / (X0.1 120 (8 * h + u)) * (X0.1 120 (8 * h + u)))).toInt = (((8 * h + u) * 64 + md_no (U.drop (u + 1)) w % x.2.length : Nat) : Int) := rx_lin hx30 rfl hrem (by omega)
        have hk := rx_i1024 hx30 h3 (by omega)
        rw [fx_in hj, fx_in hk, e1 121 _ (by decide)] at g2
        obtain ⟨-, -, -, -, X39, e39, -, -, x43, e43, x45, e45, g3⟩ := g2
        have e39120 : X39.1 120 = X.1 120 := by rw [e39, fx_rIn (by decide)]
        rw [e39120, e1 120 _ (by decide)] at e43
        have em : (Int32.ofInt (-1)).toInt = -1 := rfl
        obtain ⟨y, hy⟩ : ∃ y, x.2[md_no (U.drop (u + 1)) w % x.2.length]? = some y := ⟨_, List.getElem?_eq_getElem hmod⟩
        have hval : X0.1 121 ((8 * h + u) * 64 + md_no (U.drop (u + 1)) w % x.2.length) = md_val U w u := by
          rw [show (8 * h + u) * 64 = 64 * (8 * h + u) by omega, q3 _ y hy]
          unfold md_val
          rw [hx]
          dsimp only
          rw [List.getD_eq_getElem?_getD, hy]
          rfl
        have hne : ∀ u' w', u' < U.length → w' < M → (u' ≠ u ∨ w' ≠ w) → (8 * h + u') * 1024 + w' ≠ (8 * h + u) * 1024 + w := fun u' w' a1 a2 a3 => by omega
        have hdr : U.drop u = x :: U.drop (u + 1) := by
          rw [List.drop_eq_getElem_cons (by omega)]
          rw [List.getElem?_eq_getElem (by omega)] at hx
          rw [Option.some.inj hx]
        refine ih49 w u y3 x43 x45 X39 h3 hw (by omega) ?_ ?_ (by rw [e39]; exact e2) (fun q k hq => by rw [e39, fx_rIn hq]; exact e1 q k hq) (fun k hk => ?_) (fun u' w' hu' hw' => ?_) (fun u' hu' hi' => ?_) g3
        · rw [e43, fx_div h4 q1 (by omega), hdr]
          rfl
        · rw [e45, fx_add (by omega) (by omega), h5', em]; omega
        · rw [e39, fx_rIk (hk u w (by omega) hw)]
          exact hfr k hk
        · rw [e39, fx_rIk (hne u' w' hu' (by omega) (Or.inr (by omega)))]
          exact hv u' w' hu' hw'
        · by_cases z : u' = u
          · rw [z, e39, fx_rIe]
            exact hval
          · rw [e39, fx_rIk (hne u' w hu' hw (Or.inl z))]
            exact hvi u' hu' (by omega)
theorem rx_225 {p1 p2 v : Int32} {a b : Nat} (h1 : p1.toInt = (a : Int)) (h2 : p2.toInt = (b : Int)) (hb : a ≤ 100 ∧ b ≤ 100) (g : gx_225 p1 p2 X v X') : X' = X ∧ v.toInt = ((32 * (30 * a + b) : Nat) : Int) := by
  have e : (p1 * ((Int8.ofInt 30).toInt32) + p2).toInt = ((a * 30 + b : Nat) : Int) := rx_lin h1 rfl h2 (by omega)
  have e2 := rx_i32 e (by omega)
  refine ⟨g.2, ?_⟩
  rw [g.1, e2, show a * 30 + b = 30 * a + b by omega]
/-- bits of all ROWS -/
def rx_D (h T : Nat) (R : Nat → Nat) (k : Nat) : Prop := ∃ t r, t < T ∧ r < R t ∧ k = 30 * (10 * h + t) + r
theorem rx_224b (h1 : y1.toInt = (h : Int)) (hh : h ≤ 1) (hin : (X0.1 117 37).toInt = (h : Int)) (hM : (X0.1 122 h).toInt = (M : Int)) (hM4 : M ≤ 1024) (hM1 : 1 ≤ M) (h2 : y2.toInt = (last : Int)) (hl : 1 ≤ last) (hT : (X0.1 124 h).toInt = (T : Int)) (hT10 : T ≤ 10) (hR : ∀ t, t < T → (X0.1 131 (10 * h + t)).toInt = (R t : Int) ∧ R t ≤ 30) : ∀ n : Nat, (∀ (t : Nat) (y3 : Int32) (X : fx_X), y3.toInt = (t : Int) → t ≤ T → X.2 = X0.2 → (∀ q k, q ≠ 136 → X.1 q k = X0.1 q k) → (∀ k b, rx_D h T R k → k < 30 * (10 * h + t) → b < M → fx_bt (X.1 136) (32 * k) b = fx_bt (X0.1 136) (32 * k) (b / last)) → (∀ k b, b < 1024 → ¬ (rx_D h T R k ∧ k < 30 * (10 * h + t)) → fx_bt (X.1 136) (32 * k) b = fx_bt (X0.1 136) (32 * k) b) → gxF_224 n 123 [y1, y2, y3] [] [] X u1 X' → ∃ n2 X2, gxF_224 n2 187 [y1, y2, Int32.ofInt 0] [] [] X2 u1 X' ∧ X2.2 = X0.2 ∧ (∀ q k, q ≠ 136 → X2.1 q k = X0.1 q k) ∧ (∀ k b, rx_D h T R k → b < M → fx_bt (X2.1 136) (32 * k) b = fx_bt (X0.1 136) (32 * k) (b / last)) ∧ ∀ k b, b < 1024 → ¬ rx_D h T R k → fx_bt (X2.1 136) (32 * k) b = fx_bt (X0.1 136) (32 * k) b) ∧ (∀ (t r : Nat) (y3 y4 y5 : Int32) (X : fx_X), y3.toInt = (t : Int) → t < T → y4.toInt = ((10 * h + t : Nat) : Int) → y5.toInt = (r : Int) → r ≤ R t → X.2 = X0.2 → (∀ q k, q ≠ 136 → X.1 q k = X0.1 q k) → (∀ k b, rx_D h T R k → k < 30 * (10 * h + t) + r → b < M → fx_bt (X.1 136) (32 * k) b = fx_bt (X0.1 136) (32 * k) (b / last)) → (∀ k b, b < 1024 → ¬ (rx_D h T R k ∧ k < 30 * (10 * h + t) + r) → fx_bt (X.1 136) (32 * k) b = fx_bt (X0.1 136) (32 * k) b) → gxF_224 n 144 [y1, y2, y3, y4, y5] [] [] X u1 X' → ∃ n2 X2, gxF_224 n2 187 [y1, y2, Int32.ofInt 0] [] [] X2 u1 X' ∧ X2.2 = X0.2 ∧ (∀ q k, q ≠ 136 → X2.1 q k = X0.1 q k) ∧ (∀ k b, rx_D h T R k → b < M → fx_bt (X2.1 136) (32 * k) b = fx_bt (X0.1 136) (32 * k) (b / last)) ∧ ∀ k b, b < 1024 → ¬ rx_D h T R k → fx_bt (X2.1 136) (32 * k) b = fx_bt (X0.1 136) (32 * k) b) := by
  intro n
  induction n with
  | zero => exact ⟨fun _ _ _ _ _ _ _ _ _ g => g.elim, fun _ _ _ _ _ _ _ _ _ _ _ _ _ _ _ g => g.elim⟩
  | succ n ih =>
    obtain ⟨ih123, ih144⟩ := ih
    refine ⟨fun t y3 X h3 ht e2 e1 hd hn g => ?_, fun t r y3 y4 y5 X h3 ht h4 h5 hr e2 e1 hd hn g => ?_⟩
    · replace g := gxO_224_123 g
      unfold gxT_224_123 at g
      rw [fx_in h1, e1 124 h (by decide)] at g
      replace g := g.2
      rcases fy_ifd g with ⟨c1, g1⟩ | ⟨c1, g1⟩
      · obtain ⟨x24, e24, g2⟩ := g1
        refine ih144 t 0 y3 x24 _ X h3 (by omega) ?_ rfl (Nat.zero_le _) e2 e1 hd hn g2
        rw [e24, show 10 * h + t = h * 10 + t by omega]
        exact rx_lin h1 rfl h3 (by omega)
      · have : t = T := by omega
        subst this
        refine ⟨n, X, g1, e2, e1, fun k b hk hb => hd k b hk ?_ hb, fun k b hb hk => hn k b hb (fun z => hk z.1)⟩
        obtain ⟨t', r', a1, a2, a3⟩ := hk
        have := (hR t' a1).2
        omega
    · replace g := gxO_224_144 g
      unfold gxT_224_144 at g
      rw [fx_in h4, e1 131 _ (by decide)] at g
      replace g := g.2
      obtain ⟨hRt, hR30⟩ := hR t ht
      rcases fy_ifd g with ⟨c1, g1⟩ | ⟨c1, g1⟩
      · obtain ⟨w62, X61, r1, w64, X63, r2, x65, e65, g2⟩ := g1
        have hrt : r < R t := by omega
        obtain ⟨e61, ev⟩ := rx_225 h4 h5 (by omega) r1
        rw [e61] at r2
        obtain ⟨b1, b2, b3⟩ := rx_226 (k := 30 * (10 * h + t) + r) (r := 136) (by rw [e1 117 37 (by decide)]; exact hin) (by rw [e1 122 h (by decide)]; exact hM) hl hM4 hM1 ev (by omega) h2 (by decide) r2
        have hnew : rx_D h T R (30 * (10 * h + t) + r) := ⟨t, r, ht, hrt, rfl⟩
        refine ih144 t (r + 1) y3 y4 x65 X63 h3 ht h4 (by rw [e65]; exact cx_in1 h5 (by omega)) hrt (b1.trans e2) (fun q k hq => (b2 q k hq).trans (e1 q k hq)) (fun k b hk hk2 hb => ?_) (fun k b hb hk => ?_) g2
        · rw [b3 k b (by omega)]
          by_cases z : k = 30 * (10 * h + t) + r
          · rw [if_pos ⟨z, hb⟩, z]
            have : b / last ≤ b := Nat.div_le_self _ _
            exact hn _ _ (by omega) (fun y => by have := y.2; omega)
          · rw [if_neg (fun y => z y.1)]
            exact hd k b hk (by omega) hb
        · rw [b3 k b hb, if_neg (fun y => hk ⟨by rw [y.1]; exact hnew, by have := y.1; omega⟩)]
          exact hn k b hb (fun y => hk ⟨y.1, by have := y.2; omega⟩)
      · obtain ⟨x58, e58, g2⟩ := g1
        have : r = R t := by omega
        subst this
        have hgap : ∀ k, rx_D h T R k → k < 30 * (10 * h + (t + 1)) → k < 30 * (10 * h + t) + R t := fun k hk hk2 => by
          obtain ⟨t', r', a1, a2, a3⟩ := hk
          have := (hR t' a1).2
          by_cases z : t' = t
          · subst z; omega
          · omega
        refine ih123 (t + 1) x58 X (by rw [e58]; exact cx_in1 h3 (by omega)) ht e2 e1 (fun k b hk hk2 hb => hd k b hk (hgap k hk hk2) hb) (fun k b hb hk => hn k b hb (fun y => hk ⟨y.1, by have := y.2; omega⟩)) g2
/-- bits of all PARTS -/
theorem rx_224p (h1 : y1.toInt = (h : Int)) (hh : h ≤ 1) (hin : (X0.1 117 37).toInt = (h : Int)) (hM : (X0.1 122 h).toInt = (M : Int)) (hM4 : M ≤ 1024) (hM1 : 1 ≤ M) (h2 : y2.toInt = (last : Int)) (hl : 1 ≤ last) (hP : (X0.1 127 h).toInt = (pn : Int)) (hP20 : pn ≤ 20) : ∀ (n p : Nat) (y3 : Int32) (X : fx_X), y3.toInt = (p : Int) → p ≤ pn → X.2 = X0.2 → (∀ q k, q ≠ 129 → X.1 q k = X0.1 q k) → (∀ k b, b < 1024 → fx_bt (X.1 129) (32 * k) b = if (20 * h ≤ k ∧ k < 20 * h + p) ∧ b < M then fx_bt (X0.1 129) (32 * k) (b / last) else fx_bt (X0.1 129) (32 * k) b) → gxF_224 n 187 [y1, y2, y3] [] [] X u1 X' → X'.2 = X0.2 ∧ (∀ q k, q ≠ 129 → X'.1 q k = X0.1 q k) ∧ ∀ k b, b < 1024 → fx_bt (X'.1 129) (32 * k) b = if (20 * h ≤ k ∧ k < 20 * h + pn) ∧ b < M then fx_bt (X0.1 129) (32 * k) (b / last) else fx_bt (X0.1 129) (32 * k) b := by
  intro n
  induction n with
  | zero => intro p y3 X _ _ _ _ _ g; exact g.elim
  | succ n ih =>
    intro p y3 X h3 hp e2 e1 hB g
    replace g := gxO_224_187 g
    unfold gxT_224_187 at g
    rw [fx_in h1, e1 127 h (by decide)] at g
    replace g := g.2
    rcases fy_ifd g with ⟨c1, g1⟩ | ⟨c1, g1⟩
    · obtain ⟨w52, X51, r2, x53, e53, g2⟩ := g1
      have e : (y1 * ((Int8.ofInt 20).toInt32) + y3).toInt = ((h * 20 + p : Nat) : Int) := rx_lin h1 rfl h3 (by omega)
      have ev := rx_i32 e (by omega)
      obtain ⟨b1, b2, b3⟩ := rx_226 (k := h * 20 + p) (r := 129) (by rw [e1 117 37 (by decide)]; exact hin) (by rw [e1 122 h (by decide)]; exact hM) hl hM4 hM1 ev (by omega) h2 (by decide) r2
      refine ih (p + 1) x53 X51 (by rw [e53]; exact cx_in1 h3 (by omega)) (by omega) (b1.trans e2) (fun q k hq => (b2 q k hq).trans (e1 q k hq)) (fun k b hb => ?_) g2
      rw [b3 k b hb]
      have hbl : b / last ≤ b := Nat.div_le_self _ _
      by_cases z : k = h * 20 + p
      · by_cases z2 : b < M
        · rw [if_pos ⟨z, z2⟩, if_pos (by omega), z, hB _ _ (by omega), if_neg (by omega)]
        · rw [if_neg (fun y => z2 y.2), if_neg (fun y => z2 y.2), hB _ _ hb, if_neg (fun y => z2 y.2)]
      · rw [if_neg (fun y => z y.1), hB _ _ hb]
        by_cases z3 : (20 * h ≤ k ∧ k < 20 * h + p) ∧ b < M
        · rw [if_pos z3, if_pos (by omega)]
        · rw [if_neg z3, if_neg (by omega)]
    · rw [g1]
      have : p = pn := by omega
      subst this
      exact ⟨e2, e1, hB⟩
end DD15
