/-! THE REFERENCE: - of two queries -/
def rx_cc (h : Nat) (X : fx_X) (a c b : Nat) : Int32 := rx_cw h X a (2, Int32.ofInt (c : Int)) b
def rx_eqc (h : Nat) (X : fx_X) (a a' n b : Nat) : Bool := (List.range n).all (fun c => rx_cc h X a c b == rx_cc h X a' c b)
def rx_hit (h : Nat) (X : fx_X) (a s' n b k : Nat) : Bool := (List.range k).any (fun i => fx_bt (X.1 136) (32 * (30 * s' + i)) b && rx_eqc h X a (30 * s' + i) n b)
section DD38
variable {P : md_P} {X X' X0 X1 X2 : fx_X} {l n m t d k s s1 s2 r h M a b N R R1 R2 C i kw : Nat} {v w p1 p2 p3 p4 z y2 y3 y4 y5 y6 : Int32} {l8 l9 : List Int64} {A B : List md_Row}
theorem rx_eqc_s : rx_eqc h X a k (n + 1) b = (rx_eqc h X a k n b && (rx_cc h X a n b == rx_cc h X k n b)) := by
  unfold rx_eqc
  rw [List.range_succ, List.all_append]
  simp
theorem rx_hit_s : rx_hit h X a s n b (k + 1) = (rx_hit h X a s n b k || (fx_bt (X.1 136) (32 * (30 * s + k)) b && rx_eqc h X a (30 * s + k) n b)) := by
  unfold rx_hit
  rw [List.range_succ, List.any_append]
  simp
theorem rx_eqc_eq (e123 : X'.1 123 = X.1 123) (e134 : X'.1 134 = X.1 134) (e135 : X'.1 135 = X.1 135) : rx_eqc h X' a k n b = rx_eqc h X a k n b := by
  unfold rx_eqc rx_cc
  congr 1
  funext c
  rw [rx_cw_eq e123 e134 e135, rx_cw_eq e123 e134 e135]
theorem rx_258 (hh : (X.1 117 37).toInt = (h : Int)) (hh1 : h ≤ 1) (h1 : p1.toInt = (s : Int)) (hs : 20 ≤ s ∧ s < 50) (h2 : p2.toInt = (r : Int)) (hr : r < 30) (h3 : p3.toInt = (C : Int)) (h4 : p4.toInt = (b : Int)) (hb : b < 1024) (hx : rx_cx X (30 * s + r) (2, Int32.ofInt (C : Int))) (g : gx_258 p1 p2 p3 p4 X v X') : X' = X ∧ v = rx_cc h X (30 * s + r) C b := by
  have hC : C < 2147483648 := by have := p3.toInt_lt; omega
  have e : p3 = Int32.ofInt (C : Int) := fx_inj (by rw [h3, fx_ofI (by omega) (by omega)])
  have g' : gx_257 p1 p2 (Int32.ofInt 2) p3 p4 X v X' := by
    unfold gx_257
    rw [if_pos (by decide)]
    exact ⟨v, X', g, rfl, rfl⟩
  exact rx_257 (x := (2, Int32.ofInt (C : Int))) hh hh1 h1 hs h2 hr rfl e h4 hb hx g'
/-- COLUMNS compared -/
theorem rx_279c (hh : (X.1 117 37).toInt = (h : Int)) (hh1 : h ≤ 1) (h1 : p1.toInt = (s : Int)) (hs : 20 ≤ s ∧ s < 48) (h2 : y2.toInt = (kw : Int)) (hkw : kw < 1024) (h3 : y3.toInt = (r : Int)) (hr : r < 30) (h4 : y4.toInt = (i : Int)) (hi : i < 30) (hC : (X.1 132 s).toInt = (C : Int)) (hC8 : C ≤ 8) (hx : ∀ c, c < C → rx_cx X (30 * s + r) (2, Int32.ofInt (c : Int)) ∧ rx_cx X (30 * (s + 1) + i) (2, Int32.ofInt (c : Int))) : ∀ (n k : Nat) (y5 y6 : Int32), n ≤ N → y6.toInt = (k : Int) → k ≤ C → (y5.toInt = 0 → (fx_bt (X.1 136) (32 * (30 * (s + 1) + i)) kw && rx_eqc h X (30 * s + r) (30 * (s + 1) + i) C kw) = false) → (y5.toInt ≠ 0 → fx_bt (X.1 136) (32 * (30 * (s + 1) + i)) kw = true ∧ rx_eqc h X (30 * s + r) (30 * (s + 1) + i) k kw = true) → gxF_279 p1 n 82 [y2, y3, y4, y5, y6] [] [] X v X' → ∃ n2 X2 x, n2 + 1 ≤ N ∧ x = y4 + Int32.ofInt 1 ∧ gxF_279 p1 n2 30 [y2, y3, x] [] [] X2 v X' ∧ (((fx_bt (X.1 136) (32 * (30 * (s + 1) + i)) kw && rx_eqc h X (30 * s + r) (30 * (s + 1) + i) C kw) = false ∧ X2 = X) ∨ ((fx_bt (X.1 136) (32 * (30 * (s + 1) + i)) kw && rx_eqc h X (30 * s + r) (30 * (s + 1) + i) C kw) = true ∧ rx_wb 136 (30 * s + r) kw false X X2)) := by
  have hp' : (p1 + Int32.ofInt 1).toInt = ((s + 1 : Nat) : Int) := cx_in1 h1 (by omega)
  intro n
  induction n with
  | zero => intro k y5 y6 _ _ _ _ _ g; exact g.elim
  | succ n ih =>
    intro k y5 y6 hN hk hkC h50 h51 g
    replace g := gxO_279_82 g
    unfold gxT_279_82 at g
    rw [fx_in h1, hC] at g
    replace g := g.2
    rcases fy_ifd g with ⟨c1, g1⟩ | ⟨c1, g1⟩
    · rcases fy_ifd g1 with ⟨c2, g2⟩ | ⟨c2, g2⟩
      · rw [if_pos c2] at g2
        obtain ⟨x48, e48, g3⟩ := g2
        exact ⟨n, X, x48, by omega, e48, g3, Or.inl ⟨h50 c2, rfl⟩⟩
      · obtain ⟨w58, X57, r1, w60, X59, r2, g3⟩ := g2
        have hk2 : k < C := by omega
        obtain ⟨f1, f2⟩ := hx k hk2
        obtain ⟨e57, v58⟩ := rx_258 hh hh1 h1 (by omega) h3 hr hk h2 hkw f1 r1
        subst e57
        obtain ⟨e59, v60⟩ := rx_258 hh hh1 hp' (by omega) h4 hi hk h2 hkw f2 r2
        subst e59
        obtain ⟨b1, b2⟩ := h51 c2
        rcases fy_ifd g3 with ⟨c3, g4⟩ | ⟨c3, g4⟩
        · obtain ⟨x66, e66, g5⟩ := g4
          have heq : w58 = w60 := fx_inj c3
          refine ih (k + 1) _ x66 (by omega) (by rw [e66]; exact cx_in1 hk (by omega)) (by omega) (fun z => absurd z (by decide)) (fun _ => ⟨b1, ?_⟩) g5
          rw [rx_eqc_s, b2, Bool.true_and, ← v58, ← v60, heq]
          exact beq_self_eq_true _
        · obtain ⟨x63, e63, g5⟩ := g4
          refine ih (k + 1) _ x63 (by omega) (by rw [e63]; exact cx_in1 hk (by omega)) (by omega) (fun _ => ?_) (fun z => absurd rfl z) g5
          have hne : rx_cc h X59 (30 * s + r) k kw ≠ rx_cc h X59 (30 * (s + 1) + i) k kw := fun e => c3 (by rw [v58, v60, e])
          cases hq : rx_eqc h X59 (30 * s + r) (30 * (s + 1) + i) C kw with
          | false => exact Bool.and_false _
          | true =>
            unfold rx_eqc at hq
            exact absurd (beq_iff_eq.mp (List.all_eq_true.mp hq k (List.mem_range.mpr hk2))) hne
    · have : k = C := by omega
      subst this
      rcases fy_ifd g1 with ⟨c2, g2⟩ | ⟨c2, g2⟩
      · obtain ⟨x37, e37, g3⟩ := g2
        exact ⟨n, X, x37, by omega, e37, g3, Or.inl ⟨h50 c2, rfl⟩⟩
      · obtain ⟨w41, X40, r1, w43, X42, r2, x44, e44, g3⟩ := g2
        obtain ⟨b1, b2⟩ := h51 c2
        obtain ⟨e40, v41⟩ := rx_225r h1 h3 (by omega) r1
        subst e40
        obtain ⟨hwb, -⟩ := rx_228 (k := 30 * s + r) v41 h2 (by omega) hkw r2
        exact ⟨n, X42, x44, by omega, e44, g3, Or.inr ⟨by rw [b1, b2]; rfl, hwb⟩⟩
/-- one ROW in one WORLD -/
theorem rx_279a (hh : (X0.1 117 37).toInt = (h : Int)) (hh1 : h ≤ 1) (h1 : p1.toInt = (s : Int)) (hs : 20 ≤ s ∧ s < 48) (h2 : y2.toInt = (kw : Int)) (hkw : kw < 1024) (h3 : y3.toInt = (r : Int)) (hr : r < 30) (hR2 : (X0.1 131 (s + 1)).toInt = (R2 : Int)) (hR30 : R2 ≤ 30) (hC : (X0.1 132 s).toInt = (C : Int)) (hC8 : C ≤ 8) (hx : ∀ c, c < C → rx_cx X0 (30 * s + r) (2, Int32.ofInt (c : Int)) ∧ ∀ i, i < R2 → rx_cx X0 (30 * (s + 1) + i) (2, Int32.ofInt (c : Int))) : ∀ (d n k : Nat) (y4 : Int32) (X : fx_X), n ≤ d → n ≤ N → y4.toInt = (k : Int) → k ≤ R2 → X.2 = X0.2 → (∀ q i, q ≠ 136 → X.1 q i = X0.1 q i) → (∀ k' b, b < 1024 → fx_bt (X.1 136) (32 * k') b = if k' = 30 * s + r ∧ b = kw then (fx_bt (X0.1 136) (32 * k') b && !rx_hit h X0 (30 * s + r) (s + 1) C kw k) else fx_bt (X0.1 136) (32 * k') b) → gxF_279 p1 n 30 [y2, y3, y4] [] [] X v X' → ∃ n2 X2 x, n2 + 1 ≤ N ∧ x = y3 + Int32.ofInt 1 ∧ gxF_279 p1 n2 17 [y2, x] [] [] X2 v X' ∧ X2.2 = X0.2 ∧ (∀ q i, q ≠ 136 → X2.1 q i = X0.1 q i) ∧ ∀ k' b, b < 1024 → fx_bt (X2.1 136) (32 * k') b = if k' = 30 * s + r ∧ b = kw then (fx_bt (X0.1 136) (32 * k') b && !rx_hit h X0 (30 * s + r) (s + 1) C kw R2) else fx_bt (X0.1 136) (32 * k') b := by
  have hp' : (p1 + Int32.ofInt 1).toInt = ((s + 1 : Nat) : Int) := cx_in1 h1 (by omega)
  intro d
  induction d with
  | zero =>
    intro n k y4 X hn _ _ _ _ _ _ g
    cases n with
    | zero => exact g.elim
    | succ n => omega
  | succ d ih =>
    intro n k y4 X hn hN hk hkR e2 e1 hB g
    cases n with
    | zero => exact g.elim
    | succ n =>
      have eq : ∀ q, q ≠ 136 → X.1 q = X0.1 q := fun q hq => funext fun i => e1 q i hq
      replace g := gxO_279_30 g
      unfold gxT_279_30 at g
      rw [fx_in hp', e1 131 _ (by decide)] at g
      replace g := g.2
      rcases fy_ifd g with ⟨c1, g1⟩ | ⟨c1, g1⟩
      · have hk2 : k < R2 := by omega
        obtain ⟨w20, X19, q1, w22, X21, q2, g2⟩ := g1
        obtain ⟨e19, v20⟩ := rx_225r h1 h3 (by omega) q1
        subst e19
        obtain ⟨e21, v22⟩ := rx_227 (a := 32 * (30 * s + r)) (b := kw) v20 h2 (by omega) (by omega) q2
        subst e21
        rcases fy_ifd g2 with ⟨c2, g3⟩ | ⟨c2, g3⟩
        · obtain ⟨x24, e24, g4⟩ := g3
          refine ⟨n, X21, x24, by omega, e24, g4, e2, e1, fun k' b hb => ?_⟩
          rw [hB k' b hb]
          by_cases z : k' = 30 * s + r ∧ b = kw
          · obtain ⟨z1, z2⟩ := z
            subst z1 z2
            rw [if_pos ⟨rfl, rfl⟩, if_pos ⟨rfl, rfl⟩]
            have hb0 : fx_bt (X21.1 136) (32 * (30 * s + r)) b = false := by
              cases hq : fx_bt (X21.1 136) (32 * (30 * s + r)) b with
              | false => rfl
              | true => rw [v22, hq, if_pos rfl] at c2; exact absurd c2 (by decide)
            rw [hB _ _ hb, if_pos ⟨rfl, rfl⟩] at hb0
            rw [hb0]
            cases hA : fx_bt (X0.1 136) (32 * (30 * s + r)) b with
            | false => rfl
            | true =>
              rw [hA, Bool.true_and] at hb0
              have hhit : rx_hit h X0 (30 * s + r) (s + 1) C b k = true := by
                cases hq : rx_hit h X0 (30 * s + r) (s + 1) C b k with
                | true => rfl
                | false => rw [hq] at hb0; cases hb0
              have : rx_hit h X0 (30 * s + r) (s + 1) C b R2 = true := by
                unfold rx_hit at hhit ⊢
                obtain ⟨i, hi1, hi2⟩ := List.any_eq_true.mp hhit
                exact List.any_eq_true.mpr ⟨i, List.mem_range.mpr (by have := List.mem_range.mp hi1; omega), hi2⟩
              rw [this]
              rfl
          · rw [if_neg z, if_neg z]
        · obtain ⟨w28, X27, q3, w30, X29, q4, g4⟩ := g3
          obtain ⟨e27, v28⟩ := rx_225r hp' hk (by omega) q3
          subst e27
          obtain ⟨e29, v30⟩ := rx_227 (a := 32 * (30 * (s + 1) + k)) (b := kw) v28 h2 (by omega) (by omega) q4
          subst e29
          have ecx : ∀ a x, rx_cx X0 a x → rx_cx X29 a x := fun a x hx => by unfold rx_cx; rw [eq 134 (by decide), eq 135 (by decide)]; exact hx
          obtain ⟨n2, X2, x, hn2, ex, g5, h5⟩ := rx_279c (N := n) (X := X29) (i := k) (C := C) (r := r) (kw := kw) (h := h) (by rw [e1 117 37 (by decide)]; exact hh) hh1 h1 hs h2 hkw h3 hr hk (by omega) (by rw [e1 132 _ (by decide)]; exact hC) hC8 (fun c hc => ⟨ecx _ _ (hx c hc).1, ecx _ _ ((hx c hc).2 k hk2)⟩) n 0 w30 _ (Nat.le_refl _) rfl (Nat.zero_le _) (fun z => by
            cases hq : fx_bt (X29.1 136) (32 * (30 * (s + 1) + k)) kw with
            | false => rfl
            | true => rw [v30, hq, if_pos rfl] at z; exact absurd z (by decide)) (fun z => by
            cases hq : fx_bt (X29.1 136) (32 * (30 * (s + 1) + k)) kw with
            | true => exact ⟨rfl, rfl⟩
            | false => rw [v30, hq, if_neg (by decide)] at z; exact absurd rfl z) g4
          have eB : fx_bt (X29.1 136) (32 * (30 * (s + 1) + k)) kw = fx_bt (X0.1 136) (32 * (30 * (s + 1) + k)) kw := by rw [hB _ _ hkw, if_neg (by omega)]
          have eE : rx_eqc h X29 (30 * s + r) (30 * (s + 1) + k) C kw = rx_eqc h X0 (30 * s + r) (30 * (s + 1) + k) C kw := rx_eqc_eq (eq 123 (by decide)) (eq 134 (by decide)) (eq 135 (by decide))
          rw [eB, eE] at h5
          have hk1 : x.toInt = ((k + 1 : Nat) : Int) := by rw [ex]; exact cx_in1 hk (by omega)
          rcases h5 with ⟨hF, eX⟩ | ⟨hT, b1, b2, b3⟩
          · subst eX
            refine ih n2 (k + 1) x _ (by omega) (by omega) hk1 (by omega) e2 e1 (fun k' b hb => ?_) g5
            rw [hB k' b hb, rx_hit_s, hF, Bool.or_false]
          · refine ih n2 (k + 1) x X2 (by omega) (by omega) hk1 (by omega) (b1.trans e2) (fun q i hq => (b2 q i hq).trans (e1 q i hq)) (fun k' b hb => ?_) g5
            rw [b3 k' b hb, hB k' b hb, rx_hit_s, hT, Bool.or_true]
            by_cases z : k' = 30 * s + r ∧ b = kw
            · rw [if_pos z, if_pos z]
              exact (Bool.and_false _).symm
            · rw [if_neg z, if_neg z, if_neg z]
      · have : k = R2 := by omega
        subst this
        obtain ⟨x16, e16, g2⟩ := g1
        exact ⟨n, X, x16, by omega, e16, g2, e2, e1, hB⟩
end DD38
