/-! THE REFERENCE: a test, worked out -/
/-- the value of a side in a ROW, in a WORLD of those told -/
def rx_cw (h : Nat) (X : fx_X) (a : Nat) (x : md_Sd) (b : Nat) : Int32 := if x.1 = 2 then rx_vw h X ((X.1 134 (8 * a + x.2.toInt.toNat)).toInt, X.1 135 (8 * a + x.2.toInt.toNat)) b else rx_vw h X x b
/-- what a side may be, in a ROW -/
def rx_cx (X : fx_X) (a : Nat) (x : md_Sd) : Prop := x.1 = 0 ∨ (x.1 = 1 ∧ 0 ≤ x.2.toInt ∧ x.2.toInt < 8) ∨ (x.1 = 2 ∧ 0 ≤ x.2.toInt ∧ x.2.toInt < 8 ∧ ((X.1 134 (8 * a + x.2.toInt.toNat)).toInt = 0 ∨ ((X.1 134 (8 * a + x.2.toInt.toNat)).toInt = 1 ∧ 0 ≤ (X.1 135 (8 * a + x.2.toInt.toNat)).toInt ∧ (X.1 135 (8 * a + x.2.toInt.toNat)).toInt < 8)))
section DD32
variable {P : md_P} {X X' X0 X1 X2 X4 : fx_X} {K : List md_Sy} {c c' : md_C} {nm : md_Nm} {cs cs' : md_CS} {ws ws' : md_WS} {j j' near l l2 n n1 m t d k s s1 s2 r h M a b N : Nat} {v w p1 p2 p3 p4 p5 z y3 y4 y5 : Int32} {u : Unit} {x x1 x2 : md_Sd} {rl : Int} {ts : List md_Tm}
theorem rx_cw_eq (e123 : X'.1 123 = X.1 123) (e134 : X'.1 134 = X.1 134) (e135 : X'.1 135 = X.1 135) : rx_cw h X' a x b = rx_cw h X a x b := by
  unfold rx_cw rx_vw
  rw [e123, e134, e135]
theorem rx_257 (hh : (X.1 117 37).toInt = (h : Int)) (hh1 : h ≤ 1) (h1 : p1.toInt = (s : Int)) (hs : 20 ≤ s ∧ s < 50) (h2 : p2.toInt = (r : Int)) (hr : r < 30) (h3 : p3.toInt = x.1) (h4 : p4 = x.2) (h5 : p5.toInt = (b : Int)) (hb : b < 1024) (hx : rx_cx X (30 * s + r) x) (g : gx_257 p1 p2 p3 p4 p5 X v X') : X' = X ∧ v = rx_cw h X (30 * s + r) x b := by
  unfold gx_257 at g
  unfold rx_cw
  rcases fy_ifd g with ⟨c1, g1⟩ | ⟨c1, g1⟩
  · obtain ⟨w6, X5, r1, e1, e2⟩ := g1
    have hx2 : x.1 = 2 := by omega
    obtain ⟨w3, X2, q1, w6', X5', q2, -, -, w12, X11, q3, e3, e4⟩ := r1
    have hxx : 0 ≤ x.2.toInt ∧ x.2.toInt < 8 ∧ ((X.1 134 (8 * (30 * s + r) + x.2.toInt.toNat)).toInt = 0 ∨ ((X.1 134 (8 * (30 * s + r) + x.2.toInt.toNat)).toInt = 1 ∧ 0 ≤ (X.1 135 (8 * (30 * s + r) + x.2.toInt.toNat)).toInt ∧ (X.1 135 (8 * (30 * s + r) + x.2.toInt.toNat)).toInt < 8)) := by
      rcases hx with y | y | y
      · omega
      · omega
      · exact y.2
    have i4 : p4.toInt = (x.2.toInt.toNat : Int) := by rw [h4]; omega
    obtain ⟨e2', v3⟩ := rx_236 h1 h2 i4 (by omega) q1
    subst e2'
    have e59 : X5' = X2 ∧ w6' = X2.1 117 37 := by
      unfold gx_259 at q2
      have c20 : ¬ p1.toInt < 20 := by omega
      rw [if_neg c20] at q2
      exact ⟨q2.2, q2.1⟩
    obtain ⟨e5, e6⟩ := e59
    subst e5
    rw [fx_in v3] at q3
    obtain ⟨e11, v12⟩ := rx_240 (x := ((X5'.1 134 (8 * (30 * s + r) + x.2.toInt.toNat)).toInt, X5'.1 135 (8 * (30 * s + r) + x.2.toInt.toNat))) (by rw [e6]; exact hh) hh1 rfl rfl h5 hb hxx.2.2 q3
    rw [if_pos hx2, e1, e3, v12, e2, e4, e11]
    exact ⟨rfl, rfl⟩
  · obtain ⟨w4, X3, r1, e1, e2⟩ := g1
    have hx2 : ¬ x.1 = 2 := by omega
    obtain ⟨e3, v4⟩ := rx_240 (x := x) hh hh1 h3 h4 h5 hb (by
      rcases hx with y | y | y
      · exact Or.inl y
      · exact Or.inr y
      · omega) r1
    rw [if_neg hx2, e1, v4, e2, e3]
    exact ⟨rfl, rfl⟩
/-- one ROW -/
theorem rx_254w (h1 : p1.toInt = (s : Int)) (hs : 20 ≤ s ∧ s < 50) (hh : (X0.1 117 37).toInt = (h : Int)) (hh1 : h ≤ 1) (hM : (X0.1 122 h).toInt = (M : Int)) (hM4 : M ≤ 1024) (hr : r < 30) {y6 : Int32} (h6 : y6.toInt = (r : Int)) (h3 : y3.toInt = x1.1) (h4 : y4 = x1.2) (hx1 : rx_cx X0 (30 * s + r) x1) (h52 : (X0.1 117 52).toInt = x2.1) (h53 : X0.1 117 53 = x2.2) (hx2 : rx_cx X0 (30 * s + r) x2) (hrl : rx_rl y5.toInt rl) : ∀ (n k : Nat) (y7 : Int32) (X : fx_X), n ≤ N → y7.toInt = (k : Int) → k ≤ M → X.2 = X0.2 → (∀ q i, q ≠ 136 → X.1 q i = X0.1 q i) → (∀ k' b, b < 1024 → fx_bt (X.1 136) (32 * k') b = if k' = 30 * s + r ∧ b < k ∧ md_cmp rl (rx_cw h X0 (30 * s + r) x1 b) (rx_cw h X0 (30 * s + r) x2 b) = false then false else fx_bt (X0.1 136) (32 * k') b) → gxF_254 p1 n 88 [y3, y4, y5, y6, y7] [] [] X v X' → ∃ n2 X2 x46, n2 ≤ N ∧ x46 = y6 + Int32.ofInt 1 ∧ gxF_254 p1 n2 67 [y3, y4, y5, x46] [] [] X2 v X' ∧ X2.2 = X0.2 ∧ (∀ q i, q ≠ 136 → X2.1 q i = X0.1 q i) ∧ ∀ k' b, b < 1024 → fx_bt (X2.1 136) (32 * k') b = if k' = 30 * s + r ∧ b < M ∧ md_cmp rl (rx_cw h X0 (30 * s + r) x1 b) (rx_cw h X0 (30 * s + r) x2 b) = false then false else fx_bt (X0.1 136) (32 * k') b := by
  intro n
  induction n with
  | zero => intro k y7 X _ _ _ _ _ _ g; exact g.elim
  | succ n ih =>
    intro k y7 X hN hk hkM e2 e1 hB g
    have eq : ∀ q, q ≠ 136 → X.1 q = X0.1 q := fun q hq => funext fun i => e1 q i hq
    replace g := gxO_254_88 g
    unfold gxT_254_88 at g
    rw [e1 117 37 (by decide), fx_in hh, e1 122 h (by decide)] at g
    replace g := g.2
    rcases fy_ifd g with ⟨c1, g1⟩ | ⟨c1, g1⟩
    · obtain ⟨w49, X48, r1, w51, X50, r2, w53, X52, r3, g2⟩ := g1
      have ecx : ∀ x, rx_cx X0 (30 * s + r) x → rx_cx X (30 * s + r) x := fun x hx => by unfold rx_cx; rw [eq 134 (by decide), eq 135 (by decide)]; exact hx
      have ecw : ∀ x, rx_cw h X (30 * s + r) x k = rx_cw h X0 (30 * s + r) x k := fun x => rx_cw_eq (eq 123 (by decide)) (eq 134 (by decide)) (eq 135 (by decide))
      obtain ⟨e48, v49⟩ := rx_257 (x := x1) (b := k) (by rw [e1 117 37 (by decide)]; exact hh) hh1 h1 hs h6 hr h3 h4 hk (by omega) (ecx _ hx1) r1
      subst e48
      obtain ⟨e50, v51⟩ := rx_257 (x := x2) (b := k) (by rw [e1 117 37 (by decide)]; exact hh) hh1 h1 hs h6 hr (by rw [e1 117 52 (by decide)]; exact h52) (by rw [e1 117 53 (by decide)]; exact h53) hk (by omega) (ecx _ hx2) r2
      subst e50
      obtain ⟨e52, v53⟩ := rx_242 hrl r3
      subst e52
      rw [v49, v51, ecw, ecw] at v53
      rcases fy_ifd g2 with ⟨c2, g3⟩ | ⟨c2, g3⟩
      · have hcmp : md_cmp rl (rx_cw h X0 (30 * s + r) x1 k) (rx_cw h X0 (30 * s + r) x2 k) = false := by
          cases hc : md_cmp rl (rx_cw h X0 (30 * s + r) x1 k) (rx_cw h X0 (30 * s + r) x2 k) with
          | false => rfl
          | true => rw [v53, hc, if_pos rfl] at c2; exact absurd c2 (by decide)
        obtain ⟨w59, X58, r4, w61, X60, r5, x62, e62, g4⟩ := g3
        obtain ⟨e58, v59⟩ := rx_225r h1 h6 (by omega) r4
        subst e58
        obtain ⟨⟨b1, b2, b3⟩, -⟩ := rx_228 (k := 30 * s + r) v59 hk (by omega) (by omega) r5
        refine ih (k + 1) x62 X60 (by omega) (by rw [e62]; exact cx_in1 hk (by omega)) (by omega) (b1.trans e2) (fun q i hq => (b2 q i hq).trans (e1 q i hq)) (fun k' b hb => ?_) g4
        rw [b3 k' b hb, hB k' b hb]
        by_cases z : k' = 30 * s + r
        · by_cases z2 : b = k
          · rw [if_pos ⟨z, z2⟩, if_pos (⟨z, by omega, by rw [z2]; exact hcmp⟩ : _ ∧ b < k + 1 ∧ _)]
            rfl
          · rw [if_neg (fun y => z2 y.2)]
            by_cases z3 : b < k ∧ md_cmp rl (rx_cw h X0 (30 * s + r) x1 b) (rx_cw h X0 (30 * s + r) x2 b) = false
            · rw [if_pos ⟨z, z3⟩, if_pos (⟨z, by omega, z3.2⟩ : _ ∧ b < k + 1 ∧ _)]
            · rw [if_neg (fun y => z3 y.2), if_neg (fun y => z3 ⟨by omega, y.2.2⟩)]
        · rw [if_neg (fun y => z y.1), if_neg (fun y => z y.1), if_neg (fun y => z y.1)]
      · have hcmp : md_cmp rl (rx_cw h X0 (30 * s + r) x1 k) (rx_cw h X0 (30 * s + r) x2 k) = true := by
          cases hc : md_cmp rl (rx_cw h X0 (30 * s + r) x1 k) (rx_cw h X0 (30 * s + r) x2 k) with
          | true => rfl
          | false => rw [v53, hc, if_neg (by decide)] at c2; exact absurd rfl c2
        obtain ⟨x55, e55, g4⟩ := g3
        refine ih (k + 1) x55 _ (by omega) (by rw [e55]; exact cx_in1 hk (by omega)) (by omega) e2 e1 (fun k' b hb => ?_) g4
        rw [hB k' b hb]
        by_cases z2 : b = k
        · subst z2
          rw [if_neg (fun y => absurd y.2.1 (Nat.lt_irrefl _)), if_neg (fun y => by rw [hcmp] at y; exact absurd y.2.2 (by decide))]
        · by_cases z : k' = 30 * s + r ∧ b < k ∧ md_cmp rl (rx_cw h X0 (30 * s + r) x1 b) (rx_cw h X0 (30 * s + r) x2 b) = false
          · rw [if_pos z, if_pos (⟨z.1, by omega, z.2.2⟩ : _ ∧ b < k + 1 ∧ _)]
          · rw [if_neg z, if_neg (fun y => z ⟨y.1, by omega, y.2.2⟩)]
    · have : k = M := by omega
      subst this
      obtain ⟨x46, e46, g2⟩ := g1
      exact ⟨n, X, x46, by omega, e46, g2, e2, e1, hB⟩
/-- all ROWS -/
theorem rx_254r (h1 : p1.toInt = (s : Int)) (hs : 20 ≤ s ∧ s < 50) (hst : (X0.1 117 32).toInt ≠ 0) (hh : (X0.1 117 37).toInt = (h : Int)) (hh1 : h ≤ 1) (hM : (X0.1 122 h).toInt = (M : Int)) (hM4 : M ≤ 1024) {R : Nat} (hR : (X0.1 131 s).toInt = (R : Int)) (hR30 : R ≤ 30) (h3 : y3.toInt = x1.1) (h4 : y4 = x1.2) (h52 : (X0.1 117 52).toInt = x2.1) (h53 : X0.1 117 53 = x2.2) (hx : ∀ r, r < R → rx_cx X0 (30 * s + r) x1 ∧ rx_cx X0 (30 * s + r) x2) (hrl : rx_rl y5.toInt rl) : ∀ (d n k : Nat) (y6 : Int32) (X : fx_X), R - k ≤ d → n ≤ N → y6.toInt = (k : Int) → k ≤ R → X.2 = X0.2 → (∀ q i, q ≠ 136 → X.1 q i = X0.1 q i) → (∀ k' b, b < 1024 → fx_bt (X.1 136) (32 * k') b = if (30 * s ≤ k' ∧ k' < 30 * s + k) ∧ b < M ∧ md_cmp rl (rx_cw h X0 k' x1 b) (rx_cw h X0 k' x2 b) = false then false else fx_bt (X0.1 136) (32 * k') b) → gxF_254 p1 n 67 [y3, y4, y5, y6] [] [] X v X' → ∃ n2 X2, n2 + 1 ≤ N ∧ (∃ (w34 : Int32) (X33 : fx_X), gx_220 ((Int8.ofInt 44).toInt32) X2 w34 X33 ∧ gxF_254 p1 n2 7 [w34] [] [] X33 v X') ∧ X2.2 = X0.2 ∧ (∀ q i, q ≠ 136 → X2.1 q i = X0.1 q i) ∧ ∀ k' b, b < 1024 → fx_bt (X2.1 136) (32 * k') b = if (30 * s ≤ k' ∧ k' < 30 * s + R) ∧ b < M ∧ md_cmp rl (rx_cw h X0 k' x1 b) (rx_cw h X0 k' x2 b) = false then false else fx_bt (X0.1 136) (32 * k') b := by
  intro d
  induction d with
  | zero =>
    intro n k y6 X hd hN hk hkR e2 e1 hB g
    cases n with
    | zero => exact g.elim
    | succ n =>
      replace g := gxO_254_67 g
      unfold gxT_254_67 at g
      rw [e1 117 32 (by decide), if_neg hst, fx_in h1, e1 131 s (by decide)] at g
      replace g := g.2
      have : k = R := by omega
      subst this
      rw [if_neg (by omega)] at g
      exact ⟨n, X, by omega, g, e2, e1, hB⟩
  | succ d ih =>
    intro n k y6 X hd hN hk hkR e2 e1 hB g
    cases n with
    | zero => exact g.elim
    | succ n =>
      replace g := gxO_254_67 g
      unfold gxT_254_67 at g
      rw [e1 117 32 (by decide), if_neg hst, fx_in h1, e1 131 s (by decide)] at g
      replace g := g.2
      rcases fy_ifd g with ⟨c1, g1⟩ | ⟨c1, g1⟩
      · have hkR2 : k < R := by omega
        have eq : ∀ q, q ≠ 136 → X.1 q = X0.1 q := fun q hq => funext fun i => e1 q i hq
        have ecx : ∀ x, rx_cx X0 (30 * s + k) x → rx_cx X (30 * s + k) x := fun x hx => by unfold rx_cx; rw [eq 134 (by decide), eq 135 (by decide)]; exact hx
        obtain ⟨n2, X2, x46, hn2, e46, g2, a1, a2, a3⟩ := rx_254w (N := N) (X0 := X) (r := k) (h := h) (M := M) (x1 := x1) (x2 := x2) (rl := rl) h1 hs (by rw [e1 117 37 (by decide)]; exact hh) hh1 (by rw [e1 122 h (by decide)]; exact hM) hM4 (by omega) hk h3 h4 (ecx _ (hx k hkR2).1) (by rw [e1 117 52 (by decide)]; exact h52) (by rw [e1 117 53 (by decide)]; exact h53) (ecx _ (hx k hkR2).2) hrl n 0 _ X (by omega) rfl (Nat.zero_le _) rfl (fun _ _ _ => rfl) (fun k' b _ => by rw [if_neg (fun y => absurd y.2.1 (Nat.not_lt_zero _))]) g1
        refine ih n2 (k + 1) x46 X2 (by omega) hn2 (by rw [e46]; exact cx_in1 hk (by omega)) (by omega) (a1.trans e2) (fun q i hq => (a2 q i hq).trans (e1 q i hq)) (fun k' b hb => ?_) g2
        have ecw : ∀ x, rx_cw h X (30 * s + k) x b = rx_cw h X0 (30 * s + k) x b := fun x => rx_cw_eq (eq 123 (by decide)) (eq 134 (by decide)) (eq 135 (by decide))
        rw [a3 k' b hb, hB k' b hb, ecw, ecw]
        by_cases z : k' = 30 * s + k
        · subst z
          rw [if_neg (fun y : (30 * s ≤ 30 * s + k ∧ 30 * s + k < 30 * s + k) ∧ _ => absurd y.1.2 (Nat.lt_irrefl _))]
          by_cases z2 : b < M ∧ md_cmp rl (rx_cw h X0 (30 * s + k) x1 b) (rx_cw h X0 (30 * s + k) x2 b) = false
          · rw [if_pos ⟨rfl, z2⟩, if_pos ⟨⟨by omega, by omega⟩, z2⟩]
          · rw [if_neg (fun y => z2 y.2), if_neg (fun y => z2 y.2)]
        · rw [if_neg (fun y => z y.1)]
          by_cases z2 : (30 * s ≤ k' ∧ k' < 30 * s + k) ∧ b < M ∧ md_cmp rl (rx_cw h X0 k' x1 b) (rx_cw h X0 k' x2 b) = false
          · rw [if_pos z2, if_pos ⟨⟨z2.1.1, by omega⟩, z2.2⟩]
          · rw [if_neg z2, if_neg (fun y => z2 ⟨⟨y.1.1, by omega⟩, y.2⟩)]
      · have : k = R := by omega
        subst this
        exact ⟨n, X, by omega, g1, e2, e1, hB⟩
/-- the value of a side is the model's -/
theorem rx_cw_sv (hV : rx_V P X cs.1) (hb : rp_b P = true) (hw : n < rp_W P) (hrow : ∀ c t, ts[c]? = some t → rx_tm X (8 * a + c) t) (hok : md_okt cs.1.length ts) (hx : x.1 = 0 ∨ (x.1 = 1 ∧ 0 ≤ x.2.toInt ∧ x.2.toInt < (cs.1.length : Int)) ∨ (x.1 = 2 ∧ 0 ≤ x.2.toInt ∧ x.2.toInt < (ts.length : Int))) (h8 : cs.1.length ≤ 8) : rx_cw (rp_h P) X a x (n / md_m P cs.1) = md_sv (rp_v P) n ts x ∧ rx_cx X a x := by
  have e01 : ¬ x.1 = 2 → md_sv (rp_v P) n ts x = md_sv (rp_v P) n [] x := fun z => by
    unfold md_sv
    by_cases z0 : x.1 = 0
    · rw [if_pos z0, if_pos z0]
    · have z1 : x.1 = 1 := by omega
      rw [if_neg z0, if_neg z0, if_pos z1, if_pos z1]
  rcases hx with y | y | ⟨y1, y2, y3⟩
  · refine ⟨?_, Or.inl y⟩
    unfold rx_cw
    rw [if_neg (by omega), e01 (by omega)]
    exact rx_sv hV hb rfl hw (Or.inl y)
  · refine ⟨?_, Or.inr (Or.inl ⟨y.1, y.2.1, by omega⟩)⟩
    unfold rx_cw
    rw [if_neg (by omega), e01 (by omega)]
    exact rx_sv hV hb rfl hw (Or.inr y)
  · have hl := hok.1
    obtain ⟨t, ht⟩ : ∃ t, ts[x.2.toInt.toNat]? = some t := ⟨_, List.getElem?_eq_getElem (by omega)⟩
    obtain ⟨t1, t2⟩ := hrow _ t ht
    have hvar := hok.2 t (List.mem_of_getElem? ht)
    have hcell : (X.1 134 (8 * a + x.2.toInt.toNat)).toInt = 0 ∨ ((X.1 134 (8 * a + x.2.toInt.toNat)).toInt = 1 ∧ 0 ≤ (X.1 135 (8 * a + x.2.toInt.toNat)).toInt ∧ (X.1 135 (8 * a + x.2.toInt.toNat)).toInt < (cs.1.length : Int)) := by
      cases hz : t.1 with
      | false => rw [hz, if_neg (by decide)] at t1; exact Or.inl t1
      | true => rw [hz, if_pos rfl] at t1; rw [t2]; exact Or.inr ⟨t1, hvar hz⟩
    refine ⟨?_, Or.inr (Or.inr ⟨y1, y2, by omega, hcell.imp id (fun z => ⟨z.1, z.2.1, by omega⟩)⟩)⟩
    unfold rx_cw
    rw [if_pos y1, rx_sv (x := ((X.1 134 (8 * a + x.2.toInt.toNat)).toInt, X.1 135 (8 * a + x.2.toInt.toNat))) hV hb rfl hw hcell]
    have hg : ts.getD x.2.toInt.toNat (false, Int32.ofInt 0) = t := by rw [List.getD_eq_getElem?_getD, ht]; rfl
    have hr : md_sv (rp_v P) n ts x = md_cv (rp_v P) n t := by
      unfold md_sv
      rw [if_neg (by omega), if_neg (by omega), hg]
    rw [hr]
    unfold md_sv md_cv
    cases hz : t.1 with
    | false =>
      rw [hz, if_neg (by decide)] at t1
      rw [if_pos t1, if_neg (by decide)]
      exact t2
    | true =>
      rw [hz, if_pos rfl] at t1
      rw [if_neg (by dsimp only; omega), if_pos t1, if_pos rfl]
      show rp_v P n (X.1 135 (8 * a + x.2.toInt.toNat)).toInt.toNat = _
      rw [t2]
end DD32
