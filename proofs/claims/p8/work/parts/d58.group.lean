/-! THE REFERENCE: # of a query, a group comes -/
section DD58
variable {P : md_P} {X X' X0 X1 X2 : fx_X} {n d k h b i i' c a j r : Nat} {v w y3 y4 y5 p1 p2 p3 p4 p5 z : Int32} {u : Unit} {G : List (List Int32)} {D : Nat → List Int32 → Bool} {x g0 : List Int32} {E : Nat → Bool}
theorem fx_bt_0 {f : Nat → Int32} {a b : Nat} (h : f (a + b / 32) = Int32.ofInt 0) : fx_bt f a b = false := by
  unfold fx_bt
  rw [h]; exact fx_ib_0
/-- its bits -/
theorem rx_271w (h2 : p2.toInt = (b : Int)) (hb : b < 1024) (h3 : y3.toInt = (r : Int)) (hr : r < 30) : ∀ (n c : Nat) (y5 : Int32) (X : fx_X), y5.toInt = (c : Int) → c ≤ 32 → rx_but (30 * 49 + r) X0 X → (∀ q k, q ≠ 136 → X.1 q k = X0.1 q k) → (∀ i, i < c → X.1 136 (32 * (30 * 49 + r) + i) = Int32.ofInt 0) → gxF_271 p1 p2 n 168 [y3, y5] [] [] X v X' → v = Int32.ofInt 1 ∧ rx_but (30 * 49 + r) X0 X' ∧ (∀ q k, q ≠ 136 → X'.1 q k = X0.1 q k) ∧ ∀ b', b' < 1024 → fx_bt (X'.1 136) (32 * (30 * 49 + r)) b' = (b' == b) := by
  intro n
  induction n with
  | zero => intro c y5 X _ _ _ _ _ g; exact g.elim
  | succ n ih =>
    intro c y5 X hc hc32 hbu hoth h0 g
    replace g := gxO_271_168 g
    unfold gxT_271_168 at g
    obtain ⟨b1, b2, b3, b4⟩ := hbu
    rcases fy_ifd g with ⟨e, g'⟩ | ⟨e, g'⟩ <;> replace g := g'
    · obtain ⟨w94, X93, r1, -, X96, e96, x97, e97, g⟩ := g
      obtain ⟨e93, v94⟩ := rx_225r (s := 49) (r := r) rfl h3 (by omega) r1
      subst e93
      have i1 : (w94 + y5).toInt = ((32 * (30 * 49 + r) + c : Nat) : Int) := by rw [fx_add (by omega) (by omega)]; omega
      rw [fx_in i1] at e96
      refine ih (c + 1) x97 X96 (by rw [e97]; exact cx_in1 hc (by omega)) (by omega) ⟨by rw [e96]; exact b1, fun q q1 q2 q3 => by rw [e96, fx_rIn q3]; exact b2 q q1 q2 q3, fun q k hq hk => by rw [e96, fx_rIn (by omega)]; exact b3 q k hq hk, fun k hk => by rw [e96, fx_rIk (by omega)]; exact b4 k hk⟩ (fun q k hq => by rw [e96, fx_rIn hq]; exact hoth q k hq) (fun i hi => ?_) g
      by_cases z : i = c
      · subst z
        rw [e96, fx_rIe]
      · rw [e96, fx_rIk (by omega)]
        exact h0 i (by omega)
    · obtain ⟨w89, X88, r1, w91, X90, r2, g1, g2⟩ := g
      obtain ⟨e88, v89⟩ := rx_225r (s := 49) (r := r) rfl h3 (by omega) r1
      subst e88
      obtain ⟨⟨c1, c2, c3⟩, c4⟩ := rx_228 (k := 30 * 49 + r) (b := b) v89 h2 (by omega) hb r2
      subst g2
      refine ⟨g1, ⟨c1.trans b1, fun q q1 q2 q3 => (funext fun k => c2 q k q3).trans (b2 q q1 q2 q3), fun q k hq hk => (c2 q k (by omega)).trans (b3 q k hq hk), fun k hk => (c4 k (by omega)).trans (b4 k hk)⟩, fun q k hq => (c2 q k hq).trans (hoth q k hq), fun b' hb' => ?_⟩
      rw [c3 _ b' hb']
      by_cases z : b' = b
      · rw [if_pos ⟨rfl, z⟩, z, beq_self_eq_true]; rfl
      · rw [if_neg (fun y => z y.2), fx_bt_0 (h0 _ (by omega))]
        symm
        exact beq_false_of_ne z
/-- its values -/
theorem rx_271u (hz : g0.length = k) (h8 : k ≤ 8) (h1 : p1.toInt = (k : Int)) (h2 : p2.toInt = (b : Int)) (hb : b < 1024) (h3 : y3.toInt = (r : Int)) (hr : r < 30) (hv : ∀ (c : Nat) (v : Int32), g0[c]? = some v → X0.1 144 c = v) : ∀ (n c : Nat) (y5 : Int32) (X : fx_X), y5.toInt = (c : Int) → c ≤ k → rx_but (30 * 49 + r) X0 X → (∀ l v, l < c → g0[l]? = some v → (X.1 134 (8 * (30 * 49 + r) + l)).toInt = 0 ∧ X.1 135 (8 * (30 * 49 + r) + l) = v) → gxF_271 p1 p2 n 119 [y3, y5] [] [] X v X' → v = Int32.ofInt 1 ∧ rx_but (30 * 49 + r) X0 X' ∧ rx_gr X' r g0 (fun b' => b' == b) := by
  intro n
  induction n with
  | zero => intro c y5 X _ _ _ _ g; exact g.elim
  | succ n ih =>
    intro c y5 X hc hck hbu h0 g
    replace g := gxO_271_119 g
    unfold gxT_271_119 at g
    have hbu' := hbu
    obtain ⟨b1, b2, b3, b4⟩ := hbu'
    by_cases e : c < k
    · rw [if_pos (by omega), fx_in hc] at g
      obtain ⟨w74, X73, r1, -, X76, e76, w79, X78, r2, -, -, X83, e83, x84, e84, g⟩ := g
      obtain ⟨e73, v74⟩ := rx_236 (s := 49) (r := r) (c := c) rfl h3 hc (by omega) r1
      subst e73
      obtain ⟨e78, v79⟩ := rx_236 (s := 49) (r := r) (c := c) rfl h3 hc (by omega) r2
      subst e78
      rw [fx_in v74] at e76
      rw [fx_in v79] at e83
      have q1 : g0[c]? = some g0[c] := List.getElem?_eq_getElem (by omega)
      have e144 : X78.1 144 c = g0[c] := by rw [e76, fx_rIn (by decide), b2 144 (by decide) (by decide) (by decide)]; exact hv c _ q1
      rw [e144] at e83
      refine ih (c + 1) x84 X83 (by rw [e84]; exact cx_in1 hc (by omega)) (by omega) ⟨by rw [e83, e76]; exact b1, fun q q1 q2 q3 => by rw [e83, fx_rIn q2, e76, fx_rIn q1]; exact b2 q q1 q2 q3, fun q k' hq hk => ?_, fun k' hk => by rw [e83, fx_rIn (by decide), e76, fx_rIn (by decide)]; exact b4 k' hk⟩ (fun l v hl hlv => ?_) g
      · rw [e83, fx_rIk (by omega), e76, fx_rIk (by omega)]; exact b3 q k' hq hk
      · by_cases z : l = c
        · subst z
          rw [q1] at hlv
          cases hlv
          refine ⟨?_, by rw [e83, fx_rIe]⟩
          rw [e83, fx_rIn (by decide), e76, fx_rIe]
          rfl
        · rw [e83, fx_rIn (by decide), e76, fx_rIk (by omega), fx_rIk (by omega), fx_rIn (by decide)]
          exact h0 l v (by omega) hlv
    · rw [if_neg (by omega)] at g
      obtain ⟨s1, s2, s3, s4⟩ := rx_271w (X0 := X) h2 hb h3 hr n 0 _ X rfl (by omega) ⟨rfl, fun _ _ _ _ => rfl, fun _ _ _ _ => rfl, fun _ _ => rfl⟩ (fun _ _ _ => rfl) (fun i hi => absurd hi (Nat.not_lt_zero i)) g
      obtain ⟨t1, t2, t3, t4⟩ := s2
      refine ⟨s1, ⟨t1.trans b1, fun q q1 q2 q3 => (t2 q q1 q2 q3).trans (b2 q q1 q2 q3), fun q k hq hk => (t3 q k hq hk).trans (b3 q k hq hk), fun k hk => (t4 k hk).trans (b4 k hk)⟩, fun c' v hv' => ?_, s4⟩
      have hl := (List.getElem?_eq_some_iff.mp hv').1
      rw [s3 134 _ (by decide), s3 135 _ (by decide)]
      exact h0 c' v (by omega) hv'
/-- room made for it -/
theorem rx_271s (hz : g0.length = k) (h8 : k ≤ 8) (h1 : p1.toInt = (k : Int)) (h2 : p2.toInt = (b : Int)) (hb : b < 1024) (h3 : y3.toInt = (c : Int)) (hv : ∀ (c : Nat) (v : Int32), g0[c]? = some v → X0.1 144 c = v) (hG : (X0.1 131 49).toInt = (G.length : Int)) (hl : G.length < 30) (hk : ∀ x, x ∈ G → x.length = k) : ∀ (d e n : Nat) (y5 : Int32) (X : fx_X), c + d = e → e ≤ G.length → y5.toInt = (e : Int) → rx_g9 X0 X → X.1 131 49 = X0.1 131 49 → (∀ i x, i < e → G[i]? = some x → rx_gr X i x (fun b => D b x)) → (∀ i x, e ≤ i → G[i]? = some x → rx_gr X (i + 1) x (fun b => D b x)) → gxF_271 p1 p2 n 79 [y3, y5] [] [] X v X' → v = Int32.ofInt 1 ∧ rx_g9 X0 X' ∧ (X'.1 131 49).toInt = ((G.length + 1 : Nat) : Int) ∧ (∀ i x, i < c → G[i]? = some x → rx_gr X' i x (fun b => D b x)) ∧ (∀ i x, c ≤ i → G[i]? = some x → rx_gr X' (i + 1) x (fun b => D b x)) ∧ rx_gr X' c g0 (fun b' => b' == b) := by
  intro d
  induction d with
  | zero =>
    intro e n y5 X hcd hel h5 hq he hlo hhi g
    cases n with
    | zero => exact g.elim
    | succ n =>
      replace g := gxO_271_79 g
      unfold gxT_271_79 at g
      rw [if_neg (by omega)] at g
      obtain ⟨X64, e64, g⟩ := g
      have w1 : X64.1 131 49 = X.1 131 49 + Int32.ofInt 1 := by rw [e64, fx_rIe]
      have w2 : ∀ q, q ≠ 131 → X64.1 q = X.1 q := fun q hq => by rw [e64, fx_rIn hq]
      have g64 : rx_g9 X0 X64 := rx_g9_tr hq (by rw [e64]; exact rx_g9_w (by omega))
      obtain ⟨s1, s2, s3⟩ := rx_271u (X0 := X64) (r := c) hz h8 h1 h2 hb h3 (by omega) (fun l v hlv => by rw [g64.2 _ _ (by omega) (by omega) (by omega)]; exact hv l v hlv) n 0 _ X64 rfl (by omega) ⟨rfl, fun _ _ _ _ => rfl, fun _ _ _ _ => rfl, fun _ _ => rfl⟩ (fun l v hl => absurd hl (Nat.not_lt_zero l)) g
      have row : ∀ i i' x, G[i]? = some x → i' ≠ c → rx_gr X i' x (fun b => D b x) → rx_gr X' i' x (fun b => D b x) := fun i i' x hx hi' hr => by
        have h8' : x.length ≤ 8 := by rw [hk x (List.mem_of_getElem? hx)]; exact h8
        exact rx_gr_but (rx_gr_e (X' := X64) hr (fun c _ => by rw [w2 134 (by decide), w2 135 (by decide)]; exact ⟨rfl, rfl⟩) (fun c _ => by rw [w2 136 (by decide)]) h8') s2 h8' hi'
      refine ⟨s1, rx_g9_tr g64 (rx_g9_but s2 (by omega)), ?_, fun i x hi hx => row i i x hx (by omega) (hlo i x (by omega) hx), fun i x hi hx => row i (i + 1) x hx (by omega) (hhi i x (by omega) hx), s3⟩
      rw [s2.2.1 131 (by decide) (by decide) (by decide), w1, he]
      exact cx_in1 hG (by omega)
  | succ d ih =>
    intro e n y5 X hcd hel h5 hq he hlo hhi g
    cases n with
    | zero => exact g.elim
    | succ n =>
      replace g := gxO_271_79 g
      unfold gxT_271_79 at g
      obtain ⟨e', rfl⟩ : ∃ e', e = e' + 1 := ⟨e - 1, by omega⟩
      have hd : (y5 - Int32.ofInt 1).toInt = (e' : Int) := cx_dec h5 (by omega)
      rw [if_pos (by omega)] at g
      obtain ⟨w67, X66, r1, x68, e68, g⟩ := g
      obtain ⟨s2, s3⟩ := rx_252 (s1 := 49) (s2 := 49) (r1 := e') (r2 := e' + 1) rfl hd rfl h5 (by omega) (by omega) r1
      refine ih e' n x68 X66 (by omega) (by omega) (by rw [e68]; exact cx_dm h5 (by omega)) (rx_g9_tr hq (rx_g9_but s2 (by omega))) (by rw [s2.2.1 131 (by decide) (by decide) (by decide)]; exact he) (fun i x hi hx => ?_) (fun i x hi hx => ?_) g
      · exact rx_gr_but (hlo i x (by omega) hx) s2 (by rw [hk x (List.mem_of_getElem? hx)]; exact h8) (by omega)
      · have h8' : x.length ≤ 8 := by rw [hk x (List.mem_of_getElem? hx)]; exact h8
        by_cases zz : i = e'
        · subst zz
          exact rx_gr_cp (hlo i x (Nat.lt_succ_self _) hx) s3 h8'
        · exact rx_gr_but (hhi i x (by omega) hx) s2 h8' (by omega)
/-- all that, and the groups stay in their order -/
theorem rx_271i (hz : g0.length = k) (h8 : k ≤ 8) (h1 : p1.toInt = (k : Int)) (h2 : p2.toInt = (b : Int)) (hb : b < 1024) (h3 : y3.toInt = (c : Int)) (hc : c ≤ G.length) (hv : ∀ (c : Nat) (v : Int32), g0[c]? = some v → X.1 144 c = v) (hi : rx_gi X k G D) (hl : G.length < 30) (hlt : ∀ i x, i < c → G[i]? = some x → md_lt x g0 = true) (hgt : ∀ i x, c ≤ i → G[i]? = some x → md_lt g0 x = true) (hy : y5 = X.1 131 49) (g : gxF_271 p1 p2 n 79 [y3, y5] [] [] X v X') : v = Int32.ofInt 1 ∧ rx_g9 X X' ∧ ∃ G', rx_gi X' k G' (fun b' x => D b' x || (b' == b && x == g0)) := by
  obtain ⟨⟨a1, a2⟩, a3, a4, a5, a6⟩ := hi
  have hn : g0 ∉ G := fun hm => by
    obtain ⟨i, hi1, hi2⟩ := List.mem_iff_getElem.mp hm
    have q : G[i]? = some g0 := by rw [List.getElem?_eq_getElem hi1, hi2]
    by_cases z : i < c
    · have := hlt i g0 z q
      rw [md_lt_irr] at this; cases this
    · have := hgt i g0 (by omega) q
      rw [md_lt_irr] at this; cases this
  have hD : ∀ b', b' < 1024 → D b' g0 = false := fun b' hb' => by
    cases e : D b' g0 with
    | false => rfl
    | true => exact absurd ((a5 g0).mpr ⟨b', hb', e⟩) hn
  obtain ⟨s1, s2, s3, s4, s5, s6⟩ := rx_271s (G := G) (D := D) (X0 := X) hz h8 h1 h2 hb h3 hv a1 hl a4 (G.length - c) G.length n y5 X (by omega) (Nat.le_refl _) (by rw [hy]; exact a1) rx_g9_rf rfl (fun i x _ hx => a6 i x hx) (fun i x hi hx => absurd (List.getElem?_eq_some_iff.mp hx).1 (Nat.not_lt.mpr hi)) g
  have hins : md_ins g0 G = G.take c ++ g0 :: G.drop c := by
    have e : G = G.take c ++ G.drop c := (List.take_append_drop c G).symm
    have m1 : ∀ y, y ∈ G.take c → md_lt y g0 = true := fun y hy => by
      obtain ⟨j, hj, hij⟩ := List.mem_iff_getElem.mp hy
      rw [List.length_take] at hj
      refine hlt j y (by omega) ?_
      rw [← hij, List.getElem_take]
      exact List.getElem?_eq_getElem _
    have m2 : ∀ y, y ∈ G.drop c → md_lt g0 y = true := fun y hy => by
      obtain ⟨j, hj, hij⟩ := List.mem_iff_getElem.mp hy
      refine hgt (c + j) y (by omega) ?_
      rw [← hij, List.getElem_drop]
      exact List.getElem?_eq_getElem _
    have := md_ins_at (x := g0) (L2 := G.drop c) (G.take c) m1 m2
    rw [← e] at this
    exact this
  have hmem : ∀ x, x ∈ md_ins g0 G ↔ x = g0 ∨ x ∈ G := fun x => md_ins_mem G
  have hlen : (md_ins g0 G).length = G.length + 1 := by
    rw [hins, List.length_append, List.length_take, List.length_cons, List.length_drop]; omega
  have old : ∀ {x}, x ∈ G → (fun b' => D b' x || (b' == b && x == g0)) = fun b' => D b' x := fun {x} hx => by
    funext b'
    have : (x == g0) = false := beq_false_of_ne (fun z => hn (by rw [← z]; exact hx))
    rw [this, Bool.and_false, Bool.or_false]
  refine ⟨s1, s2, md_ins g0 G, ⟨by rw [hlen]; exact s3, by rw [hlen]; omega⟩, md_ins_so (n := k) hz G a4 a3, fun x hx => ?_, fun x => ?_, fun i x hx => ?_⟩
  · rcases (hmem x).mp hx with e | e
    · rw [e]; exact hz
    · exact a4 x e
  · rw [hmem x, a5 x]
    constructor
    · rintro (e | ⟨b', e1, e2⟩)
      · exact ⟨b, hb, by show (D b x || (b == b && x == g0)) = true; rw [e, beq_self_eq_true, beq_self_eq_true]; exact Bool.or_true _⟩
      · exact ⟨b', e1, by show (D b' x || _) = true; rw [e2]; rfl⟩
    · rintro ⟨b', e1, e2⟩
      rw [Bool.or_eq_true, Bool.and_eq_true, beq_iff_eq, beq_iff_eq] at e2
      rcases e2 with e2 | e2
      · exact Or.inr ⟨b', e1, e2⟩
      · exact Or.inl e2.2
  · rw [hins, List.getElem?_append] at hx
    have htl : (G.take c).length = c := by rw [List.length_take]; omega
    rw [htl] at hx
    split at hx
    · rename_i hic
      rw [List.getElem?_take_of_lt hic] at hx
      rw [old (List.mem_of_getElem? hx)]
      exact s4 i x hic hx
    · rename_i hic
      obtain ⟨q, rfl⟩ : ∃ q, i = c + q := ⟨i - c, by omega⟩
      rw [Nat.add_sub_cancel_left] at hx
      cases q with
      | zero =>
        cases hx
        refine ⟨s6.1, fun b' hb' => ?_⟩
        show _ = (D b' g0 || (b' == b && g0 == g0))
        rw [hD b' hb', beq_self_eq_true, Bool.and_true, Bool.false_or]
        exact s6.2 b' hb'
      | succ q =>
        have hx' : (G.drop c)[q]? = some x := hx
        rw [List.getElem?_drop] at hx'
        rw [old (List.mem_of_getElem? hx')]
        exact s5 (c + q) x (by omega) hx'
/-- its bit alone -/
theorem rx_271b (h2 : p2.toInt = (b : Int)) (hb : b < 1024) (hi : rx_gi X k G D) (hG : G[c]? = some g0) (h8 : k ≤ 8) (h3 : p1.toInt = ((32 * (30 * 49 + c) : Nat) : Int)) (g : gx_228 136 p1 p2 (Int32.ofInt 1) X u X') : rx_g9 X X' ∧ rx_gi X' k G (fun b' x => D b' x || (b' == b && x == g0)) := by
  obtain ⟨⟨a1, a2⟩, a3, a4, a5, a6⟩ := hi
  have hcl := (List.getElem?_eq_some_iff.mp hG).1
  obtain ⟨⟨c1, c2, c3⟩, c4⟩ := rx_228 (k := 30 * 49 + c) (b := b) h3 h2 (by omega) hb g
  refine ⟨⟨c1, fun q k e1 e2 e3 => ?_⟩, ⟨by rw [c2 _ _ (by decide)]; exact a1, a2⟩, a3, a4, fun x => ?_, fun i x hx => ⟨fun c v hc => by rw [c2 _ _ (by decide), c2 _ _ (by decide)]; exact (a6 i x hx).1 c v hc, fun b' hb' => ?_⟩⟩
  · by_cases z : q = 136
    · subst z
      exact c4 k (by have := e3 rfl; omega)
    · exact c2 q k z
  · rw [a5 x]
    constructor
    · rintro ⟨b', e1, e2⟩
      exact ⟨b', e1, by show (D b' x || _) = true; rw [e2]; rfl⟩
    · rintro ⟨b', e1, e2⟩
      rw [Bool.or_eq_true, Bool.and_eq_true, beq_iff_eq, beq_iff_eq] at e2
      rcases e2 with e2 | e2
      · exact ⟨b', e1, e2⟩
      · rw [e2.2]
        exact (a5 g0).mp (List.mem_of_getElem? hG)
  · rw [c3 _ b' hb']
    have hil := (List.getElem?_eq_some_iff.mp hx).1
    have old := (a6 i x hx).2 b' hb'
    by_cases zi : i = c
    · subst zi
      rw [hG] at hx
      cases hx
      show _ = (D b' _ || (b' == b && _ == _))
      rw [beq_self_eq_true, Bool.and_true]
      by_cases zb : b' = b
      · rw [if_pos ⟨rfl, zb⟩, zb, beq_self_eq_true, Bool.or_true]; rfl
      · rw [if_neg (fun y => zb y.2), beq_false_of_ne zb, Bool.or_false]; exact old
    · have hne : x ≠ g0 := fun z => by
        subst z
        rcases Nat.lt_trichotomy i c with y | y | y
        · have := List.pairwise_iff_getElem.mp a3 i c hil hcl y
          rw [(List.getElem?_eq_some_iff.mp hx).2, (List.getElem?_eq_some_iff.mp hG).2, md_lt_irr] at this
          cases this
        · exact zi y
        · have := List.pairwise_iff_getElem.mp a3 c i hcl hil y
          rw [(List.getElem?_eq_some_iff.mp hx).2, (List.getElem?_eq_some_iff.mp hG).2, md_lt_irr] at this
          cases this
      show _ = (D b' x || (b' == b && x == g0))
      rw [if_neg (fun y => zi (by omega)), beq_false_of_ne hne, Bool.and_false, Bool.or_false]
      exact old
/-- its place looked for -/
theorem rx_271l (hz : g0.length = k) (h8 : k ≤ 8) (h1 : p1.toInt = (k : Int)) (h2 : p2.toInt = (b : Int)) (hb : b < 1024) (hv : ∀ (c : Nat) (v : Int32), g0[c]? = some v → X.1 144 c = v) (hi : rx_gi X k G D) : ∀ (n c : Nat) (y3 y4 : Int32), y3.toInt = (c : Int) → c ≤ G.length → (∀ i x, i < c → G[i]? = some x → md_lt x g0 = true) → (y4.toInt < 0 ∨ (0 ≤ y4.toInt ∧ ∃ x, G[c]? = some x ∧ ((y4.toInt = 0 ∧ x = g0) ∨ (0 < y4.toInt ∧ md_lt g0 x = true)))) → gxF_271 p1 p2 n 5 [y3, y4] [] [] X v X' → (v = Int32.ofInt 0 ∧ G.length = 30 ∧ g0 ∉ G ∧ X' = X) ∨ (v = Int32.ofInt 1 ∧ rx_g9 X X' ∧ ∃ G', rx_gi X' k G' (fun b' x => D b' x || (b' == b && x == g0))) := by
  have hi0 := hi
  obtain ⟨⟨a1, a2⟩, a3, a4, a5, a6⟩ := hi0
  have notin : ∀ c, (∀ i x, i < c → G[i]? = some x → md_lt x g0 = true) → (∀ i x, c ≤ i → G[i]? = some x → md_lt g0 x = true) → g0 ∉ G := fun c k1 k2 hm => by
    obtain ⟨i, hi1, hi2⟩ := List.mem_iff_getElem.mp hm
    have q : G[i]? = some g0 := by rw [List.getElem?_eq_getElem hi1, hi2]
    by_cases z : i < c
    · have := k1 i g0 z q
      rw [md_lt_irr] at this; cases this
    · have := k2 i g0 (by omega) q
      rw [md_lt_irr] at this; cases this
  intro n
  induction n with
  | zero => intro c y3 y4 _ _ _ _ g; exact g.elim
  | succ n ih =>
    intro c y3 y4 h3 hc hlt hy g
    replace g := gxO_271_5 g
    unfold gxT_271_5 at g
    by_cases zc : c < G.length
    · rw [if_pos (by omega)] at g
      rcases fy_ifd g with ⟨e, g'⟩ | ⟨e, g'⟩ <;> replace g := g'
      · obtain ⟨w55, X54, r1, g⟩ := g
        have q1 : G[c]? = some G[c] := List.getElem?_eq_getElem zc
        obtain ⟨e54, s⟩ := rx_272 (a4 _ (List.mem_of_getElem? q1)) hz h8 (a6 c _ q1) (by omega) hv h3 h1 r1
        subst e54
        rcases fy_ifd g with ⟨e2, g'⟩ | ⟨e2, g'⟩ <;> replace g := g'
        · obtain ⟨x58, e58, g⟩ := g
          refine ih (c + 1) x58 w55 (by rw [e58]; exact cx_in1 h3 (by omega)) zc (fun i x hi hx => ?_) (Or.inl e2) g
          by_cases z : i = c
          · subst z
            rw [q1] at hx
            cases hx
            rcases s with s | s | s
            · omega
            · exact s.2
            · omega
          · exact hlt i x (by omega) hx
        · refine ih c y3 w55 h3 hc hlt (Or.inr ⟨by omega, _, q1, ?_⟩) g
          rcases s with s | s | s
          · exact Or.inl s
          · omega
          · exact Or.inr s
      · rw [if_neg (by omega)] at g
        obtain ⟨-, x, hx, s⟩ := hy.resolve_left e
        rcases fy_ifd g with ⟨e2, g'⟩ | ⟨e2, g'⟩ <;> replace g := g'
        · have s2 : md_lt g0 x = true := by
            rcases s with s | s
            · omega
            · exact s.2
          have hgt : ∀ i x, c ≤ i → G[i]? = some x → md_lt g0 x = true := fun i x' hi hx' => by
            by_cases z : i = c
            · subst z
              rw [hx] at hx'
              cases hx'
              exact s2
            · refine md_lt_tr _ _ _ s2 ?_
              have hil := (List.getElem?_eq_some_iff.mp hx').1
              have := List.pairwise_iff_getElem.mp a3 c i zc hil (by omega)
              rw [(List.getElem?_eq_some_iff.mp hx).2, (List.getElem?_eq_some_iff.mp hx').2] at this
              exact this
          rcases fy_ifd g with ⟨e3, g'⟩ | ⟨e3, g'⟩ <;> replace g := g'
          · exact Or.inl ⟨g.1, by omega, notin c hlt hgt, g.2⟩
          · obtain ⟨x52, e52, g⟩ := g
            exact Or.inr (rx_271i hz h8 h1 h2 hb h3 hc hv hi (by omega) hlt hgt e52 g)
        · have s2 : x = g0 := by
            rcases s with s | s
            · exact s.2
            · omega
          subst s2
          obtain ⟨w44, X43, r1, w46, X45, r2, g⟩ := g
          obtain ⟨e43, v44⟩ := rx_225r (s := 49) (r := c) rfl h3 (by omega) r1
          subst e43
          obtain ⟨t1, t2⟩ := rx_271b h2 hb hi hx h8 v44 r2
          exact Or.inr ⟨g.1, by rw [g.2]; exact t1, G, by rw [g.2]; exact t2⟩
    · rw [if_neg (by omega), if_pos (by omega)] at g
      have hgt : ∀ i x, c ≤ i → G[i]? = some x → md_lt g0 x = true := fun i x' hi hx' => by
        have := (List.getElem?_eq_some_iff.mp hx').1
        omega
      rcases fy_ifd g with ⟨e3, g'⟩ | ⟨e3, g'⟩ <;> replace g := g'
      · exact Or.inl ⟨g.1, by omega, notin c hlt hgt, g.2⟩
      · obtain ⟨x52, e52, g⟩ := g
        exact Or.inr (rx_271i hz h8 h1 h2 hb h3 hc hv hi (by omega) hlt hgt e52 g)
theorem rx_271 (hz : g0.length = k) (h8 : k ≤ 8) (h1 : p1.toInt = (k : Int)) (h2 : p2.toInt = (b : Int)) (hb : b < 1024) (hv : ∀ (c : Nat) (v : Int32), g0[c]? = some v → X.1 144 c = v) (hi : rx_gi X k G D) (g : gx_271 p1 p2 X v X') : (v = Int32.ofInt 0 ∧ G.length = 30 ∧ g0 ∉ G ∧ X' = X) ∨ (v = Int32.ofInt 1 ∧ rx_g9 X X' ∧ ∃ G', rx_gi X' k G' (fun b' x => D b' x || (b' == b && x == g0))) := by
  obtain ⟨n, g⟩ := g
  exact rx_271l hz h8 h1 h2 hb hv hi n 0 _ _ rfl (Nat.zero_le _) (fun i x h => absurd h (Nat.not_lt_zero i)) (Or.inl (by decide)) g
end DD58
