/-! THE CLASS: read -/
def cx_M2 (sr : Nat) (U : md_U) (TB : md_TB) (pt : List (Nat → Bool)) (nl : Nat) (X : fx_X) : Prop := cx_MH sr False U TB pt nl X ∧ X.2.2.1 52 4 = some (120 - sr) ∧ ∃ rs, X.2.2.1 95 5 = some rs
section CE29
variable {P : md_P} {X X' X0 X1 : fx_X} {v p1 y1 y2 y3 : Int32} {u : Unit} {sr sn k m j near l nl N : Nat} {T : md_T} {U : md_U} {TB : md_TB} {pt : List (Nat → Bool)} {es : List md_Ev} {as : List Int} {fr : Int64}
/-- the shelf stays where its own cells stay -/
theorem cx_MH_q (hM : cx_MH sr False U TB pt nl X) (h3 : X'.2.2.1 52 3 = X.2.2.1 52 3) (hO : cx_O X') (hr : ∀ t r, t < 10 → X.2.2.1 (sr + 8) t = some r → X'.2.2.1 (sr + 8) t = some r ∧ X'.1 r 3 = X.1 r 3) (e1 : ∀ q k, sr ≤ q → q < sr + 12 → q ≠ sr + 7 → ¬ (q = sr ∧ k = 17) → X'.1 q k = X.1 q k) (el : ∀ q, sr ≤ q → q < sr + 12 → X'.2.1 q = X.2.1 q) : cx_MH sr False U TB pt nl X' := by
  obtain ⟨a1, hs, ⟨⟨u1, u2, u3⟩, ⟨t1, t2⟩, o, gd⟩, a6, a7, a8, a9, a10⟩ := hM
  have e2 : ∀ q k, ((q = sr ∧ k ≠ 17) ∨ (sr < q ∧ q < sr + 7) ∨ (sr + 7 < q ∧ q < sr + 12)) → X'.1 q k = X.1 q k := fun q k h => e1 q k (by omega) (by omega) (by omega) (by omega)
  refine ⟨by rw [h3]; exact a1, hs, ⟨⟨by rw [e2 _ _ (by omega)]; exact u1, by rw [e2 _ _ (by omega)]; exact u2, fun u x hx => ?_⟩, ⟨by rw [e2 _ _ (by omega)]; exact t1, fun t x hx => ?_⟩, hO, gd⟩, ⟨a6.1, a6.2.1, fun w u hw hu => by rw [e2 _ _ (by omega)]; exact a6.2.2 w u hw hu⟩, ⟨by rw [e2 _ _ (by omega)]; exact a7.1, a7.2.1, fun w p hw hp => by rw [e2 _ _ (by omega)]; exact a7.2.2 w p hw hp⟩, ⟨by rw [e2 _ _ (by omega)]; exact a8.1, fun k w hk => by rw [e2 _ _ (by omega)]; exact a8.2 k w hk⟩, by rw [e2 _ _ (by omega)]; exact a9, a10⟩
  · obtain ⟨c1, c2, c3⟩ := u3 u x hx
    exact ⟨by rw [el _ (by omega) (by omega)]; exact c1, by rw [e2 _ _ (by omega)]; exact c2, fun i v hv => by rw [e2 _ _ (by omega)]; exact c3 i v hv⟩
  · obtain ⟨c1, c2, r, c3, c4, c5, c6⟩ := t2 t x hx
    have ht : t < 10 := by have := (List.getElem?_eq_some_iff.mp hx).1; have h10 : TB.length ≤ 10 := (gd 0).2.2.2.2.1; omega
    obtain ⟨d1, d2⟩ := hr t r ht c3
    exact ⟨by rw [el _ (by omega) (by omega)]; exact c1, by rw [e2 _ _ (by omega)]; exact c2, r, d1, by rw [d2]; exact c4, fun z => z.elim, fun c n hn => by rw [el _ (by omega) (by omega)]; exact c6 c n hn⟩
theorem cx_M2_q (hM : cx_M2 sr U TB pt nl X) (h3 : X'.2.2.1 52 3 = X.2.2.1 52 3) (h4 : X'.2.2.1 52 4 = X.2.2.1 52 4) (hK : cx_K5 X') (hr : ∀ t r, t < 10 → X.2.2.1 (sr + 8) t = some r → X'.2.2.1 (sr + 8) t = some r ∧ X'.1 r 3 = X.1 r 3) (e1 : ∀ q k, sr ≤ q → q < sr + 12 → q ≠ sr + 7 → ¬ (q = sr ∧ k = 17) → X'.1 q k = X.1 q k) (el : ∀ q, sr ≤ q → q < sr + 12 → X'.2.1 q = X.2.1 q) : cx_M2 sr U TB pt nl X' := ⟨cx_MH_q hM.1 h3 hK.1 hr e1 el, by rw [h4]; exact hM.2.1, hK.2⟩
theorem cx_M2_w {z : Int32} (hM : cx_M2 sr U TB pt nl X) : cx_M2 sr U TB pt nl (fx_wI X 52 2 z) := by
  have hs := hM.1.2.1
  exact cx_M2_q hM rfl rfl ⟨hM.1.2.2.1.2.2.1, hM.2.2⟩ (fun t r ht h => ⟨h, by
    have := (hM.1.2.2.1.2.2.1.2.1 (sr + 8, t) r (cx_slot hs ht) h).1
    rw [fx_rIn (by omega)]⟩) (fun q k z1 z2 _ _ => by rw [fx_rIn (by omega)]) (fun q _ _ => rfl)
/-- the other half cleared -/
theorem cx_2 (g : gx_2 sn X u X') : X'.2 = X.2 ∧ (∀ q k, q ≠ sn → X'.1 q k = X.1 q k) ∧ (X'.1 sn 11).toInt = 0 ∧ (X'.1 sn 12).toInt = 0 ∧ (X'.1 sn 13).toInt = 1 ∧ (X'.1 sn 15).toInt = 0 ∧ (X'.1 sn 16).toInt = 0 := by
  obtain ⟨X2, e2, X3, e3, X4, e4, X5, e5, X6, e6, X7, e7, e⟩ := g
  subst e
  refine ⟨by rw [e7, e6, e5, e4, e3, e2]; rfl, fun q k h => by rw [e7, fx_rIn h, e6, fx_rIn h, e5, fx_rIn h, e4, fx_rIn h, e3, fx_rIn h, e2, fx_rIn h], ?_, ?_, ?_, ?_, ?_⟩
  · rw [e7, fx_rIk (by decide), e6, fx_rIk (by decide), e5, fx_rIk (by decide), e4, fx_rIk (by decide), e3, fx_rIk (by decide), e2, fx_rIe]; rfl
  · rw [e7, fx_rIk (by decide), e6, fx_rIk (by decide), e5, fx_rIk (by decide), e4, fx_rIk (by decide), e3, fx_rIe]; rfl
  · rw [e7, fx_rIk (by decide), e6, fx_rIk (by decide), e5, fx_rIk (by decide), e4, fx_rIe]; rfl
  · rw [e7, fx_rIk (by decide), e6, fx_rIk (by decide), e5, fx_rIe]; rfl
  · rw [e7, fx_rIk (by decide), e6, fx_rIe]; rfl
theorem cx_19 (hX : cx_rX X) (hS : cx_S X) (hN : (X.1 52 1).toInt = (N : Int)) (hN4 : N ≤ 4000) (hM : cx_M2 sr U TB pt nl X) (g : gx_19 X v X') : ∃ L T m r fr, md_lst (X.1 53) N 0 0 L ∧ md_TL T L ∧ md_am T m [(130, 0), (1, 0)] 0 0 md_c0 [] = some r ∧ ∃ ws0 : md_WS, (ws0.1 = [] ∧ ws0.2.1 = [] ∧ md_tr ws0 = [] ∧ md_ptw ws0 = []) ∧ ((∃ es, r = some es ∧ md_fa T ([], none, [], (0, 0), [], [], fr) es = none) ∨ ((r = none ∨ ∃ es, r = some es ∧ md_fa T ([], none, [], (0, 0), [], [], fr) es = some none) ∧ v.toInt ≠ 0 ∧ cx_M2 sr U TB pt nl X') ∨ ∃ es s1 as, r = some es ∧ md_fa T ([], none, [], (0, 0), [], [], fr) es = md_k (s1, as) ∧ ∀ P : md_P, rp_T P = T → rp_Uf P = s1.1 → 0 < md_all s1.1 → md_fd true P (([], none, [], (0, 0), [], [], fr), ws0) es ≠ none → (md_fd true P (([], none, [], (0, 0), [], [], fr), ws0) es = some none ∧ v.toInt ≠ 0 ∧ cx_M2 sr U TB pt nl X') ∨ ∃ s2 w2, md_fd true P (([], none, [], (0, 0), [], [], fr), ws0) es = md_k (s2, w2) ∧ v.toInt = 0 ∧ ((md_ptw w2).length ≤ 12 → cx_M2 (120 - sr) s1.1 s1.2.2.1 (md_ptw w2) 0 X')) := by
  obtain ⟨b3, h3, w5, X4, r1, b7, h7, w9, X8, r2, g⟩ := g
  have hs := hM.1.2.1
  have hO := hM.1.2.2.1.2.2.1
  have e : b3 = 120 - sr := Option.some.inj (h3.symm.trans hM.2.1)
  have hsn : b3 = 54 ∨ b3 = 66 := by omega
  have hsr : sr = 120 - b3 := by omega
  obtain ⟨c1, c2, c3, c4, c5, c6, c7⟩ := cx_2 r1
  have e : b7 = b3 := Option.some.inj (h7.symm.trans (by rw [c1]; exact h3))
  subst e
  have hO4 : cx_O X4 := by unfold cx_O at hO ⊢; rw [c1]; exact hO
  have hM4 : cx_M2 sr U TB pt nl X4 := cx_M2_q hM (by rw [c1]) (by rw [c1]) ⟨hO4, by rw [c1]; exact hM.2.2⟩ (fun t r ht h => ⟨by rw [c1]; exact h, by
    have := (hO.2.1 (sr + 8, t) r (cx_slot hs ht) h).1
    exact c2 _ _ (by omega)⟩) (fun q k z1 z2 _ _ => c2 _ _ (by omega)) (fun q _ _ => by rw [c1])
  have hp : ((Int16.ofInt 130).toInt32).toInt = 130 := rfl
  have hX4 : cx_rX X4 := fun i h0 h1 => by
    obtain ⟨d1, d2⟩ := hX i h0 h1
    exact ⟨by rw [c1]; exact d1, fun j hj => by rw [c2 _ _ (by omega)]; exact d2 j hj⟩
  have hS4 : cx_S X4 := ⟨by rw [c1]; exact hS.1, fun i hi => by rw [c1]; exact hS.2 i hi⟩
  obtain ⟨L, T, m, r, fr, q1, q2, q3, q4⟩ := cx_20 (hz := True) (U := []) (TB := []) hX4 hS4 (by rw [c2 _ _ (by omega)]; exact hN) hN4 (Or.inl hp) hsn ⟨c3, c5, fun u x hx => (by cases hx)⟩ ⟨c4, fun t x hx => (by cases hx)⟩ hO4 (fun fr => ⟨fun x hx => (by cases hx), fun x hx => (by cases hx), ⟨List.nodup_nil, Nat.zero_le _⟩, Nat.zero_le _, Nat.zero_le _, Nat.zero_le _, fun x hx => (by cases hx), fun x hx => (by cases hx), (show md_all [] ≤ 1024 by decide)⟩) r2
  rw [hp] at q3
  rw [show X4.1 53 = X.1 53 from funext fun k => c2 53 k (by omega)] at q1
  refine ⟨L, T, m, r, fr, q1, q2, q3, cx_w0 X8, ⟨rfl, rfl, rfl, rfl⟩, ?_⟩
  rcases q4 with q4 | ⟨hfu, hO8, h528, q4⟩
  · exact Or.inl q4
  -- the shelf stays where the text is understood
  have k5 : cx_K5 X8 := ⟨hO8, by
    obtain ⟨rs, h5⟩ := hM4.2.2
    exact ⟨rs, by rw [hfu.2.2.1 95 5 (by omega) (by have := hO4.1; omega) (by omega)]; exact h5⟩⟩
  have hM8 : cx_M2 sr U TB pt nl X8 := by
    have h150 := hO4.1
    have nr : ∀ q, q < 102 → ∀ t, t < 10 → X4.2.2.1 (b7 + 8) t ≠ some q := fun q hq t ht z => by
      have := (hO4.2.1 (b7 + 8, t) q (cx_slot hsn ht) z).1
      omega
    refine cx_M2_q hM4 (hfu.2.2.1 52 3 (by omega) (by omega) (by omega)) (hfu.2.2.1 52 4 (by omega) (by omega) (by omega)) k5 (fun t r ht h => ⟨?_, ?_⟩) (fun q k z1 z2 _ _ => hfu.1 q k (by omega) (by omega) (by unfold cx_wi cx_wa; omega) (nr q (by omega)) (by omega)) (fun q z1 z2 => funext fun k => hfu.2.1 q k (by omega) (by unfold cx_wa; omega))
    · rw [hfu.2.2.1 (sr + 8) t (by omega) (by omega) (by omega)]; exact h
    · have hr := hO4.2.1 (sr + 8, t) r (cx_slot hs ht) h
      refine hfu.1 r 3 (by omega) (by omega) (by unfold cx_wi cx_wa; omega) (fun t' ht' z => ?_) (by omega)
      rcases hO4.2.2 (sr + 8, t) (b7 + 8, t') r r (cx_slot hs ht) (cx_slot hsn ht') h z with y | y | y
      · have := (Prod.mk.inj y).1
        omega
      · omega
      · omega
  have bad : (X8.1 82 5).toInt ≠ 0 → v.toInt ≠ 0 ∧ cx_M2 sr U TB pt nl X' := by
    intro hf
    rw [if_neg hf, if_neg hf] at g
    obtain ⟨X15, e15, g⟩ := g
    have k : X15.1 82 5 = X8.1 82 5 := by rw [e15, fx_rIn (by decide)]
    rw [k, if_neg hf] at g
    rw [g.1, g.2, e15]
    exact ⟨hf, cx_M2_w hM8⟩
  cases r with
  | none => exact Or.inr (Or.inl ⟨Or.inl rfl, bad q4⟩)
  | some es =>
    rcases q4 with ⟨z, hf⟩ | ⟨s1, as, z, hf, hCS, z3, z4, z5, z6, z7, z8⟩
    · exact Or.inr (Or.inl ⟨Or.inr ⟨es, rfl, z⟩, bad hf⟩)
    refine Or.inr (Or.inr ⟨es, s1, as, rfl, z, fun P hT hUf hW1 hfd => ?_⟩)
    subst hT
    have he2 : md_e2 false es := md_am_e2 m _ 0 0 md_c0 [] false false false es q3 rfl id
    rw [if_pos hf] at g
    obtain ⟨b45, h45, w47, X46, r3, g⟩ := g
    have h52 : ∀ {z : Nat}, 3 ≤ z → z ≤ 4 → X8.2.2.1 52 z = X.2.2.1 52 z := fun {z} _ _ => by
      rw [hfu.2.2.1 52 z (by omega) (by have := hO4.1; omega) (by omega), c1]
    have e : b45 = b7 := Option.some.inj (h45.symm.trans ((h52 (by decide) (by decide)).trans h3))
    subst e
    have h15 : (X8.1 b45 15).toInt = 0 := by
      rw [hfu.1 b45 15 (by omega) (by omega) (by unfold cx_wi cx_wa; omega) (fun t ht z => by
        have := (hO4.2.1 (b45 + 8, t) b45 (cx_slot hsn ht) z).1
        omega) (by have := hO4.1; omega)]
      exact c6
    have h16 : (X8.1 b45 16).toInt = 0 := by
      rw [hfu.1 b45 16 (by omega) (by omega) (by unfold cx_wi cx_wa; omega) (fun t ht z => by
        have := (hO4.2.1 (b45 + 8, t) b45 (cx_slot hsn ht) z).1
        omega) (by have := hO4.1; omega)]
      exact c7
    obtain ⟨⟨n1, n2, n3, n4, n5⟩, key⟩ := cx_97 (P := P) (s0 := ([], none, [], (0, 0), [], [], fr)) hCS k5.2 h15 hf rfl he2 z hUf hW1 hfd (fun j x hx => (z6 j x hx).1) z7 (by rw [z4, z3]) (by omega) r3
    -- the shelf stays where the text is worked out
    have hM46 : cx_M2 sr U TB pt nl X46 := cx_M2_q hM8 (n4 52 3 (by omega) (by omega) (by omega)) (n4 52 4 (by omega) (by omega) (by omega)) n5 (fun t r ht h => ⟨by rw [n4 (sr + 8) t (by omega) (by omega) (by omega)]; exact h, n3 t r ht (by rw [show 128 - b45 = sr + 8 by omega]; exact h) r 3 (by omega) (by omega)⟩) (fun q k y1 y2 _ _ => n2 q k (by omega) (by omega) (by omega) (by omega) (by omega) (by omega)) (fun q y1 y2 => n1 q (by omega))
    rcases key with ⟨y1, y2⟩ | ⟨⟨s2, w2⟩, y1, y2, y3⟩
    · refine Or.inl ⟨y1, ?_⟩
      rw [if_neg y2] at g
      obtain ⟨X51, e51, g⟩ := g
      have k : X51.1 82 5 = X46.1 82 5 := by rw [e51, fx_rIn (by decide)]
      rw [k, if_neg y2] at g
      rw [g.1, g.2, e51]
      exact ⟨y2, cx_M2_w hM46⟩
    · rw [if_pos y3] at g
      obtain ⟨X65, e65, g⟩ := g
      have k65 : ∀ q, q ≠ 52 → X65.1 q = X46.1 q := fun q h => by rw [e65, fx_rIn h]
      rw [if_pos (by rw [k65 82 (by decide)]; exact y3)] at g
      obtain ⟨b70, h70, b73, h73, X74, e74, X75, e75, w77, X76, r4, e1, e2⟩ := g
      have e : b73 = b45 := by
        have h73' : X46.2.2.1 52 4 = some b73 := by rw [← h73, e65]; rfl
        rw [n4 52 4 (by omega) (by omega) (by omega), h45] at h73'
        exact (Option.some.inj h73').symm
      subst e
      have e : b70 = sr := by
        have h70' : X46.2.2.1 52 3 = some b70 := by rw [← h70, e65]; rfl
        exact (Option.some.inj (h70'.symm.trans hM46.1.1))
      subst e
      have f76 := gf_150 r4
      have k76 : ∀ q, q ≠ 52 → q ≠ 107 → q ≠ 113 → X76.1 q = X46.1 q := fun q h0 h1 h2 => by
        rw [fy_ra f76 List.not_mem_nil (fun z hz e => by
          have : z = (107, 0) ∨ z = (113, 0) := by
            rcases List.mem_cons.mp hz with y | y
            · exact Or.inl y
            · exact Or.inr (List.mem_singleton.mp y)
          rcases this with y | y <;> (rw [y] at e; first | exact h1 e.symm | exact h2 e.symm)), e75]
        show X74.1 q = _
        rw [e74]
        exact k65 q h0
      have l76 : X76.2.1 = X46.2.1 := by
        have : X76.2.1 = X75.2.1 := funext fun r => fy_rl f76 List.not_mem_nil (fun z hz => by cases hz)
        rw [this, e75, e74, e65]; rfl
      have r76 : ∀ q j, q ≠ 52 → X76.2.2.1 q j = X46.2.2.1 q j := fun q j h => by
        rw [f76.1, e75]
        show (if q = 52 ∧ j = 4 then _ else X74.2.2.1 q j) = _
        rw [if_neg (fun z => h z.1), e74]
        show (if q = 52 ∧ j = 3 then _ else X65.2.2.1 q j) = _
        rw [if_neg (fun z => h z.1), e65]
        rfl
      have n76 : X76.2.2.2 = X46.2.2.2 := by rw [f76.1, e75, e74, e65]; rfl
      refine Or.inr ⟨s2, w2, y1, ?_, fun h12 => ?_⟩
      · rw [e1, k76 82 (by decide) (by decide) (by decide)]; exact y3
      rw [e2]
      obtain ⟨tb, sk, tr, sd, rel, pt2, rt, pk, fo, fd⟩ := w2
      obtain ⟨v1, -, v3, v4, v5, v6, -, v8, -, v10, v11, -, -⟩ := y2
      obtain ⟨hgd, ⟨u1, u2, u3⟩, -, ⟨t1, t2⟩, -, -, -, -, -, -⟩ := hCS
      have kk : ∀ q k, b73 ≤ q → q < b73 + 12 → q ≠ b73 + 4 → q ≠ b73 + 5 → q ≠ b73 + 6 → ¬ (q = b73 ∧ (k = 14 ∨ k = 15)) → X76.1 q k = X8.1 q k := fun q k y1 y2 y3 y4 y5 y6 => by
        rw [k76 q (by omega) (by omega) (by omega)]
        exact n2 q k (by omega) (by omega) y3 y4 y5 y6
      have ll : ∀ q, q < 95 → X76.2.1 q = X8.2.1 q := fun q y1 => by rw [l76]; exact n1 q (Or.inl y1)
      have hK : cx_K5 X76 := by
        have sl : ∀ s, cx_sl s → X76.2.2.1 s.1 s.2 = X46.2.2.1 s.1 s.2 := fun s hs => r76 _ _ (by rcases hs with h | h | h | h <;> omega)
        obtain ⟨⟨o1, o2, o3⟩, rs, o4⟩ := n5
        refine ⟨⟨by rw [n76]; exact o1, fun s r h1 h2 => ?_, fun s s' r r' h1 h2 h3 h4 => ?_⟩, rs, by rw [r76 _ _ (by decide)]; exact o4⟩
        · rw [sl s h1] at h2
          rw [n76]
          exact o2 s r h1 h2
        · rw [sl s h1] at h3
          rw [sl s' h2] at h4
          exact o3 s s' r r' h1 h2 h3 h4
      have e120 : 120 - b70 = b73 := by omega
      rw [e120]
      refine ⟨⟨?_, hsn, ⟨⟨by rw [kk _ _ (by omega) (by omega) (by omega) (by omega) (by omega) (by omega)]; exact u1, by rw [kk _ _ (by omega) (by omega) (by omega) (by omega) (by omega) (by omega)]; exact u2, fun u x hx => ?_⟩, ⟨by rw [kk _ _ (by omega) (by omega) (by omega) (by omega) (by omega) (by omega)]; exact t1, fun t x hx => ?_⟩, hK.1, fun fr' => ?_⟩, ?_, ?_, ?_, ?_, by omega, Nat.zero_le _, by omega⟩, ?_, hK.2⟩
      · rw [f76.1, e75, e74]
        show (if 52 = 52 ∧ 3 = 4 then some b70 else (if 52 = 52 ∧ 3 = 3 then some b73 else X65.2.2.1 52 3)) = some b73
        rw [if_neg (by decide), if_pos ⟨rfl, rfl⟩]
      · obtain ⟨a1, a2, a3⟩ := u3 u x hx
        exact ⟨by rw [ll _ (by omega)]; exact a1, by rw [kk _ _ (by omega) (by omega) (by omega) (by omega) (by omega) (by omega)]; exact a2, fun i v hv => by rw [kk _ _ (by omega) (by omega) (by omega) (by omega) (by omega) (by omega)]; exact a3 i v hv⟩
      · obtain ⟨a1, a2, r, a3, -, -, a6⟩ := t2 t x hx
        obtain ⟨r', d1, d2, -⟩ := v6.2.2.2 t x.2.2.length (by rw [List.getElem?_map, hx]; rfl)
        have ht : t < 10 := by have := (List.getElem?_eq_some_iff.mp hx).1; have h10 : s1.2.2.1.length ≤ 10 := hgd.2.2.2.2.1; omega
        have hr' := (n5.1.2.1 (b73 + 8, t) r' (cx_slot hsn ht) d1).1
        exact ⟨by rw [ll _ (by omega)]; exact a1, by rw [kk _ _ (by omega) (by omega) (by omega) (by omega) (by omega) (by omega)]; exact a2, r', by rw [r76 _ _ (by omega)]; exact d1, by rw [k76 r' (by omega) (by omega) (by omega)]; exact d2, fun z => z.elim, fun c n hn => by rw [ll _ (by omega)]; exact a6 c n hn⟩
      · exact ⟨hgd.1, fun x hx => (by cases hx), ⟨List.nodup_nil, Nat.zero_le _⟩, hgd.2.2.2.1, hgd.2.2.2.2.1, Nat.zero_le _, hgd.2.2.2.2.2.2.1, fun x hx => (by cases hx), hgd.2.2.2.2.2.2.2.2⟩
      · exact ⟨v4.1, v4.2.1, fun w u hw hu => by rw [k76 _ (by omega) (by omega) (by omega)]; exact v4.2.2 w u hw hu⟩
      · exact ⟨by rw [k76 _ (by omega) (by omega) (by omega)]; exact v10.1, v10.2.1, fun w p hw hp => by rw [k76 _ (by omega) (by omega) (by omega)]; exact v10.2.2 w p hw hp⟩
      · exact ⟨by rw [k76 _ (by omega) (by omega) (by omega)]; exact v11.1, fun k w hk => by rw [k76 _ (by omega) (by omega) (by omega)]; exact v11.2 k w hk⟩
      · rw [kk _ _ (by omega) (by omega) (by omega) (by omega) (by omega) (by omega)]; exact h16
      · rw [f76.1, e75]
        show (if 52 = 52 ∧ 4 = 4 then some b70 else X74.2.2.1 52 4) = _
        rw [if_pos ⟨rfl, rfl⟩]
        exact congrArg some (by omega)
end CE29
