/-! THE CLASS: learn, whole -/
section CE07
variable {X X' X0 X1 : fx_X} {v p y1 y2 y3 : Int32} {u : Unit} {sr k m j near l nl N n : Nat} {T : md_T} {es : List md_Ev} {hz : Prop} {pt : List (Nat → Bool)} {U : md_U} {TB : md_TB} {f x : Nat → Bool}
theorem cx_kr_w {a q : Nat} {z : Int32} : cx_kr X (fx_wI X a q z) := ⟨fun _ _ _ _ => rfl, rfl⟩
/-- learned -/
theorem cx_154p (hM : cx_MH sr hz U TB pt nl X) (hnl : nl < 8) (ht : ∀ w, w < md_all U → fx_ib (X.1 106 w) 0 = x w) (g : ∃ b19 : Nat, X.2.2.1 52 3 = some b19 ∧ ∃ (w22 : Unit) (X21 : fx_X), gx_148 b19 X w22 X21 ∧ ∃ b24 : Nat, X21.2.2.1 52 3 = some b24 ∧ ∃ X25 : fx_X, X25 = (fx_wI X21 b24 16 ((X21.1 b24 16) + (Int32.ofInt 1))) ∧ ∃ (w27 : Unit) (X26 : fx_X), gx_150 X25 w27 X26 ∧ ∃ b29 : Nat, X26.2.2.1 52 3 = some b29 ∧ v = (X26.1 b29 14) ∧ X' = X26) : v.toInt = ((md_hl (md_all U) (pt ++ [x])).length : Int) ∧ cx_MH sr hz U TB (pt ++ [x]) (nl + 1) X' := by
  obtain ⟨a1, hs, aU, a6, a7, a8, a9, a10, a11, a12⟩ := hM
  have hW := a6.1
  obtain ⟨b19, h19, w22, X21, r1, b24, h24, X25, e25, w27, X26, r2, b29, h29, e1, e2⟩ := g
  have e : b19 = sr := Option.some.inj (h19.symm.trans a1)
  subst e
  obtain ⟨c1, c2, c3, c4⟩ := cx_148 hs hW aU.1.2.1 a7 (by omega) ht r1
  have e : b24 = b19 := Option.some.inj (h24.symm.trans (by rw [c3]; exact a1))
  subst e
  have f26 := gf_150 r2
  have k26 : ∀ q, q ≠ 107 → q ≠ 113 → X26.1 q = X25.1 q := fun q h1 h2 => fy_ra f26 List.not_mem_nil (fun z hz e => by
    have : z = (107, 0) ∨ z = (113, 0) := by
      rcases List.mem_cons.mp hz with y | y
      · exact Or.inl y
      · exact Or.inr (List.mem_singleton.mp y)
    rcases this with y | y <;> (rw [y] at e; first | exact h1 e.symm | exact h2 e.symm))
  have r26 : X26.2.2 = X.2.2 := by rw [f26.1, e25]; show X21.2.2 = _; rw [c3]
  have l26 : X26.2.1 = X.2.1 := by
    have : X26.2.1 = X25.2.1 := funext fun r => fy_rl f26 List.not_mem_nil (fun z hz => by cases hz)
    rw [this, e25]
    show X21.2.1 = _
    rw [c3]
  have e : b29 = b24 := Option.some.inj (h29.symm.trans (by rw [r26]; exact a1))
  subst e
  have kk : ∀ q k, q ≠ 107 → q ≠ 113 → ¬ (q = b29 ∧ k = 16) → X26.1 q k = X21.1 q k := fun q k h1 h2 h3 => by
    rw [k26 q h1 h2, e25, fx_rI, if_neg h3]
  have kx : ∀ q k, q ≠ 107 → q ≠ 113 → q ≠ b29 + 5 → q ≠ b29 + 6 → ¬ (q = b29 ∧ (k = 14 ∨ k = 15 ∨ k = 16)) → X26.1 q k = X.1 q k := fun q k h1 h2 h3 h4 h5 => by
    rw [kk q k h1 h2 (by omega), c4 q k h3 h4 (by omega)]
  rw [e2]
  refine ⟨?_, by rw [r26]; exact a1, hs, cx_UT_k hs aU (cx_kr_e r26) (fun q k h => kx q k (by omega) (by omega) (by omega) (by omega) (by omega)) (fun q _ => by rw [l26]), ⟨a6.1, a6.2.1, fun w u hw hu => by rw [kx _ _ (by omega) (by omega) (by omega) (by omega) (by omega)]; exact a6.2.2 w u hw hu⟩, ⟨by rw [kk _ _ (by omega) (by omega) (by omega)]; exact c1.1, c1.2.1, fun w p hw hp => by rw [kk _ _ (by omega) (by omega) (by omega)]; exact c1.2.2 w p hw hp⟩, ⟨by rw [kk _ _ (by omega) (by omega) (by omega)]; exact c2.1, fun k w hk => by rw [kk _ _ (by omega) (by omega) (by omega)]; exact c2.2 k w hk⟩, ?_, by omega, by rw [List.length_append]; show nl + 1 ≤ pt.length + 1; omega, by rw [List.length_append]; show pt.length + 1 ≤ 12 + (nl + 1); omega⟩
  · rw [e1, kk _ _ (by omega) (by omega) (by omega)]
    exact c2.1
  · rw [k26 _ (by omega) (by omega), e25, fx_rIe, c4 _ _ (by omega) (by omega) (by omega)]
    exact cx_inc a9 (by omega)
theorem cx_154 (hX : cx_rX X) (hS : cx_S X) (hN : (X.1 52 1).toInt = (N : Int)) (hN4 : N ≤ 4000) (hM : cx_MH sr hz U TB pt nl X) (g : gx_154 X v X') : ∃ L T m r fr, md_lst (X.1 53) N 0 0 L ∧ md_TL T L ∧ md_am T m [(138, 0), (1, 0)] 0 0 md_c0 [] = some r ∧ ∃ ws0 : md_WS, md_tr ws0 = [] ∧ ((∃ es, r = some es ∧ md_fa T (U, none, TB, (0, 0), [], [], fr) es = none) ∨ ((r = none ∨ ∃ es, r = some es ∧ md_fa T (U, none, TB, (0, 0), [], [], fr) es = some none) ∧ v.toInt = -1 ∧ cx_MH sr hz U TB pt nl X') ∨ ∃ es s1 as, r = some es ∧ md_fa T (U, none, TB, (0, 0), [], [], fr) es = md_k (s1, as) ∧ ∀ (P : md_P) (s2 : md_CS) (ws' : md_WS) (x : Nat → Bool), rp_T P = T → rp_Uf P = U → md_fd true P ((U, none, TB, (0, 0), [], [], fr), ws0) es = md_k (s2, ws') → md_tr ws' = [x] → ((md_hl (md_all U) (pt ++ [x]) = [] ∧ v.toInt = -2 ∧ cx_MH sr hz U TB pt nl X') ∨ (md_hl (md_all U) (pt ++ [x]) ≠ [] ∧ ((nl = 8 ∧ v.toInt = -3 ∧ cx_MH sr hz U TB pt nl X') ∨ (nl < 8 ∧ v.toInt = ((md_hl (md_all U) (pt ++ [x])).length : Int) ∧ cx_MH sr hz U TB (pt ++ [x]) (nl + 1) X'))))) := by
  obtain ⟨b3, h3, w5, X4, r1, w7, X6, r2, g⟩ := g
  have hs := hM.2.1
  have e : b3 = sr := Option.some.inj (h3.symm.trans hM.1)
  subst e
  have hp : ((Int16.ofInt 138).toInt32).toInt = 138 := rfl
  obtain ⟨L, T, m, r, fr, q1, q2, q3, q4⟩ := cx_20 (hz := hz) hX hS hN hN4 (Or.inr hp) hs hM.2.2.1.1 hM.2.2.1.2.1 hM.2.2.1.2.2.1 hM.2.2.1.2.2.2 r1
  rw [hp] at q3
  have hkp := cx_20c hX hS hN hN4 hp r1
  have hM4 := cx_MH_kp hM hkp
  have h52 : ∀ {z : Int32}, cx_MH b3 hz U TB pt nl (fx_wI X4 52 2 z) := fun {z} => cx_MH_k hM4 cx_kr_w (fun q k hq => by rw [fx_rI, if_neg (by omega)]) (fun q _ => rfl)
  refine ⟨L, T, m, r, fr, q1, q2, q3, ([], [], [], (((X4.1 95 8).toInt, X4.1 95 9), ((X4.1 95 10).toInt, X4.1 95 11)), (X4.1 95 12).toInt, [], 0, none, 0, 0), rfl, ?_⟩
  rcases q4 with q4 | ⟨-, -, -, q4⟩
  · exact Or.inl q4
  have bad : (X4.1 82 5).toInt ≠ 0 → v.toInt = -1 ∧ cx_MH b3 hz U TB pt nl X' := by
    intro h5
    unfold gx_155 at r2
    rw [if_neg h5] at r2
    obtain ⟨X5, e5, r2⟩ := r2
    rw [if_neg (by rw [e5, fx_rIn (by decide)]; exact h5)] at r2
    rw [if_pos (by rw [r2.1]; rfl)] at g
    rw [g.1, g.2, r2.2, e5]
    exact ⟨rfl, h52⟩
  cases r with
  | none =>
    obtain ⟨z1, z2⟩ := bad q4
    exact Or.inr (Or.inl ⟨Or.inl rfl, z1, z2⟩)
  | some es =>
    rcases q4 with ⟨z, z1⟩ | ⟨s1, as, z, z1, z2, z3, z4, z5, z6, z7, z8⟩
    · obtain ⟨z1, z2⟩ := bad z1
      exact Or.inr (Or.inl ⟨Or.inr ⟨es, rfl, z⟩, z1, z2⟩)
    · refine Or.inr (Or.inr ⟨es, s1, as, rfl, z, fun P s2 ws' x hT hU hfd htr => ?_⟩)
      subst hT
      subst hU
      have hcond := md_am_cond m _ _ _ _ _ es (fun x hx => by
        rcases List.mem_cons.mp hx with z | z
        · rw [z]; rfl
        · rw [List.mem_singleton.mp z]; rfl) q3
      unfold gx_155 at r2
      rw [if_pos z1] at r2
      obtain ⟨X13, e13, r2⟩ := r2
      have k13 : ∀ q, q ≠ 52 → X13.1 q = X4.1 q := fun q hq => by rw [e13, fx_rIn hq]
      rw [if_pos (by rw [k13 82 (by decide)]; exact z1)] at r2
      obtain ⟨b18, h18, w20, X19, r3, e7, e6⟩ := r2
      have hM13 : cx_MH b3 hz (rp_Uf P) TB pt nl X13 := by rw [e13]; exact h52
      have e : b18 = b3 := Option.some.inj (h18.symm.trans hM13.1)
      subst e
      obtain ⟨hM19, htr19, hkr19⟩ := cx_156 (s := (rp_Uf P, none, TB, (0, 0), [], [], fr)) (sd := (((X4.1 95 8).toInt, X4.1 95 9), ((X4.1 95 10).toInt, X4.1 95 11))) (rel := (X4.1 95 12).toInt) hM13 ⟨by rw [k13 95 (by decide)], by rw [k13 95 (by decide)], by rw [k13 95 (by decide)], by rw [k13 95 (by decide)], by rw [k13 95 (by decide)]⟩ hcond z hfd (fun j x hx => by rw [k13 83 (by decide)]; exact (z6 j x hx).1) (fun j a hx => by rw [k13 86 (by decide)]; exact z7 j a hx) (by rw [k13 82 (by decide), z4, z3]) (by omega) r3
      rw [htr] at htr19
      have ht : ∀ w, w < md_all (rp_Uf P) → fx_ib (X19.1 106 w) 0 = x w := fun w hw => htr19 0 x rfl w hw
      rw [if_neg (by rw [e7]; decide), e6] at g
      obtain ⟨b10, h10, w13, X12, r4, g1⟩ := g
      have e : b10 = b18 := Option.some.inj (h10.symm.trans hM19.1)
      subst e
      obtain ⟨e12, v13⟩ := cx_157 hs hM19.2.2.2.1.1 hM19.2.2.2.2.2.1 ht r4
      subst e12
      rcases fy_ifd g1 with ⟨y, g2⟩ | ⟨y, g2⟩
      · left
        refine ⟨List.length_eq_zero_iff.mp (by omega), by rw [g2.1]; rfl, by rw [g2.2]; exact hM19⟩
      · right
        refine ⟨fun w => y (by rw [v13, w]; rfl), ?_⟩
        obtain ⟨b16, h16, g3⟩ := g2
        have e : b16 = b10 := Option.some.inj (h16.symm.trans hM19.1)
        subst e
        have h9 := hM19.2.2.2.2.2.2
        rcases fy_ifd g3 with ⟨y2, g4⟩ | ⟨y2, g4⟩
        · right
          have hnl : nl < 8 := by omega
          obtain ⟨t1, t2⟩ := cx_154p hM19 hnl ht g4
          exact ⟨hnl, t1, t2⟩
        · left
          refine ⟨by omega, by rw [g4.1]; rfl, by rw [g4.2]; exact hM19⟩
end CE07
