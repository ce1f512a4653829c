/-! CLASS AND REFERENCE: ask; learn and ask alike -/
section XE31
variable {X X' X0 X1 : fx_X} {v p y1 y2 y3 : Int32} {u : Unit} {sr k m j near l nl N n : Nat} {T : md_T} {es : List md_Ev} {hz : Prop} {pt : List (Nat → Bool)} {U : md_U} {TB : md_TB} {f x : Nat → Bool}
/-- what is asked is kept for why -/
theorem cx_162r : ∀ (n : Nat) (p0 : Nat) (y2 : Int32) (X : fx_X), gxF_162 p0 n 2 [y2] [] [] X u X' → X'.2 = X.2 ∧ ∀ q k, q ≠ p0 + 7 → ¬ (q = p0 ∧ k = 17) → X'.1 q k = X.1 q k := by
  intro n
  induction n with
  | zero => intro p0 y2 X g; exact g.elim
  | succ n ih =>
    intro p0 y2 X g
    replace g := gxO_162_2 g
    unfold gxT_162_2 at g
    have fin : (∃ X4 : fx_X, X4 = (fx_wI X p0 17 (Int32.ofInt 1)) ∧ X' = X4) → X'.2 = X.2 ∧ ∀ q k, q ≠ p0 + 7 → ¬ (q = p0 ∧ k = 17) → X'.1 q k = X.1 q k := by
      rintro ⟨X4, e4, e⟩
      rw [e, e4]
      exact ⟨rfl, fun q k _ h => by rw [fx_rI, if_neg h]⟩
    rcases fy_ifd g with ⟨c, g⟩ | ⟨c, g⟩
    · rcases fy_ifd g with ⟨c2, g⟩ | ⟨c2, g⟩
      · obtain ⟨w10, X9, r1, -, X12, e12, x13, e13, g⟩ := g
        have e9 : X9 = X := fy_e (gf_147 r1)
        obtain ⟨a1, a2⟩ := ih p0 x13 X12 g
        refine ⟨by rw [a1, e12, e9]; rfl, fun q k h1 h2 => by rw [a2 q k h1 h2, e12, fx_rIn h1, e9]⟩
      · exact fin g
    · exact fin g
theorem cx_161 (hX : cx_rX X) (hS : cx_S X) (hN : (X.1 52 1).toInt = (N : Int)) (hN4 : N ≤ 4000) (hM : cx_MH sr False U TB pt nl X) (g : gx_161 X v X') : ∃ L T m r fr, md_lst (X.1 53) N 0 0 L ∧ md_TL T L ∧ md_am T m [(138, 0), (1, 0)] 0 0 md_c0 [] = some r ∧ ∃ ws0 : md_WS, md_tr ws0 = [] ∧ ((∃ es, r = some es ∧ md_fa T (U, none, TB, (0, 0), [], [], fr) es = none) ∨ ((r = none ∨ ∃ es, r = some es ∧ md_fa T (U, none, TB, (0, 0), [], [], fr) es = some none) ∧ v.toInt = -1 ∧ cx_MH sr False U TB pt nl X') ∨ ∃ es s1 as, r = some es ∧ md_fa T (U, none, TB, (0, 0), [], [], fr) es = md_k (s1, as) ∧ ∀ (P : md_P) (s2 : md_CS) (ws' : md_WS) (x : Nat → Bool), rp_T P = T → rp_Uf P = U → md_fd true P ((U, none, TB, (0, 0), [], [], fr), ws0) es = md_k (s2, ws') → md_tr ws' = [x] → (v.toInt = ((md_hl (md_all U) (pt ++ [x])).length : Int) ∧ cx_MH sr False U TB pt nl X')) := by
  obtain ⟨b3, h3, w5, X4, r1, w7, X6, r2, g⟩ := g
  have hs := hM.2.1
  have e : b3 = sr := Option.some.inj (h3.symm.trans hM.1)
  subst e
  have hp : ((Int16.ofInt 138).toInt32).toInt = 138 := rfl
  obtain ⟨L, T, m, r, fr, q1, q2, q3, q4⟩ := cx_20 (hz := False) hX hS hN hN4 (Or.inr hp) hs hM.2.2.1.1 hM.2.2.1.2.1 hM.2.2.1.2.2.1 hM.2.2.1.2.2.2 r1
  rw [hp] at q3
  have hkp := cx_20c hX hS hN hN4 hp r1
  have hM4 := cx_MH_kp hM hkp
  have h52 : ∀ {z : Int32}, cx_MH b3 False U TB pt nl (fx_wI X4 52 2 z) := fun {z} => cx_MH_k hM4 cx_kr_w (fun q k hq => by rw [fx_rI, if_neg (by omega)]) (fun q _ => rfl)
  refine ⟨L, T, m, r, fr, q1, q2, q3, ([], [], [], (((X4.1 95 8).toInt, X4.1 95 9), ((X4.1 95 10).toInt, X4.1 95 11)), (X4.1 95 12).toInt, [], 0, none, 0, 0), rfl, ?_⟩
  rcases q4 with q4 | ⟨-, -, -, q4⟩
  · exact Or.inl q4
  have bad : (X4.1 82 5).toInt ≠ 0 → v.toInt = -1 ∧ cx_MH b3 False U TB pt nl X' := by
    intro h5
    unfold gx_155 at r2
    rw [if_neg h5] at r2
    obtain ⟨X5, e5, r2⟩ := r2
    rw [if_neg (by rw [e5, fx_rIn (by decide)]; exact h5)] at r2
    rw [if_pos (by rw [r2.1]; rfl)] at g
    rw [g.1, g.2, r2.2, e5]
    exact ⟨rfl, h52⟩
  cases r with
  | none =>
    obtain ⟨z1, z2⟩ := bad q4
    exact Or.inr (Or.inl ⟨Or.inl rfl, z1, z2⟩)
  | some es =>
    rcases q4 with ⟨z, z1⟩ | ⟨s1, as, z, z1, z2, z3, z4, z5, z6, z7, z8⟩
    · obtain ⟨z1, z2⟩ := bad z1
      exact Or.inr (Or.inl ⟨Or.inr ⟨es, rfl, z⟩, z1, z2⟩)
    · refine Or.inr (Or.inr ⟨es, s1, as, rfl, z, fun P s2 ws' x hT hU hfd htr => ?_⟩)
      subst hT
      subst hU
      have hcond := md_am_cond m _ _ _ _ _ es (fun x hx => by
        rcases List.mem_cons.mp hx with z | z
        · rw [z]; rfl
        · rw [List.mem_singleton.mp z]; rfl) q3
      unfold gx_155 at r2
      rw [if_pos z1] at r2
      obtain ⟨X13, e13, r2⟩ := r2
      have k13 : ∀ q, q ≠ 52 → X13.1 q = X4.1 q := fun q hq => by rw [e13, fx_rIn hq]
      rw [if_pos (by rw [k13 82 (by decide)]; exact z1)] at r2
      obtain ⟨b18, h18, w20, X19, r3, e7, e6⟩ := r2
      have hM13 : cx_MH b3 False (rp_Uf P) TB pt nl X13 := by rw [e13]; exact h52
      have e : b18 = b3 := Option.some.inj (h18.symm.trans hM13.1)
      subst e
      obtain ⟨hM19, htr19, hkr19⟩ := cx_156 (s := (rp_Uf P, none, TB, (0, 0), [], [], fr)) (sd := (((X4.1 95 8).toInt, X4.1 95 9), ((X4.1 95 10).toInt, X4.1 95 11))) (rel := (X4.1 95 12).toInt) hM13 ⟨by rw [k13 95 (by decide)], by rw [k13 95 (by decide)], by rw [k13 95 (by decide)], by rw [k13 95 (by decide)], by rw [k13 95 (by decide)]⟩ hcond z hfd (fun j x hx => by rw [k13 83 (by decide)]; exact (z6 j x hx).1) (fun j a hx => by rw [k13 86 (by decide)]; exact z7 j a hx) (by rw [k13 82 (by decide), z4, z3]) (by omega) r3
      rw [htr] at htr19
      have ht : ∀ w, w < md_all (rp_Uf P) → fx_ib (X19.1 106 w) 0 = x w := fun w hw => htr19 0 x rfl w hw
      rw [if_neg (by rw [e7]; decide), e6] at g
      obtain ⟨b10, h10, w13, X12, ⟨n, r4⟩, w16, X15, ⟨X152, e152, e15⟩, b18', h18', w21, X20, r5, e1, e2⟩ := g
      have e : b10 = b18 := Option.some.inj (h10.symm.trans hM19.1)
      subst e
      obtain ⟨k1, k2⟩ := cx_162r n b10 _ X19 r4
      rw [e152] at e15
      have l15 : X15.2 = X19.2 := by rw [e15]; exact k1
      have k15 : ∀ q k, q ≠ 113 → q ≠ b10 + 7 → ¬ (q = b10 ∧ k = 17) → X15.1 q k = X19.1 q k := fun q k h1 h2 h3 => by rw [e15, fx_rIn h1]; exact k2 q k h2 h3
      have hM15 : cx_MH b10 False (rp_Uf P) TB pt nl X15 := by
        have hO := hM19.2.2.1.2.2.1
        refine cx_MH_q hM19 (by rw [l15]) (by unfold cx_O at hO ⊢; rw [l15]; exact hO) (fun t r ht h => ⟨by rw [l15]; exact h, ?_⟩) (fun q k z1 z2 z3 z4 => k15 q k (by omega) z3 z4) (fun q _ _ => by rw [l15])
        have := (hO.2.1 (b10 + 8, t) r (cx_slot hs ht) h).1
        exact k15 r 3 (by omega) (by omega) (by omega)
      have e : b18' = b10 := Option.some.inj (h18'.symm.trans hM15.1)
      subst e
      obtain ⟨e20, v21⟩ := cx_157 (x := x) hs hM15.2.2.2.1.1 hM15.2.2.2.2.2.1 (fun w hw => by rw [k15 106 w (by omega) (by omega) (by omega)]; exact ht w hw) r5
      subst e20
      rw [e1, e2]
      exact ⟨v21, hM15⟩
end XE31
section XE31b
variable {P : md_P} {X X' X0 X1 X2 : fx_X} {n d k j near l h N m nl : Nat} {v w y1 y2 : Int32} {c c' : md_C} {nm : md_Nm} {cs cs' : md_CS} {ws ws' : md_WS} {L : List (Int × Nat × Int64)} {T : md_T} {U : md_U} {r : Option (List md_Ev)} {f : Nat → Int32} {pt : List (Nat → Bool)} {x : Nat → Bool} {F Lf : List (Nat × Nat)} {A : List Nat}
theorem rx_284l (hM : rx_MH h U pt nl X) (hx : ∀ w, w < md_all U → fx_bt (X.1 130) 0 w = x w) : ∀ (d k n : Nat) (y1 y2 : Int32), k + d = md_all U → y2.toInt = (k : Int) → y1.toInt = ((((List.range k).filter (fun w => (pt ++ [x]).all (fun p => p w))).length : Nat) : Int) → gxF_284 n 44 [y1, y2] [] [] X v X' → v.toInt = (((md_hl (md_all U) (pt ++ [x])).length : Nat) : Int) ∧ X' = X := by
  obtain ⟨⟨a1, a2⟩, a3, a4, ⟨p1, p2, p3⟩, a6⟩ := hM
  have p1 : (X.1 127 h).toInt = (pt.length : Int) := p1
  have hM122 : (X.1 122 h).toInt = (md_all U : Int) := a3.2.1
  have hM4 := a3.2.2.2.1.2
  intro d
  induction d with
  | zero =>
    intro k n y1 y2 hkd h2 h1 g
    cases n with
    | zero => exact g.elim
    | succ n =>
      replace g := gxO_284_44 g
      unfold gxT_284_44 at g
      rw [fx_in a1] at g
      replace g := g.2
      rw [if_neg (by omega)] at g
      have e : k = md_all U := by omega
      subst e
      exact ⟨by rw [g.1]; exact h1, g.2⟩
  | succ d ih =>
    intro k n y1 y2 hkd h2 h1 g
    cases n with
    | zero => exact g.elim
    | succ n =>
      replace g := gxO_284_44 g
      unfold gxT_284_44 at g
      rw [fx_in a1] at g
      replace g := g.2
      have hk : k < md_all U := by omega
      have hkl : ((List.range k).filter (fun w => (pt ++ [x]).all (fun p => p w))).length ≤ k := by
        have := List.length_filter_le (fun w => (pt ++ [x]).all (fun p => p w)) (List.range k)
        rw [List.length_range] at this
        exact this
      have hsn : ((List.range (k + 1)).filter (fun w => (pt ++ [x]).all (fun p => p w))).length = ((List.range k).filter (fun w => (pt ++ [x]).all (fun p => p w))).length + (if ((pt ++ [x]).all (fun p => p k)) = true then 1 else 0) := by
        rw [List.range_succ, List.filter_append, List.length_append]
        congr 1
        by_cases z : (pt ++ [x]).all (fun p => p k) = true
        · rw [if_pos z, List.filter_cons, if_pos z]; rfl
        · rw [if_neg z, List.filter_cons, if_neg z]; rfl
      have nx : (y2 + Int32.ofInt 1).toInt = ((k + 1 : Nat) : Int) := cx_in1 h2 (by omega)
      rw [if_pos (by omega)] at g
      obtain ⟨w20, X19, r1, g1⟩ := g
      obtain ⟨e19, hv⟩ := rx_247 a1 a2 p1 p2 h2 (by omega) r1
      subst e19
      have bit : ∀ p f, pt[p]? = some f → fx_bt (X19.1 129) (32 * (20 * h + p)) k = f k := fun p f hp => by
        have := p3 p f hp k hk
        rw [Nat.div_one] at this
        exact this
      rcases hv with ⟨hv, hall⟩ | ⟨hv, p0, hp0, hb0⟩
      · rw [if_neg hv] at g1
        have hpt : pt.all (fun p => p k) = true := List.all_eq_true.mpr (fun f hf => by
          obtain ⟨p, hp⟩ := List.getElem?_of_mem hf
          rw [← bit p f hp]
          exact hall p (List.getElem?_eq_some_iff.mp hp).1)
        obtain ⟨w27, X26, r2, g2⟩ := g1
        obtain ⟨e26, v27⟩ := rx_227 (a := 0) (b := k) rfl h2 (by omega) (by omega) r2
        subst e26
        rw [hx k hk] at v27
        have hal : (pt ++ [x]).all (fun p => p k) = x k := by
          rw [List.all_append, hpt, Bool.true_and]
          show (x k && true) = x k
          rw [Bool.and_true]
        cases hxk : x k with
        | false =>
          rw [hxk, if_neg (by decide)] at v27
          subst v27
          rw [if_pos (by decide)] at g2
          obtain ⟨x30, e30, g3⟩ := g2
          refine ih (k + 1) n y1 x30 (by omega) (by rw [e30]; exact nx) ?_ g3
          rw [hsn, hal, hxk, if_neg (by decide)]
          exact h1
        | true =>
          rw [hxk, if_pos rfl] at v27
          subst v27
          rw [if_neg (by decide)] at g2
          obtain ⟨x32, e32, x34, e34, g3⟩ := g2
          refine ih (k + 1) n x32 x34 (by omega) (by rw [e34]; exact nx) ?_ g3
          rw [hsn, hal, hxk, if_pos rfl, e32]
          exact cx_in1 h1 (by omega)
      · rw [if_pos hv] at g1
        obtain ⟨x23, e23, g2⟩ := g1
        refine ih (k + 1) n y1 x23 (by omega) (by rw [e23]; exact nx) ?_ g2
        have hal : (pt ++ [x]).all (fun p => p k) = false := by
          rw [List.all_append]
          have : pt.all (fun p => p k) = false := by
            cases z : pt.all (fun p => p k) with
            | false => rfl
            | true =>
              have q := List.all_eq_true.mp z pt[p0] (List.getElem_mem hp0)
              rw [← bit p0 _ (List.getElem?_eq_getElem hp0), hb0] at q
              cases q
          rw [this, Bool.false_and]
        rw [hsn, hal, if_neg (by decide)]
        exact h1
theorem rx_284c (hh : h ≤ 1) (hM : rx_MH h U pt nl X0) (hx : ∀ w, w < md_all U → fx_bt (X0.1 137) 0 w = x w) : ∀ (n k : Nat) (y2 : Int32) (X : fx_X), y2.toInt = (k : Int) → k ≤ 32 → X.2 = X0.2 → (∀ q i, q ≠ 130 → X.1 q i = X0.1 q i) → (∀ i, i < k → X.1 130 i = X0.1 137 i) → gxF_284 n 18 [Int32.ofInt 0, y2] [] [] X v X' → v.toInt = (((md_hl (md_all U) (pt ++ [x])).length : Nat) : Int) ∧ rx_MH h U pt nl X' := by
  intro n
  induction n with
  | zero => intro k y2 X _ _ _ _ _ g; exact g.elim
  | succ n ih =>
    intro k y2 X h2 hk e2 e1 hc g
    replace g := gxO_284_18 g
    unfold gxT_284_18 at g
    rcases fy_ifd g with ⟨c, g⟩ | ⟨c, g⟩
    · obtain ⟨-, -, X14, e14, x15, e15, g⟩ := g
      rw [fx_in h2] at e14
      have k14 : ∀ q i, ¬ (q = 130 ∧ i = k) → X14.1 q i = X.1 q i := fun q i z => by rw [e14, fx_rI, if_neg z]
      refine ih (k + 1) x15 X14 (by rw [e15]; exact cx_in1 h2 (by omega)) (by omega) (by rw [e14]; exact e2) (fun q i hq => by rw [k14 q i (by omega)]; exact e1 q i hq) (fun i hi => ?_) g
      by_cases z : i = k
      · subst z
        rw [e14, fx_rIe]
        exact e1 137 i (by decide)
      · rw [k14 130 i (by omega)]
        exact hc i (by omega)
    · have hk32 : k = 32 := by omega
      subst hk32
      have hM1 : rx_MH h U pt nl X := by
        refine rx_MH_fy (F := []) (Lf := []) (A := [130]) hM ⟨by rw [e2], fun r i _ _ => by rw [e2], fun r i hr _ => e1 r i (fun z => hr (by rw [z]; exact List.mem_cons_self))⟩ (fun a ha => by rw [List.mem_singleton.mp ha]; exact Or.inr (Nat.le_refl _)) ⟨fun q hq => (by cases hq), fun q hq => (by cases hq)⟩
      have hW : md_all U ≤ 1024 := hM.2.1.2.2.2.1.2
      obtain ⟨g1, g2⟩ := rx_284l hM1 (x := x) (fun w hw => by
        rw [← hx w hw]
        unfold fx_bt
        rw [hc _ (by omega)]) (md_all U) 0 n _ _ (by omega) rfl rfl g
      rw [g2]
      exact ⟨g1, hM1⟩
theorem rx_284 (hM : rx_MH h U pt nl X) (hf : X.1 138 = f) (hN : (X.1 117 23).toInt = (N : Int) ∧ N ≤ 4000) (hL : md_lst f N 0 0 L) (hT : ∀ i x, L[i]? = some x → T.1 i = x.1 ∧ T.2 i = x.2.2) (ham : md_am T m [(138, 0), (1, 0)] 0 0 md_c0 [] = some r) (hcs : cs.1 = U) (hws : md_tr ws = []) (g : gx_284 X v X') : (v.toInt = -1 ∧ rp_r (md_Q1 T U r f N h (cs, ws)) = some none ∧ rx_MH h U pt nl X') ∨ ∃ w1 w2 x, rp_r (md_Q1 T U r f N h (cs, ws)) = md_k (cs, w1) ∧ rp_r (md_Q2 T U r f N h (cs, ws)) = md_k (cs, w2) ∧ md_tr w2 = [x] ∧ v.toInt = ((md_hl (md_all U) (pt ++ [x])).length : Int) ∧ rx_MH h U pt nl X' := by
  obtain ⟨n, w3, X2, r1, g⟩ := g
  have f2 := gf_282 r1
  have hM2 : rx_MH h U pt nl X2 := rx_MH_fy hM f2 (by decide) (by decide)
  rcases rx_282 hM.1 hf hN hL hT ham hM.2.1 hM.2.2.1 hcs hws r1 with ⟨e1, e2⟩ | ⟨e1, w1, w2, x, e2, e3, e4, e5⟩
  · rw [if_pos (by rw [e1]; rfl)] at g
    rw [g.2]
    exact Or.inl ⟨by rw [g.1]; rfl, e2, hM2⟩
  · rw [if_neg (by rw [e1]; decide)] at g
    obtain ⟨X5, e, g⟩ := g
    have k5 : ∀ q i, q ≠ 117 → X5.1 q i = X2.1 q i := fun q i h => by rw [e, fx_rIn h]
    have hM5 : rx_MH h U pt nl X5 := by rw [e]; exact rx_MH_fy (F := [(117, 13)]) (Lf := []) (A := []) hM2 (fy_f fy_rf (by decide)) (by decide) (by decide)
    exact Or.inr ⟨w1, w2, x, e2, e3, e4, rx_284c hM.1.2 hM5 (fun w hw => by
      have := e5 w hw
      unfold fx_bt at this ⊢
      rw [k5 _ _ (by decide)]
      exact this) n 0 _ X5 rfl (Nat.zero_le _) rfl (fun _ _ _ => rfl) (fun i hi => absurd hi (Nat.not_lt_zero i)) g⟩
end XE31b
section XE31c
variable {P : md_P} {X X' X0 X1 Y Y' : fx_X} {v w : Int32} {sr k m h nl N : Nat} {T : md_T} {hz : Prop} {pt : List (Nat → Bool)} {U : md_U} {TB : md_TB} {r : Option (List md_Ev)} {q0 : md_S} {f : Nat → Int32}
theorem xx_learn2 (hX : cx_rX X) (hS : cx_S X) (hN : (X.1 52 1).toInt = (N : Int)) (hN4 : N ≤ 4000) (hM : cx_MH sr hz U TB pt nl X) (g : gx_154 X v X') (hR : rx_MH h U pt nl Y) (hf : md_by (X.1 53) (Y.1 138) N) (hNr : (Y.1 117 23).toInt = (N : Int)) (g2 : gx_281 Y w Y') : ∃ pt' nl', v.toInt = w.toInt ∧ cx_MH sr hz U TB pt' nl' X' ∧ rx_MH h U pt' nl' Y' := by
  obtain ⟨L, T, m, r, fr, q1, q2, q3, ws0, hws, q4⟩ := cx_154 hX hS hN hN4 hM g
  rcases rx_281 (cs := (U, none, TB, (0, 0), [], [], fr)) (ws := ws0) (f := Y.1 138) hR rfl ⟨hNr, hN4⟩ (md_lst_by hf L 0 0 (Nat.zero_le _) q1) q2 q3 rfl hws g2 with ⟨e1, e2, e3⟩ | ⟨w1, w2, x, e1, e2, e3, e4⟩
  · rcases md_Q1_bad e2 with z | ⟨es, z, z2⟩
    · subst z
      rcases q4 with ⟨es, y, -⟩ | ⟨-, y1, y2⟩ | ⟨es, s1, as, y, -⟩
      · cases y
      · exact ⟨pt, nl, by rw [y1, e1], y2, e3⟩
      · cases y
    · subst z
      rcases q4 with ⟨es, y, y2⟩ | ⟨-, y1, y2⟩ | ⟨es, s1, as, y, y2, -⟩
      · cases y
        rw [z2] at y2; cases y2
      · exact ⟨pt, nl, by rw [y1, e1], y2, e3⟩
      · cases y
        rw [z2] at y2; cases y2
  · obtain ⟨es, as, z, z2⟩ := md_Q1_ok e1
    subst z
    rcases q4 with ⟨es, y, y2⟩ | ⟨y | ⟨es, y, y2⟩, -⟩ | ⟨es, s1, as, y, y2, y3⟩
    · cases y
      rw [z2] at y2; cases y2
    · cases y
    · cases y
      rw [z2] at y2; cases y2
    · cases y
      rcases y3 (true, T, U, none, Y.1 138, N, h) _ w2 x rfl rfl e2 e3 with ⟨a1, a2, a3⟩ | ⟨a1, a2⟩
      · rcases e4 with ⟨b1, b2, b3⟩ | ⟨b1, -⟩
        · exact ⟨pt, nl, by rw [a2, b2], a3, b3⟩
        · exact absurd a1 b1
      · rcases e4 with ⟨b1, -⟩ | ⟨-, b2⟩
        · exact absurd b1 a1
        · rcases a2 with ⟨c1, c2, c3⟩ | ⟨c1, c2, c3⟩
          · rcases b2 with ⟨d1, d2, d3⟩ | ⟨d1, -⟩
            · exact ⟨pt, nl, by rw [c2, d2], c3, d3⟩
            · omega
          · rcases b2 with ⟨d1, -⟩ | ⟨-, d2, d3⟩
            · omega
            · exact ⟨pt ++ [x], nl + 1, by rw [c2, d2], c3, d3⟩
theorem xx_ask (hX : cx_rX X) (hS : cx_S X) (hN : (X.1 52 1).toInt = (N : Int)) (hN4 : N ≤ 4000) (hM : cx_MH sr False U TB pt nl X) (g : gx_161 X v X') (hR : rx_MH h U pt nl Y) (hf : md_by (X.1 53) (Y.1 138) N) (hNr : (Y.1 117 23).toInt = (N : Int)) (g2 : gx_284 Y w Y') : v.toInt = w.toInt ∧ cx_MH sr False U TB pt nl X' ∧ rx_MH h U pt nl Y' := by
  obtain ⟨L, T, m, r, fr, q1, q2, q3, ws0, hws, q4⟩ := cx_161 hX hS hN hN4 hM g
  rcases rx_284 (cs := (U, none, TB, (0, 0), [], [], fr)) (ws := ws0) (f := Y.1 138) hR rfl ⟨hNr, hN4⟩ (md_lst_by hf L 0 0 (Nat.zero_le _) q1) q2 q3 rfl hws g2 with ⟨e1, e2, e3⟩ | ⟨w1, w2, x, e1, e2, e3, e4⟩
  · rcases md_Q1_bad e2 with z | ⟨es, z, z2⟩
    · subst z
      rcases q4 with ⟨es, y, -⟩ | ⟨-, y1, y2⟩ | ⟨es, s1, as, y, -⟩
      · cases y
      · exact ⟨by rw [y1, e1], y2, e3⟩
      · cases y
    · subst z
      rcases q4 with ⟨es, y, y2⟩ | ⟨-, y1, y2⟩ | ⟨es, s1, as, y, y2, -⟩
      · cases y
        rw [z2] at y2; cases y2
      · exact ⟨by rw [y1, e1], y2, e3⟩
      · cases y
        rw [z2] at y2; cases y2
  · obtain ⟨es, as, z, z2⟩ := md_Q1_ok e1
    subst z
    rcases q4 with ⟨es, y, y2⟩ | ⟨y | ⟨es, y, y2⟩, -⟩ | ⟨es, s1, as, y, y2, y3⟩
    · cases y
      rw [z2] at y2; cases y2
    · cases y
    · cases y
      rw [z2] at y2; cases y2
    · cases y
      obtain ⟨a1, a2⟩ := y3 (true, T, U, none, Y.1 138, N, h) _ w2 x rfl rfl e2 e3
      exact ⟨by rw [a1, e4.1], a2, e4.2⟩
end XE31c
