/-! THE CLASS'S CHECKER: notes of what is told -/
section CX24
variable {X X' X1 X2 : fx_X} {T : md_T} {v p p0 p1 p2 : Int32} {w q : Int64} {u : Unit} {sr i k d n near lead : Nat} {U : md_U} {cu cu' : Option (Int64 × List Int32)} {TB TB' : md_TB} {rw rw' : Int × Int} {sk sk' : List (List Int64)} {pk pk' cs : List Int64} {fr fr' : Int64} {hz : Prop} {cn : Option Int} {a c0 : Int} {s s' : md_CS} {vs : List Int32} {nm : Int64} {b : Bool}
theorem cx_fc_of (h1 : ∀ r k, ¬ cx_wi sr r k → X'.1 r k = X.1 r k) (h2 : ∀ r k, ¬ cx_wa sr r → X'.2.1 r k = X.2.1 r k) (h3 : X'.2.2 = X.2.2) : cx_fc sr X X' := ⟨fun r k c _ _ => h1 r k c, h2, fun r k _ _ _ => by rw [h3], fun t r _ h => by rw [h3]; exact h, fun t r _ h => by rw [h3] at h; exact Or.inl h, by rw [h3]; exact Nat.le_refl _, fun z => by unfold cx_O; rw [h3]; exact z⟩
theorem cx_64c (g : gx_64 p1 p2 X u X') : cx_fc sr X X' := cx_fc_fy (gf_64 g) (by decide) (by decide) (by decide)
/-- both: what the note does, and what it leaves alone -/
def cx_Pq (T : md_T) (sr : Nat) (hz : Prop) (cn : Option Int) (s : md_CS) (e : md_Ev) (i : Nat) (X X' : fx_X) : Prop := cx_Po T sr hz cn s e i X X' ∧ (md_ckg cn T s e ≠ none → cx_fc sr X X')
theorem cx_Pq_o (hm : md_ckg cn T (U, cu, TB, rw, sk, pk, fr) (a, near, lead) = none) : cx_Pq T sr hz cn (U, cu, TB, rw, sk, pk, fr) (a, near, lead) i X X' := ⟨cx_Po_o hm, fun z => absurd hm z⟩
theorem cx_Pq_n (hm : md_ckg cn T (U, cu, TB, rw, sk, pk, fr) (a, near, lead) = some none) (h0 : p1.toInt ≠ 0) (h : gx_64 p1 p2 X u X') : cx_Pq T sr hz cn (U, cu, TB, rw, sk, pk, fr) (a, near, lead) i X X' := ⟨cx_Po_n hm (cx_64n h0 h), fun _ => cx_64c h⟩
/-- the argument stays 0 -/
theorem cx_Pq_k (hA : (X.1 86 i).toInt = 0) (hm : md_ckg cn T (U, cu, TB, rw, sk, pk, fr) (a, near, lead) = md_k (s', 0)) (h5 : X'.1 82 5 = X.1 82 5) (h86 : ∀ j, X'.1 86 j = X.1 86 j) (hC : cx_CS X' sr hz s') (hf : cx_fc sr X X') : cx_Pq T sr hz cn (U, cu, TB, rw, sk, pk, fr) (a, near, lead) i X X' := by
  refine ⟨?_, fun _ => hf⟩
  unfold cx_Po
  rw [hm]
  exact ⟨h5, hC, by rw [h86]; exact hA, fun j _ => h86 j⟩
/-- a value more: the state -/
theorem cx_li_CS (hC : cx_CS X sr hz (U, some (nm, vs), TB, rw, sk, pk, fr)) {y : Int32} (hy : y.toInt = ((vs.length + 1 : Nat) : Int)) (hl : vs.length < 64) : cx_CS (cx_li X sr U.length vs.length p y) sr hz (U, some (nm, vs ++ [p]), TB, rw, sk, pk, fr) ∧ cx_fc sr X (cx_li X sr U.length vs.length p y) ∧ (∀ k, (cx_li X sr U.length vs.length p y).1 82 k = X.1 82 k) ∧ (∀ k, (cx_li X sr U.length vs.length p y).1 86 k = X.1 86 k) ∧ (∀ k, (cx_li X sr U.length vs.length p y).1 sr k = X.1 sr k) := by
  have hC' := hC
  obtain ⟨g0, g1, g2, g3, g4, g5, g6, g7, g8, g9⟩ := hC'
  have h8 : U.length < 8 := (g0.2.2.2.2.2.2.2.1 _ rfl).2
  obtain ⟨f1, f2, f3⟩ := cx_li_fr (X := X) (p := p) (y := y) g9 h8 hl
  refine ⟨cx_uw hC f1 (fun r _ => by rw [f2]) (by rw [f2]) (md_gd_cu g0 (fun x hx => by
    cases hx
    refine ⟨?_, h8⟩
    show (vs ++ [p]).length ≤ 64
    rw [List.length_append]; show vs.length + 1 ≤ 64; omega)) (fun u x hx => ?_) (fun x hx => ?_), cx_fc_of (fun r k c => by rw [f1 r (fun z => c (Or.inl (by unfold cx_wa; omega))) (fun z => c (Or.inl (by unfold cx_wa; omega)))]) (fun r k _ => by rw [f2]) (by rw [f2]), fun k => by rw [f1 82 (by omega) (by omega)], fun k => by rw [f1 86 (by omega) (by omega)], fun k => by rw [f1 sr (by omega) (by omega)]⟩
  · have hu := (List.getElem?_eq_some_iff.mp hx).1
    rw [f2]
    exact ⟨(g1.2.2 u x hx).1, f3 u _ hu (g0.2.2.2.2.2.2.1 x (List.mem_of_getElem? hx)) (g1.2.2 u x hx).2⟩
  · cases hx
    refine ⟨by rw [f2]; exact (g2 _ rfl).1, cx_li_vs g9 (g2 _ rfl).2 hy⟩
/-- from the first value up -/
theorem cx_88l {f : Int32} {last : Nat} (hf1 : -100000 ≤ f.toInt) (hf2 : f.toInt ≤ 100000) (h63 : last ≤ 63) {y2 : Int32} (h2 : y2.toInt = f.toInt + last) : ∀ (m k : Nat) (y4 : Int32) (X : fx_X), y4.toInt = f.toInt + k → 1 ≤ k → k ≤ last + 1 → cx_CS X sr hz (U, some (nm, (List.range k).map (fun i => f + Int32.ofNat i)), TB, rw, sk, pk, fr) → gxF_88 p1 m 39 [y2, y4] [] [] X u X' → cx_CS X' sr hz (U, some (nm, (List.range (last + 1)).map (fun i => f + Int32.ofNat i)), TB, rw, sk, pk, fr) ∧ cx_fc sr X X' ∧ (∀ k, X'.1 82 k = X.1 82 k) ∧ (∀ k, X'.1 86 k = X.1 86 k) := by
  have hfi : ∀ i : Nat, i ≤ 64 → (f + Int32.ofNat i).toInt = f.toInt + i := fun i hi => by
    have e : (Int32.ofNat i).toInt = (i : Int) := fx_ofI (a := (i : Int)) (by omega) (by omega)
    rw [fx_add (by rw [e]; omega) (by rw [e]; omega), e]
  intro m
  induction m with
  | zero => intro k y4 X _ _ _ _ g; exact g.elim
  | succ m ih =>
    intro k y4 X hk h1 hkl hC g
    replace g := gxO_88_39 g
    unfold gxT_88_39 at g
    by_cases z : k ≤ last
    · rw [if_neg (by omega)] at g
      obtain ⟨b20, eb, w22, X21, r, x23, rfl, g⟩ := g
      have hC' := hC
      obtain ⟨g0, g1, g2, g3, g4, g5, g6, g7, g8, g9⟩ := hC'
      rw [g8] at eb
      cases eb
      have h8 : U.length < 8 := (g0.2.2.2.2.2.2.2.1 _ rfl).2
      have hlen : ((List.range k).map (fun i => f + Int32.ofNat i)).length = k := by rw [List.length_map, List.length_range]
      have hv := (g2 _ rfl).2
      dsimp only at hv
      have hy4 : y4 = f + Int32.ofNat k := fx_inj (by rw [hk, hfi k (by omega)])
      have hnot : ¬ (y4 ∈ (List.range k).map (fun i => f + Int32.ofNat i) ∨ 64 ≤ ((List.range k).map (fun i => f + Int32.ofNat i)).length) := fun z => by
        rcases z with z | z
        · obtain ⟨i, hi, e⟩ := List.mem_map.mp z
          have hi' := List.mem_range.mp hi
          have := hfi i (by omega)
          rw [e, hk] at this
          omega
        · rw [hlen] at z; omega
      rcases cx_87 g9 h8 g1.1 hv (by rw [hlen]; omega) r with ⟨a1, -⟩ | ⟨-, -, y, hy, hX⟩
      · exact absurd a1 hnot
      · obtain ⟨b1, b2, b3, b4, b5⟩ := cx_li_CS (p := y4) hC hy (by rw [hlen]; omega)
        rw [← hX] at b1 b2 b3 b4
        have hr : (List.range k).map (fun i => f + Int32.ofNat i) ++ [y4] = (List.range (k + 1)).map (fun i => f + Int32.ofNat i) := by
          rw [List.range_succ, List.map_append, hy4]; rfl
        rw [hr] at b1
        obtain ⟨c1, c2, c3, c4⟩ := ih (k + 1) _ X21 (by
          have e1 : (Int32.ofInt 1).toInt = 1 := rfl
          rw [fx_add (by rw [hk, e1]; omega) (by rw [hk, e1]; omega), hk, e1]; omega) (by omega) (by omega) b1 g
        exact ⟨c1, cx_fc_tr b2 c2, fun k => (c3 k).trans (b3 k), fun k => (c4 k).trans (b4 k)⟩
    · have e : k = last + 1 := by omega
      rw [if_pos (by omega)] at g
      subst e
      subst g
      exact ⟨hC, cx_fc_rf, fun _ => rfl, fun _ => rfl⟩
theorem cx_88 (hT : cx_Tk X T) (hN : cx_N X i (182, near, lead)) (hn : near ≤ 2000) (hp : p.toInt = (i : Int)) (hA : (X.1 86 i).toInt = 0) (hC : cx_CS X sr hz (U, cu, TB, rw, sk, pk, fr)) (g : gx_88 p X u X') : cx_Pq T sr hz cn (U, cu, TB, rw, sk, pk, fr) (182, near, lead) i X X' := by
  match cu, hC with
  | none, _ => exact cx_Pq_o md_k182
  | some (_, []), _ => exact cx_Pq_o md_k182
  | some (_, _ :: _ :: _), _ => exact cx_Pq_o md_k182
  | some (nm, [f]), hC =>
    by_cases hb : f.toInt < -100000 ∨ 100000 < f.toInt
    · exact cx_Pq_o (by rw [md_k182]; exact if_pos hb)
    simp only [not_or, Int.not_lt] at hb
    have hC' := hC
    obtain ⟨g0, g1, g2, g3, g4, g5, g6, g7, g8, g9⟩ := hC'
    replace g1 : cx_U X sr U := g1
    have h8 : U.length < 8 := (g0.2.2.2.2.2.2.2.1 _ rfl).2
    obtain ⟨m, w3, X2, r1, b6, eb, w8, X7, r2, g⟩ := g
    obtain ⟨rfl, rfl⟩ := cx_82 hT hN hn hp r1
    rw [g8] at eb
    cases eb
    have hf : X = X7 ∧ w8 = f := by
      obtain ⟨x2, rfl, r2⟩ := r2
      have e64 := cx_64k g1.1 (by omega)
      rw [if_pos (by omega), fx_in e64] at r2
      exact ⟨r2.2.2.symm, by rw [r2.2.1]; exact (g2 _ rfl).2.2 0 f rfl⟩
    obtain ⟨rfl, rfl⟩ := hf
    have e63 : ((Int8.ofInt 63).toInt32).toInt = 63 := by decide
    have h63 : (w8 + ((Int8.ofInt 63).toInt32)).toInt = w8.toInt + 63 := by rw [fx_add (by rw [e63]; omega) (by rw [e63]; omega), e63]
    have hm : ∀ o, (if (md_it T near).toInt < w8.toInt ∨ w8.toInt + 63 < (md_it T near).toInt then some none else md_k ((U, some (nm, (List.range ((md_it T near).toInt - w8.toInt + 1).toNat).map (fun i => w8 + Int32.ofNat i)), TB, rw, sk, pk, fr), (0 : Int))) = o → md_ckg cn T (U, some (nm, [w8]), TB, rw, sk, pk, fr) (182, near, lead) = o := fun o h => by
      rw [md_k182]; exact (if_neg (by omega)).trans h
    rcases fy_ifd g with ⟨c, gh⟩ | ⟨c, gh⟩
    · obtain ⟨_, X11, r3, rfl⟩ := gh
      exact cx_Pq_n (hm _ (if_pos (Or.inl c))) (by decide) r3
    · rw [h63] at gh
      rcases fy_ifd gh with ⟨c1, gi⟩ | ⟨c1, gi⟩
      · obtain ⟨_, X11, r3, rfl⟩ := gi
        exact cx_Pq_n (hm _ (if_pos (Or.inr c1))) (by decide) r3
      · obtain ⟨x14, rfl, gi⟩ := gi
        obtain ⟨last, hlast⟩ : ∃ last : Nat, (md_it T near).toInt = w8.toInt + last := ⟨((md_it T near).toInt - w8.toInt).toNat, by omega⟩
        have e1 : (Int32.ofInt 1).toInt = 1 := rfl
        have h1 : (w8 + Int32.ofInt 1).toInt = w8.toInt + (1 : Nat) := by rw [fx_add (by rw [e1]; omega) (by rw [e1]; omega), e1]; rfl
        have hv1 : [w8] = (List.range 1).map (fun i => w8 + Int32.ofNat i) := by
          show [w8] = [w8 + Int32.ofNat 0]
          have : w8 + Int32.ofNat 0 = w8 := Int32.add_zero w8
          rw [this]
        obtain ⟨c1, c2, c3, c4⟩ := cx_88l (last := last) hb.1 hb.2 (by omega) hlast m 1 _ X h1 (Nat.le_refl _) (by omega) (by rw [← hv1]; exact hC) gi
        refine cx_Pq_k hA (hm _ ((if_neg (by omega)).trans ?_)) (c3 5) c4 c1 c2
        rw [hlast, show (w8.toInt + (last : Int) - w8.toInt + 1).toNat = last + 1 by omega]
theorem cx_91 (hT : cx_Tk X T) (hN : cx_N X i (a, near, lead)) (hp : p.toInt = (i : Int)) (hC : cx_CS X sr hz (U, cu, TB, rw, sk, pk, fr)) (g : gx_91 p X v X') : (0 ≤ md_ix (T.2 near) (TB.map (·.1)) 0 ∧ v.toInt = 0 ∧ gx_64 (Int32.ofInt 3) p X () X') ∨ (md_ix (T.2 near) (TB.map (·.1)) 0 < 0 ∧ v.toInt = 1 ∧ X' = X) := by
  obtain ⟨g0, g1, g2, g3, g4, g5, g6, g7, g8, g9⟩ := hC
  obtain ⟨b3, eb, w7, X6, r1, w9, X8, r2, g⟩ := g
  rw [g8] at eb
  cases eb
  obtain ⟨rfl, rfl⟩ := cx_60 hT hN hp r1
  obtain ⟨rfl, e1⟩ := cx_62 g3 g0.2.2.2.2.1 r2
  dsimp only at e1
  rcases fy_ifd g with ⟨c, gh⟩ | ⟨c, gh⟩
  · exact Or.inr ⟨by omega, by rw [gh.1]; rfl, gh.2⟩
  · obtain ⟨u, X11, r3, rfl, rfl⟩ := gh
    exact Or.inl ⟨by omega, rfl, r3⟩
theorem cx_85a (hT : cx_Tk X T) (hN : cx_N X i (a, near, lead)) (hn : near ≤ 2000) (hp1 : p1.toInt = a) (hp2 : p2.toInt = (i : Int)) (hA : (X.1 86 i).toInt = 0) (ha : a ≤ 185) (h137 : a ≠ 137) (hC : cx_CS X sr hz (U, cu, TB, rw, sk, pk, fr)) (g : gx_85 p1 p2 X u X') : cx_Pq T sr hz cn (U, cu, TB, rw, sk, pk, fr) (a, near, lead) i X X' := by
  have hC' := hC
  obtain ⟨g0, g1, g2, g3, g4, g5, g6, g7, g8, g9⟩ := hC'
  replace g1 : cx_U X sr U := g1
  replace g3 : cx_TB X sr hz TB := g3
  have hO1 := g7.1
  unfold gx_85 at g
  rw [hp1] at g
  rcases fy_ifd g with ⟨c, gg⟩ | ⟨c180, g⟩
  · subst c
    obtain ⟨b5, eb, w9, X8, r1, w11, X10, r2, gg⟩ := gg
    rw [g8] at eb
    cases eb
    obtain ⟨rfl, rfl⟩ := cx_60 hT hN hp2 r1
    obtain ⟨rfl, e1⟩ := cx_84 g1 g0.2.2.2.1 r2
    rcases fy_ifd gg with ⟨c, gh⟩ | ⟨c, gh⟩
    · obtain ⟨b14, eb, w18, X17, r3, w20, X19, r4, rfl⟩ := gh
      rw [g8] at eb
      cases eb
      obtain ⟨rfl, rfl⟩ := cx_60 hT hN hp2 r3
      by_cases h8 : 8 ≤ U.length
      · exact cx_Pq_o (by rw [md_k180, if_neg (by omega), if_pos h8])
      · have e2 := cx_86 g9 (by omega) g1.1 r4
        have hm : md_ckg cn T (U, cu, TB, rw, sk, pk, fr) (180, near, lead) = md_k ((U, some (T.2 near, []), TB, rw, sk, pk, fr), 0) := by rw [md_k180, if_neg (by omega), if_neg h8]
        have i1 : ∀ r, r ≠ sr + 2 → X'.1 r = X.1 r := fun r h => by rw [e2, fx_rIn h, fx_rL1]
        have l1 : ∀ r, r ≠ sr + 1 → X'.2.1 r = X.2.1 r := fun r h => by rw [e2]; show (fx_wL X (sr + 1) U.length _).2.1 r = _; rw [fx_rLn h]
        have r1 : X'.2.2 = X.2.2 := by rw [e2]; rfl
        refine cx_Pq_k hA hm (by rw [i1 82 (by omega)]) (fun j => by rw [i1 86 (by omega)]) (cx_uw hC (fun r h _ => i1 r h) l1 r1 (md_gd_ck g0 hm) (fun u x hx => ?_) (fun x hx => ?_)) (cx_fc_of (fun r k c => by rw [i1 r (fun z => c (Or.inl (by unfold cx_wa; omega)))]) (fun r k c => by rw [l1 r (fun z => c (by unfold cx_wa; omega))]) r1)
        · have hu := (List.getElem?_eq_some_iff.mp hx).1
          refine ⟨?_, ?_, fun i v hv => by rw [i1 _ (by omega)]; exact (g1.2.2 u x hx).2.2 i v hv⟩
          · rw [e2]
            show (fx_wL X (sr + 1) U.length _).2.1 (sr + 1) u = _
            rw [fx_rLk (by omega)]
            exact (g1.2.2 u x hx).1
          · rw [e2, fx_rIk (by omega), fx_rL1]
            exact (g1.2.2 u x hx).2.1
        · cases hx
          refine ⟨?_, ?_, fun i v hv => by cases hv⟩
          · rw [e2]
            show (fx_wL X (sr + 1) U.length _).2.1 (sr + 1) U.length = _
            rw [fx_rLe]
          · rw [e2, fx_rIe]; rfl
    · obtain ⟨_, X21, r3, rfl⟩ := gh
      exact cx_Pq_n (by rw [md_k180, if_pos (by omega)]) (by decide) r3
  rcases fy_ifd g with ⟨c, gg⟩ | ⟨c181, g⟩
  · subst c
    obtain ⟨b25, eb, w29, X28, r1, w31, X30, r2, gg⟩ := gg
    rw [g8] at eb
    cases eb
    obtain ⟨rfl, rfl⟩ := cx_82 hT hN hn hp2 r1
    match cu, hC, g0, g2 with
    | none, _, _, _ => exact cx_Pq_o md_k181
    | some (nm, vs), hC, g0, g2 =>
      have h8 := g0.2.2.2.2.2.2.2.1 _ rfl
      rcases cx_87 g9 h8.2 g1.1 (g2 _ rfl).2 h8.1 r2 with ⟨a1, a2, a3⟩ | ⟨a1, a2, y, hy, a3⟩
      · rw [if_pos a2] at gg
        obtain ⟨_, X33, r3, rfl⟩ := gg
        subst a3
        exact cx_Pq_n (by rw [md_k181]; exact if_pos a1) (by decide) r3
      · rw [if_neg (by omega)] at gg
        have a1' := a1
        simp only [not_or] at a1'
        have h64 : vs.length < 64 := by have := a1'.2; omega
        obtain ⟨b1, b2, b3, b4, -⟩ := cx_li_CS (p := md_it T near) hC hy h64
        rw [gg, a3]
        exact cx_Pq_k hA (by rw [md_k181]; exact if_neg a1) (b3 5) b4 b1 b2
  rcases fy_ifd g with ⟨c, gg⟩ | ⟨c182, g⟩
  · subst c
    obtain ⟨_, X36, r1, rfl⟩ := gg
    exact cx_88 hT hN hn hp2 hA hC r1
  rcases fy_ifd g with ⟨c, gg⟩ | ⟨c183, g⟩
  · subst c
    obtain ⟨b40, eb, w42, X41, r1, gg⟩ := gg
    rw [g8] at eb
    cases eb
    match cu, hC, g0, g2 with
    | none, _, _, _ => exact cx_Pq_o md_k183
    | some (nm, vs), hC, g0, g2 =>
      have h8 := g0.2.2.2.2.2.2.2.1 _ rfl
      dsimp only at h8
      have hal := g0.2.2.2.2.2.2.2.2
      dsimp only at hal
      obtain ⟨w3, X2, r2, x4, rfl, r1⟩ := r1
      obtain ⟨rfl, rfl⟩ := cx_4 g1.1 h8.2 r2
      have hsz := (g2 _ rfl).2.1
      dsimp only at hsz
      have h13 : (X.1 sr 13).toInt = (md_all U : Int) := g1.2.1
      have hb : (md_all U : Int) * (vs.length : Int) ≤ 65536 := by
        have : md_all U * vs.length ≤ 1024 * 64 := Nat.mul_le_mul hal h8.1
        have e : ((md_all U * vs.length : Nat) : Int) = (md_all U : Int) * (vs.length : Int) := Int.natCast_mul _ _
        omega
      have hb0 : 0 ≤ (md_all U : Int) * (vs.length : Int) := Int.mul_nonneg (by omega) (by omega)
      have hx4 : (X.1 sr 13 * X.1 (sr + 2) U.length).toInt = ((md_all U * vs.length : Nat) : Int) := by
        rw [fx_mul (by rw [h13, hsz]; omega) (by rw [h13, hsz]; omega), h13, hsz, Int.natCast_mul]
      rcases fy_ifd r1 with ⟨c, rr⟩ | ⟨c, rr⟩
      · obtain ⟨e0, rfl⟩ := rr
        rw [if_pos (by rw [e0]; rfl)] at gg
        obtain ⟨_, X44, r3, rfl⟩ := gg
        exact cx_Pq_n (by rw [md_k183]; exact if_pos (by show 1024 < md_all U * vs.length; omega)) (by decide) r3
      · have h11 : (X.1 sr 11).toInt = (U.length : Int) := g1.1
        rw [if_pos (by omega)] at rr
        obtain ⟨X8, rfl, X9, e9, e0, rfl⟩ := rr
        rw [if_neg (by rw [e0]; decide)] at gg
        rw [← gg] at e9
        have hm : md_ckg cn T (U, some (nm, vs), TB, rw, sk, pk, fr) (183, near, lead) = md_k ((U ++ [(nm, vs)], none, TB, rw, sk, pk, fr), 0) := by
          rw [md_k183]; exact (if_neg (by show ¬ 1024 < md_all U * vs.length; omega)).trans (if_neg (by omega))
        rw [fx_rIk (by decide)] at e9
        have i1 : ∀ r k, r ≠ sr → X'.1 r k = X.1 r k := fun r k h => by rw [e9, fx_rIn h, fx_rIn h]
        have i2 : ∀ k, k ≠ 11 → k ≠ 13 → X'.1 sr k = X.1 sr k := fun k h h' => by rw [e9, fx_rIk h, fx_rIk h']
        have r1 : X'.2 = X.2 := by rw [e9]; rfl
        have v1 : ∀ u vs, cx_vs X sr u vs → cx_vs X' sr u vs := fun u vs hv => ⟨by rw [i1 _ _ (by omega)]; exact hv.1, fun i v hx => by rw [i1 _ _ (by omega)]; exact hv.2 i v hx⟩
        obtain ⟨c1, c2⟩ := cx_co (X := X) (X' := X') (fun k => i1 91 k (by omega)) (fun k => i1 93 k (by omega)) (by rw [r1]) (fun k => by rw [r1]) (fun k => by rw [r1])
        refine cx_Pq_k hA hm (i1 _ _ (by omega)) (fun j => i1 _ _ (by omega)) ⟨md_gd_ck g0 hm, ⟨?_, ?_, fun u x hx => ?_⟩, fun x hx => (by cases hx), ⟨by rw [i2 12 (by decide) (by decide)]; exact g3.1, fun t x hx => ?_⟩, ⟨by rw [i1 _ _ (by omega)]; exact g4.1, c1 _ g4.2⟩, c2 _ g5, by rw [r1]; exact g6, by unfold cx_O; rw [r1]; exact g7, by rw [r1]; exact g8, g9⟩ (cx_fc_of (fun r k c => ?_) (fun r k _ => by rw [r1]) (by rw [r1]))
        · rw [e9, fx_rIe, cx_inc h11 (by omega), List.length_append]; rfl
        · rw [e9, fx_rIk (by decide), fx_rIe, hx4, md_all_app]
        · rw [List.getElem?_append] at hx
          split at hx
          · rw [r1]
            exact ⟨(g1.2.2 u x hx).1, v1 _ _ (g1.2.2 u x hx).2⟩
          · have e1 : u = U.length := by
              have := (List.getElem?_eq_some_iff.mp hx).1
              have : u - U.length < 1 := this
              omega
            subst e1
            rw [Nat.sub_self] at hx
            cases hx
            rw [r1]
            exact ⟨(g2 _ rfl).1, v1 _ _ (g2 _ rfl).2⟩
        · obtain ⟨a1, a2, r, a3, a4, a5, a6⟩ := g3.2 t x hx
          have ht := (List.getElem?_eq_some_iff.mp hx).1
          have h10 : TB.length ≤ 10 := g0.2.2.2.2.1
          dsimp only at ht
          have hr := (g7.2.1 (sr + 8, t) r (cx_slot g9 (by omega)) a3).1
          exact ⟨by rw [r1]; exact a1, by rw [i1 _ _ (by omega)]; exact a2, r, by rw [r1]; exact a3, by rw [i1 _ _ (by omega)]; exact a4, fun z => by rw [i1 _ _ (by omega)]; exact a5 z, fun c n hc => by rw [r1]; exact a6 c n hc⟩
        · by_cases z : r = sr
          · subst z
            exact i2 k (fun y => c (Or.inr (Or.inr ⟨rfl, Or.inl y⟩))) (fun y => c (Or.inr (Or.inr ⟨rfl, Or.inr (Or.inr y)⟩)))
          · exact i1 r k z
  rcases fy_ifd g with ⟨c, gg⟩ | ⟨c184, g⟩
  · subst c
    obtain ⟨w48, X47, r1, gg⟩ := gg
    rcases cx_91 hT hN hp2 hC r1 with ⟨a1, a2, a3⟩ | ⟨a1, a2, rfl⟩
    · rw [if_pos a2] at gg
      rw [gg]
      exact cx_Pq_n (by rw [md_k184, if_pos a1]) (by decide) a3
    · rw [if_neg (by omega)] at gg
      obtain ⟨b51, eb, w55, X54, r2, w57, X56, r3, rfl⟩ := gg
      rw [g8] at eb
      cases eb
      obtain ⟨rfl, rfl⟩ := cx_60 hT hN hp2 r2
      by_cases h10 : 10 ≤ TB.length
      · exact cx_Pq_o (by rw [md_k184, if_neg (by omega), if_pos h10])
      · obtain ⟨-, b2, b3, b4, b5, b6, b7⟩ := cx_92T (b := false) g9 g7 g3 (by omega) (Or.inl ⟨rfl, rfl⟩) r3
        have hm : md_ckg cn T (U, cu, TB, rw, sk, pk, fr) (184, near, lead) = md_k ((U, cu, TB ++ [(T.2 near, false, [])], rw, sk, pk, fr), 0) := by rw [md_k184, if_neg (by omega), if_neg h10]
        obtain ⟨f1, f2, f3, f4, -⟩ := cx_fs_co g7 g9 b4
        exact cx_Pq_k hA hm (f4 5) f3 (cx_tw hC b4 b5 b6 b7 (md_gd_ck g0 hm) b2 b3) (cx_fs_fc b4)
  rcases fy_ifd g with ⟨c, gg⟩ | ⟨c185, g⟩
  · subst c
    obtain ⟨b60, eb, w64, X63, r1, w66, X65, r2, gg⟩ := gg
    rw [g8] at eb
    cases eb
    obtain ⟨rfl, rfl⟩ := cx_60 hT hN hp2 r1
    cases hl : TB.getLast? with
    | none => exact cx_Pq_o (by rw [md_k185, hl])
    | some x =>
      obtain ⟨nm, b, cs⟩ := x
      have hTB : TB = TB.dropLast ++ [(nm, b, cs)] := by
        obtain ⟨ys, hys⟩ := List.getLast?_eq_some_iff.mp hl
        have h2 : TB.dropLast = ys := by rw [hys, List.dropLast_concat]
        rw [h2]
        exact hys
      have h10 : TB.length ≤ 10 := g0.2.2.2.2.1
      have hlen : TB.length = TB.dropLast.length + 1 := by
        have := congrArg List.length hTB
        rw [List.length_append] at this
        exact this
      have g3' : cx_TB X sr hz (TB.dropLast ++ [(nm, b, cs)]) := by rw [← hTB]; exact g3
      rcases cx_93 g9 g7 g3' (by omega) (g0.1 (nm, b, cs) (List.mem_of_getLast? hl)).2 (fun x hx => (g0.1 x (List.dropLast_subset _ hx)).2) r2 with ⟨a1, a2, a3⟩ | ⟨a1, a2, b2, b3, b4, b5, b6⟩
      · rw [if_pos a2] at gg
        obtain ⟨_, X68, r3, rfl⟩ := gg
        subst a3
        exact cx_Pq_n (by rw [md_k185, hl]; exact if_pos a1) (by decide) r3
      · rw [if_neg (by omega)] at gg
        subst gg
        have hm : md_ckg cn T (U, cu, TB, rw, sk, pk, fr) (185, near, lead) = md_k ((U, cu, TB.dropLast ++ [(nm, b, cs ++ [T.2 near])], rw, sk, pk, fr), 0) := by rw [md_k185, hl]; exact if_neg a1
        obtain ⟨f1, f2, f3, f4, -⟩ := cx_fs_co g7 g9 b4
        exact cx_Pq_k hA hm (f4 5) f3 (cx_tw hC b4 b5 (by rw [b6]) (by rw [b6]) (md_gd_ck g0 hm) b2 b3) (cx_fs_fc b4)
  have ha6 : ¬ a = 186 := by omega
  rw [if_neg ha6, if_neg (by omega), if_neg (by omega)] at g
  rw [g]
  have hm := md_kx (cn := cn) (T := T) (U := U) (cu := cu) (TB := TB) (rw := rw) (sk := sk) (pk := pk) (fr := fr) (near := near) (lead := lead) (a := a) (by omega)
  exact cx_Pq_k hA hm rfl (fun _ => rfl) hC cx_fc_rf
end CX24
