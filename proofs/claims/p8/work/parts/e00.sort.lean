/-! THE CLASS'S WORKER: GROUPS put in their order -/
section CX68
variable {X X' X0 X1 : fx_X} {v p0 p1 p2 p3 y2 y3 : Int32} {u : Unit} {sr r rs W n i j c m k a b : Nat} {val : md_V} {C C' : List (List Int32)} {D : Nat → List Int32 → Bool} {x y z : List Int32}
theorem md_fr_cv {w : Nat} : (md_fr x).map (md_cv val w) = x := by
  unfold md_fr
  rw [List.map_map]
  have : (md_cv val w ∘ fun v => ((false, v) : md_Tm)) = id := funext fun v => rfl
  rw [this, List.map_id]
theorem md_fr_ok (h : x.length ≤ 6) : md_okt n (md_fr x) := by
  refine ⟨by unfold md_fr; rw [List.length_map]; exact h, fun t ht h1 => ?_⟩
  unfold md_fr at ht
  obtain ⟨v, _, rfl⟩ := List.mem_map.mp ht
  cases h1
theorem md_nd_ne (hn : C.Nodup) (hi : C[i]? = some x) (hj : C[j]? = some y) (hij : i ≠ j) : x ≠ y := fun e => by
  subst e
  have l1 := (List.getElem?_eq_some_iff.mp hi).1
  have l2 := (List.getElem?_eq_some_iff.mp hj).1
  exact hij ((List.getElem?_inj l1 hn).mp (hi.trans hj.symm))
/-- two groups compared -/
theorem cx_130g (hce : cx_ce X sr W n val) (hW : 0 < W) (hG : cx_gi X rs W m C D) (h6 : m ≤ 6) (hi : C[i]? = some x) (hj : C[j]? = some y) (hij : i ≠ j) (h2 : p2.toInt = (i : Int)) (h3 : p3.toInt = (j : Int)) (g : gx_130 rs sr p2 (Int32.ofInt 0) rs p3 (Int32.ofInt 0) X v X') : X = X' ∧ ((v.toInt < 0 ∧ md_lt x y = true) ∨ (¬ v.toInt < 0 ∧ md_lt y x = true)) := by
  obtain ⟨⟨q1, q2, q3⟩, q4, q5, q6, q7, q8⟩ := hG
  obtain ⟨a1, a2⟩ := q3 i x hi
  obtain ⟨b1, b2⟩ := q3 j y hj
  have l1 := (List.getElem?_eq_some_iff.mp hi).1
  have l2 := (List.getElem?_eq_some_iff.mp hj).1
  have la : (md_fr x).length = m := by unfold md_fr; rw [List.length_map]; exact a1
  have lb : (md_fr y).length = m := by unfold md_fr; rw [List.length_map]; exact b1
  obtain ⟨c1, c2, -⟩ := cx_130 hce a2 b2 (md_fr_ok (by omega)) (md_fr_ok (by omega)) (la.trans lb.symm) (by rw [la]; exact q2) (by omega) (by omega) hW hW h2 rfl h3 rfl g
  rw [md_fr_cv, md_fr_cv] at c2
  refine ⟨c1, ?_⟩
  rcases md_lt_tri x y (a1.trans b1.symm) with z | z | z
  · exact Or.inl ⟨c2.mpr z, z⟩
  · exact absurd z (md_nd_ne q5 hi hj hij)
  · refine Or.inr ⟨fun w => ?_, z⟩
    have := c2.mp w
    rw [md_lt_as z] at this
    cases this
/-- the least of the rest -/
theorem cx_138m (hce : cx_ce X sr W n val) (hW : 0 < W) (hG : cx_gi X rs W m C D) (h6 : m ≤ 6) (h2 : y2.toInt = (i : Int)) : ∀ (d j b q : Nat) (y3 y4 : Int32), j + d = C.length → y3.toInt = (b : Int) → y4.toInt = (j : Int) → i ≤ b → b < j → (∀ (k : Nat) (zk zb : List Int32), i ≤ k → k < j → k ≠ b → C[k]? = some zk → C[b]? = some zb → md_lt zb zk = true) → gxF_138 sr rs q 17 [y2, y3, y4] [] [] X u X' → ∃ (b : Nat) (y3 : Int32) (q : Nat), y3.toInt = (b : Int) ∧ i ≤ b ∧ b < C.length ∧ (∀ (k : Nat) (zk zb : List Int32), i ≤ k → k ≠ b → C[k]? = some zk → C[b]? = some zb → md_lt zb zk = true) ∧ (if (y3).toInt = (y2).toInt then gxF_138 sr rs q 2 [y2 + Int32.ofInt 1] [] [] X u X' else (∃ (w12 : Unit) (X11 : fx_X), gx_139 rs y2 y3 (X.1 sr 13) X w12 X11 ∧ gxF_138 sr rs q 2 [y2 + Int32.ofInt 1] [] [] X11 u X')) := by
  have q4 := hG.2.1
  have q1 := hG.1.1
  intro d
  induction d with
  | zero =>
    intro j b q y3 y4 hjd h3 h4 hib hbj hmin g
    cases q with
    | zero => exact g.elim
    | succ q =>
      replace g := gxO_138_17 g
      unfold gxT_138_17 at g
      rw [if_neg (by omega)] at g
      refine ⟨b, y3, q, h3, hib, by omega, fun k zk zb k1 k2 k3 k4 => hmin k zk zb k1 (by have := (List.getElem?_eq_some_iff.mp k3).1; omega) k2 k3 k4, ?_⟩
      rcases fy_ifd g with ⟨e, g'⟩ | ⟨e, g'⟩
      · rw [if_pos e]
        obtain ⟨x9, e9, g2⟩ := g'
        rw [← e9]
        exact g2
      · rw [if_neg e]
        obtain ⟨w12, X11, r, x13, e13, g2⟩ := g'
        rw [← e13]
        exact ⟨w12, X11, r, g2⟩
  | succ d ih =>
    intro j b q y3 y4 hjd h3 h4 hib hbj hmin g
    cases q with
    | zero => exact g.elim
    | succ q =>
      replace g := gxO_138_17 g
      unfold gxT_138_17 at g
      have hjl : j < C.length := by omega
      have hbl : b < C.length := by omega
      obtain ⟨zj, hzj⟩ : ∃ z, C[j]? = some z := ⟨C[j], List.getElem?_eq_getElem hjl⟩
      obtain ⟨zb, hzb⟩ : ∃ z, C[b]? = some z := ⟨C[b], List.getElem?_eq_getElem hbl⟩
      rw [if_pos (by omega)] at g
      obtain ⟨w16, X15, r1, g'⟩ := g
      obtain ⟨e15, hc⟩ := cx_130g hce hW hG h6 hzj hzb (by omega) h4 h3 r1
      subst e15
      have nx : (y4 + Int32.ofInt 1).toInt = ((j + 1 : Nat) : Int) := cx_inc h4 (by omega)
      rcases hc with ⟨c1, c2⟩ | ⟨c1, c2⟩
      · rw [if_pos c1] at g'
        obtain ⟨x21, e21, g2⟩ := g'
        refine ih (j + 1) j q y4 x21 (by omega) h4 (by rw [e21]; exact nx) (by omega) (Nat.lt_succ_self _) (fun k zk zb' k1 k2 k3 k4 k5 => ?_) g2
        rw [hzj] at k5
        cases k5
        by_cases e : k = b
        · subst e
          rw [hzb] at k4
          cases k4
          exact c2
        · exact md_lt_tr _ _ _ c2 (hmin k zk zb k1 (by omega) e k4 hzb)
      · rw [if_neg c1] at g'
        obtain ⟨x18, e18, g2⟩ := g'
        refine ih (j + 1) b q y3 x18 (by omega) h3 (by rw [e18]; exact nx) hib (by omega) (fun k zk zb' k1 k2 k3 k4 k5 => ?_) g2
        by_cases e : k = j
        · subst e
          rw [hzj] at k4
          cases k4
          rw [hzb] at k5
          cases k5
          exact c2
        · exact hmin k zk zb' k1 (by omega) k3 k4 k5
/-- all of them -/
theorem cx_138l (hs : sr = 54 ∨ sr = 66) (hrs : rs = 102 ∨ 150 ≤ rs) (hW : 0 < W) (hW4 : W ≤ 1024) (h6 : m ≤ 6) : ∀ (d i q : Nat) (y2 : Int32) (X : fx_X) (C : List (List Int32)), i + d = C.length → y2.toInt = (i : Int) → cx_ce X sr W n val → (X.1 sr 13).toInt = (W : Int) → cx_gi X rs W m C D → (∀ (a b : Nat) (za zb : List Int32), a < i → a < b → C[a]? = some za → C[b]? = some zb → md_lt za zb = true) → gxF_138 sr rs q 2 [y2] [] [] X u X' → ∃ C', cx_gi X' rs W m C' D ∧ md_so C' ∧ cx_rf rs X X' := by
  intro d
  induction d with
  | zero =>
    intro i q y2 X C hid h2 hce h13 hG hso g
    cases q with
    | zero => exact g.elim
    | succ q =>
      replace g := gxO_138_2 g
      unfold gxT_138_2 at g
      have q1 := hG.1.1
      rw [if_neg (by omega)] at g
      have g : X' = X := g
      subst g
      refine ⟨C, hG, List.pairwise_iff_getElem.mpr (fun a b ha hb hab => hso a b _ _ (by omega) hab (List.getElem?_eq_getElem ha) (List.getElem?_eq_getElem hb)), rfl, fun _ _ _ => rfl⟩
  | succ d ih =>
    intro i q y2 X C hid h2 hce h13 hG hso g
    cases q with
    | zero => exact g.elim
    | succ q =>
      replace g := gxO_138_2 g
      unfold gxT_138_2 at g
      have q1 := hG.1.1
      have q4 := hG.2.1
      have hiC : i < C.length := by omega
      rw [if_pos (by omega)] at g
      obtain ⟨x5, e5, g2⟩ := g
      have nx : (y2 + Int32.ofInt 1).toInt = ((i + 1 : Nat) : Int) := cx_inc h2 (by omega)
      obtain ⟨b, y3, q', b1, b2, b3, b4, g3⟩ := cx_138m hce hW hG h6 h2 (C.length - (i + 1)) (i + 1) i q y2 x5 (by omega) h2 (by rw [e5]; exact nx) (Nat.le_refl _) (Nat.lt_succ_self _) (fun k zk zb k1 k2 k3 => absurd (by omega) k3) g2
      obtain ⟨zi, hzi⟩ : ∃ z, C[i]? = some z := ⟨C[i], List.getElem?_eq_getElem hiC⟩
      obtain ⟨zb, hzb⟩ : ∃ z, C[b]? = some z := ⟨C[b], List.getElem?_eq_getElem b3⟩
      rcases fy_ifd g3 with ⟨e, g4⟩ | ⟨e, g4⟩
      · have eb : b = i := by omega
        subst eb
        refine ih (b + 1) q' _ X C (by omega) nx hce h13 hG (fun a c za zc ha hac k1 k2 => ?_) g4
        by_cases z : a = b
        · subst z
          exact b4 c zc za (by omega) (by omega) k2 k1
        · exact hso a c za zc (by omega) hac k1 k2
      · obtain ⟨w12, X11, r, g5⟩ := g4
        have hib : i ≠ b := fun z => e (by rw [b1, h2, z])
        obtain ⟨C', sw, hG', hf⟩ := cx_139 hW4 h6 hG hib hzi hzb h2 b1 h13 r
        have hl := sw.1
        have hce' := cx_ce_rf hce hf hs hrs
        obtain ⟨C2, z1, z2, z3⟩ := ih (i + 1) q' _ X11 C' (by omega) nx hce' (by rw [hf.2 _ _ (by omega)]; exact h13) hG' (fun a c za zc ha hac k1 k2 => by
          rw [md_sw_at sw] at k1 k2
          by_cases z : a = i
          · subst z
            rw [if_pos rfl] at k1
            rw [hzb] at k1
            cases k1
            rw [if_neg (by omega)] at k2
            by_cases zc' : c = b
            · rw [if_pos zc'] at k2
              exact b4 a zc zb (Nat.le_refl _) hib k2 hzb
            · rw [if_neg zc'] at k2
              exact b4 c zc zb (by omega) zc' k2 hzb
          · rw [if_neg z, if_neg (by omega)] at k1
            by_cases zc1 : c = i
            · rw [if_pos zc1] at k2
              exact hso a b za zc (by omega) (by omega) k1 k2
            · rw [if_neg zc1] at k2
              by_cases zc2 : c = b
              · rw [if_pos zc2] at k2
                exact hso a i za zc (by omega) (by omega) k1 k2
              · rw [if_neg zc2] at k2
                exact hso a c za zc (by omega) hac k1 k2) g5
        exact ⟨C2, z1, z2, z3.1.trans hf.1, fun q j hq => (z3.2 q j hq).trans (hf.2 q j hq)⟩
theorem cx_138 (hs : sr = 54 ∨ sr = 66) (hrs : rs = 102 ∨ 150 ≤ rs) (hW : 0 < W) (h6 : m ≤ 6) (hce : cx_ce X sr W n val) (h13 : (X.1 sr 13).toInt = (W : Int)) (hG : cx_gi X rs W m C D) (g : gx_138 sr rs X u X') : ∃ C', cx_gi X' rs W m C' D ∧ md_so C' ∧ cx_rf rs X X' := by
  obtain ⟨q, g⟩ := g
  exact cx_138l hs hrs hW hce.1 h6 C.length 0 q _ X C (by omega) rfl hce h13 hG (fun a b za zb ha => absurd ha (Nat.not_lt_zero a)) g
end CX68
