/-! THE CLASS'S CHECKER: notes of a Q and of a COND -/
/-- what a note does -/
def cx_Po (T : md_T) (sr : Nat) (hz : Prop) (cn : Option Int) (s : md_CS) (e : md_Ev) (i : Nat) (X X' : fx_X) : Prop := match md_ckg cn T s e with
  | none => True
  | some none => (X'.1 82 5).toInt ≠ 0
  | some (some q) => X'.1 82 5 = X.1 82 5 ∧ cx_CS X' sr hz q.1 ∧ (X'.1 86 i).toInt = q.2 ∧ ∀ j, j ≠ i → X'.1 86 j = X.1 86 j
section CX20
variable {X X' X1 X2 : fx_X} {T : md_T} {v p p0 p1 p2 : Int32} {w q : Int64} {u : Unit} {sr i k d near lead : Nat} {U : md_U} {cu : Option (Int64 × List Int32)} {TB : md_TB} {rw rw' : Int × Int} {sk sk' : List (List Int64)} {pk pk' cs : List Int64} {fr fr' : Int64} {hz : Prop} {cn : Option Int} {a : Int} {F L : List (Nat × Nat)} {A : List Nat} {s s' : md_CS}
theorem cx_64n (hp : p1.toInt ≠ 0) (g : gx_64 p1 p2 X u X') : (X'.1 82 5).toInt ≠ 0 := by
  obtain ⟨_, _, _, _, _, _, _, _, r3, rfl⟩ := g
  exact (cx_44 hp r3).1
theorem cx_71n (hp : p1.toInt ≠ 0) (g : gx_71 p1 p2 X u X') : (X'.1 82 5).toInt ≠ 0 := by
  obtain ⟨_, _, _, _, _, _, _, _, r3, rfl⟩ := g
  exact (cx_44 hp r3).1
theorem cx_41f (g : gx_41 p1 p2 X u X') : X'.1 82 5 = X.1 82 5 := (gf_41 g).2.2 82 5 (by decide) (by decide)
theorem cx_as (hC : cx_CS X sr hz (U, cu, TB, rw, sk, pk, fr)) (hf : fy F L A X X') (hF : ∀ q, q ∈ F → q.1 = 82 ∨ q.1 = 91) (hL : ∀ q, q ∈ L → q.1 = 91) (hA : ∀ a, a ∈ A → 86 ≤ a ∧ a ≤ 94) (hg : md_gd (U, cu, TB, rw', sk', pk', fr')) (h5 : (X'.1 91 5).toInt = (sk'.length : Int)) (hl : cx_lv X' sk') (hp : cx_pk X' pk') (hr : X'.2.1 91 8 = fr') : cx_CS X' sr hz (U, cu, TB, rw', sk', pk', fr') := by
  obtain ⟨g0, g1, g2, g3, g4, g5, g6, g7, g8, g9⟩ := hC
  obtain ⟨a1, a2, a3, a4⟩ := cx_sh_fy (hz := hz) g7 g9 hf hF hL hA
  exact ⟨hg, a1 _ g1, a2 _ _ g2, a3 _ g0.2.2.2.2.1 g3, ⟨h5, hl⟩, hp, hr, a4, by rw [hf.1]; exact g8, g9⟩
/-- nothing but the plan changed -/
theorem cx_as0 (hC : cx_CS X sr hz (U, cu, TB, rw, sk, pk, fr)) (hf : fy [(82, 5), (82, 6)] [] [86] X X') : cx_CS X' sr hz (U, cu, TB, rw', sk, pk, fr) := by
  have hl : ∀ sk : List (List Int64), cx_lv X sk → cx_lv X' sk := by
    intro sk
    induction sk with
    | nil => exact fun _ => True.intro
    | cons cs sk ih => exact fun h => ⟨⟨by rw [fy_ra hf (by decide) (by decide)]; exact h.1.1, fun c n hn => by rw [fy_rl hf (by decide) (by decide)]; exact h.1.2 c n hn⟩, ih h.2⟩
  have hC' := hC
  obtain ⟨g0, g1, g2, g3, g4, g5, g6, g7, g8, g9⟩ := hC'
  exact cx_as hC hf (by decide) (by decide) (by decide) (md_gd_rw g0) (by rw [fy_ra hf (by decide) (by decide)]; exact g4.1) (hl _ g4.2) (cx_pk_fy g5 hf (by decide) (by decide) (by decide) (by decide)) (by rw [hf.2.1 91 8 (by decide) (by decide)]; exact g6)
theorem cx_CS_gd (hC : cx_CS X sr hz s) : md_gd s := hC.1
/-- a search that sets the argument -/
theorem cx_78 (hi : i < 2500) (hp1 : p1.toInt = (i : Int)) (g : gx_78 p1 p2 X u X') : (p2.toInt < 0 ∧ (X'.1 82 5).toInt ≠ 0) ∨ (¬ p2.toInt < 0 ∧ X' = fx_wI X 86 i p2) := by
  rcases fy_ifd g with ⟨c, g⟩ | ⟨c, g⟩
  · obtain ⟨_, X6, r1, _, X9, r2, rfl⟩ := g
    exact Or.inl ⟨c, by rw [cx_41f r2]; exact cx_64n (by decide) r1⟩
  · obtain ⟨_, X4, r1, rfl⟩ := g
    exact Or.inr ⟨c, cx_41 hp1 hi r1⟩
theorem cx_wF (v : Int32) : fy [(82, 5), (82, 6)] [] [86] X (fx_wI X 86 i v) := fy_a fy_rf (by decide)
/-- the argument is set, else nothing happens -/
theorem cx_Po_w {v : Int32} (hC : cx_CS X sr hz (U, cu, TB, rw, sk, pk, fr)) (hm : md_ckg cn T (U, cu, TB, rw, sk, pk, fr) (a, near, lead) = md_k ((U, cu, TB, rw', sk, pk, fr), v.toInt)) : cx_Po T sr hz cn (U, cu, TB, rw, sk, pk, fr) (a, near, lead) i X (fx_wI X 86 i v) := by
  unfold cx_Po
  rw [hm]
  exact ⟨by rw [fx_rIn (by decide)], cx_as0 hC (cx_wF v), by rw [fx_rIe], fun j hj => by rw [fx_rIk hj]⟩
theorem cx_Po_n (hm : md_ckg cn T (U, cu, TB, rw, sk, pk, fr) (a, near, lead) = some none) (h : (X'.1 82 5).toInt ≠ 0) : cx_Po T sr hz cn (U, cu, TB, rw, sk, pk, fr) (a, near, lead) i X X' := by
  unfold cx_Po
  rw [hm]
  exact h
theorem cx_Po_o (hm : md_ckg cn T (U, cu, TB, rw, sk, pk, fr) (a, near, lead) = none) : cx_Po T sr hz cn (U, cu, TB, rw, sk, pk, fr) (a, near, lead) i X X' := by
  unfold cx_Po
  rw [hm]
  exact True.intro
theorem cx_Po_s (hC : cx_CS X sr hz (U, cu, TB, rw, sk, pk, fr)) (hA : (X.1 86 i).toInt = 0) (hm : md_ckg cn T (U, cu, TB, rw, sk, pk, fr) (a, near, lead) = md_k ((U, cu, TB, rw', sk, pk, fr), 0)) : cx_Po T sr hz cn (U, cu, TB, rw, sk, pk, fr) (a, near, lead) i X X := by
  unfold cx_Po
  rw [hm]
  exact ⟨rfl, cx_as0 hC fy_rf, hA, fun j _ => rfl⟩
theorem cx_lvl {cs : List Int64} (hC : cx_CS X sr hz (U, cu, TB, rw, cs :: sk, pk, fr)) : cx_l1 X sk.length cs ∧ cs.length ≤ 6 ∧ sk.length < 20 ∧ (X.1 91 5 - Int32.ofInt 1).toInt = (sk.length : Int) := by
  obtain ⟨g0, g1, g2, g3, g4, g5, g6, g7, g8, g9⟩ := hC
  have h20 : sk.length + 1 ≤ 20 := g0.2.2.2.2.2.1
  exact ⟨g4.2.1, (g0.2.1 cs List.mem_cons_self).2, by omega, cx_dec g4.1 (by omega)⟩
theorem cx_81 (hT : cx_Tk X T) (hN : cx_N X i (a, near, lead)) (hn : near ≤ 2000) (hp1 : p1.toInt = a) (hp2 : p2.toInt = (i : Int)) (hA : (X.1 86 i).toInt = 0) (ha : 200 ≤ a) (ha2 : a < 210) (hC : cx_CS X sr hz (U, cu, TB, rw, sk, pk, fr)) (g : gx_81 p1 p2 X u X') : cx_Po T sr hz cn (U, cu, TB, rw, sk, pk, fr) (a, near, lead) i X X' := by
  have hC' := hC
  obtain ⟨g0, g1, g2, g3, g4, g5, g6, g7, g8, g9⟩ := hC'
  unfold gx_81 at g
  rw [hp1] at g
  rcases fy_ifd g with ⟨c, g⟩ | ⟨c200, g⟩
  · subst c
    obtain ⟨w6, X5, r1, w8, X7, r2, rfl⟩ := g
    obtain ⟨rfl, rfl⟩ := cx_82 hT hN hn hp2 r1
    rw [cx_41 hp2 hN.1 r2]
    exact cx_Po_w hC md_k200
  rcases fy_ifd g with ⟨c, g⟩ | ⟨c201, g⟩
  · subst c
    obtain ⟨b, eb, w15, X14, r1, w17, X16, r2, w19, X18, r3, rfl⟩ := g
    rw [g8] at eb
    cases eb
    obtain ⟨rfl, rfl⟩ := cx_60 hT hN hp2 r1
    obtain ⟨rfl, e⟩ := cx_84 g1 g0.2.2.2.1 r2
    dsimp only at e
    rcases cx_78 hN.1 hp2 r3 with ⟨h1, h2⟩ | ⟨h1, h2⟩
    · exact cx_Po_n (by rw [md_k201, if_pos (by omega)]) h2
    · rw [h2]
      exact cx_Po_w hC (by rw [md_k201, if_neg (by omega), e])
  rcases fy_ifd g with ⟨c, g⟩ | ⟨c202, g⟩
  · subst c
    obtain ⟨w22, X21, r1, w24, X23, r2, w26, X25, r3, rfl⟩ := g
    obtain ⟨rfl, rfl⟩ := cx_60 hT hN hp2 r1
    cases sk with
    | nil => exact cx_Po_o md_k202
    | cons cs sk =>
      obtain ⟨b1, b2, b3, b4⟩ := cx_lvl hC
      obtain ⟨rfl, e⟩ := cx_74 b1 b3 b2 b4 r2
      rcases cx_78 hN.1 hp2 r3 with ⟨h1, h2⟩ | ⟨h1, h2⟩
      · exact cx_Po_n (by rw [md_k202]; exact if_pos (by omega)) h2
      · rw [h2]
        exact cx_Po_w hC (by rw [md_k202, e]; exact if_neg (by omega))
  rcases fy_ifd g with ⟨c, g⟩ | ⟨c203, g⟩
  · subst c
    obtain ⟨w32, X31, r1, w34, X33, r2, w36, X35, r3, rfl⟩ := g
    obtain ⟨rfl, rfl⟩ := cx_61 hp2 hN.1 r1
    obtain ⟨rfl, e⟩ := cx_46T hT hN.2.2.1 r2
    rw [cx_41 hp2 hN.1 r3]
    exact cx_Po_w hC (by rw [md_k203, e])
  · rw [g]
    exact cx_Po_s hC hA (md_kx (by omega))
end CX20
