/-! THE CLASS'S CHECKER: what is told of the shelf -/
section CX22
variable {X X' X1 X2 : fx_X} {T : md_T} {v p p0 p1 p2 : Int32} {w q : Int64} {u : Unit} {sr i k d n near lead : Nat} {U : md_U} {cu cu' : Option (Int64 × List Int32)} {TB : md_TB} {rw rw' : Int × Int} {sk sk' : List (List Int64)} {pk pk' cs : List Int64} {fr fr' : Int64} {hz : Prop} {cn : Option Int} {a : Int} {s s' : md_CS} {vs : List Int32} {nm : Int64}
/-- lists of COLUMNS, where the checker's own are not written -/
theorem cx_co (h1 : ∀ k, X'.1 91 k = X.1 91 k) (h3 : ∀ k, X'.1 93 k = X.1 93 k) (h2 : X'.2.1 91 8 = X.2.1 91 8) (h4 : ∀ k, X'.2.1 92 k = X.2.1 92 k) (h5 : ∀ k, X'.2.1 94 k = X.2.1 94 k) : (∀ sk, cx_lv X sk → cx_lv X' sk) ∧ (∀ pk, cx_pk X pk → cx_pk X' pk) := by
  refine ⟨fun sk => ?_, fun pk h => ⟨by rw [h1]; exact h.1, fun i n hn => by rw [h5]; exact h.2 i n hn⟩⟩
  induction sk with
  | nil => exact fun _ => True.intro
  | cons cs sk ih => exact fun h => ⟨⟨by rw [h3]; exact h.1.1, fun c n hn => by rw [h4]; exact h.1.2 c n hn⟩, ih h.2⟩
theorem cx_64k (hx : p.toInt = (n : Int)) (hn : n ≤ 100) : (p * ((Int8.ofInt 64).toInt32)).toInt = ((64 * n : Nat) : Int) := by
  have e : ((Int8.ofInt 64).toInt32).toInt = 64 := by decide
  rw [fx_mul (by rw [hx, e]; omega) (by rw [hx, e]; omega), hx, e]
  omega
theorem cx_4 (hp : p.toInt = (n : Int)) (hn : n < 8) (g : gx_4 sr p X v X') : X = X' ∧ v = X.1 (sr + 2) n := by
  unfold gx_4 at g
  rw [if_neg (by omega), if_pos (by omega), fx_in hp] at g
  exact ⟨g.2.2.symm, g.2.1⟩
/-- one value more of the UNKNOWN that is being told -/
def cx_li (X : fx_X) (sr n l : Nat) (p v : Int32) : fx_X := fx_wI (fx_wI X (sr + 3) (64 * n + l) p) (sr + 2) n v
theorem cx_87l (hs : sr = 54 ∨ sr = 66) (hn : n < 8) (hu : (X.1 sr 11).toInt = (n : Int)) (hv : cx_vs X sr n vs) (h64 : vs.length < 64) {y2 y3 : Int32} (h2 : y2.toInt = (vs.length : Int)) (h3 : y3.toInt = ((64 * n : Nat) : Int)) : ∀ (m k : Nat) (y4 : Int32), y4.toInt = ((64 * n + k : Nat) : Int) → k ≤ vs.length → gxF_87 sr p m 40 [y2, y3, y4] [] [] X v X' → (p ∈ vs.drop k ∧ v.toInt = 0 ∧ X' = X) ∨ (p ∉ vs.drop k ∧ v.toInt = 1 ∧ X' = cx_li X sr n vs.length p (y2 + Int32.ofInt 1)) := by
  have h23 : (y3 + y2).toInt = ((64 * n + vs.length : Nat) : Int) := by
    rw [fx_add (by rw [h2, h3]; omega) (by rw [h2, h3]; omega), h2, h3]; omega
  intro m
  induction m with
  | zero => intro k y4 _ _ g; exact g.elim
  | succ m ih =>
    intro k y4 hk hkl g
    replace g := gxO_87_40 g
    unfold gxT_87_40 at g
    by_cases z : k < vs.length
    · rw [if_pos (by omega), if_pos (by omega), fx_in hk] at g
      replace g := g.2
      obtain ⟨x, hx⟩ : ∃ x, vs[k]? = some x := ⟨vs[k], List.getElem?_eq_getElem z⟩
      rw [hv.2 k x hx] at g
      rw [md_drop hx]
      replace g := fy_ifd g
      rcases g with ⟨c, g⟩ | ⟨c, g⟩
      · exact Or.inl ⟨by rw [fx_inj c]; exact List.mem_cons_self, by rw [g.1]; rfl, g.2⟩
      · obtain ⟨x33, rfl, g⟩ := g
        rcases ih (k + 1) _ (by rw [cx_inc hk (by omega)]; rfl) (by omega) g with ⟨a1, a2⟩ | ⟨a1, a2⟩
        · exact Or.inl ⟨List.mem_cons_of_mem _ a1, a2⟩
        · refine Or.inr ⟨fun z => ?_, a2⟩
          rcases List.mem_cons.mp z with z | z
          · exact c (by rw [z])
          · exact a1 z
    · have e : k = vs.length := by omega
      rw [if_neg (by omega), if_pos (by omega), fx_in h23] at g
      obtain ⟨-, X16, rfl, -, X19, rfl, rfl, rfl⟩ := g
      refine Or.inr ⟨?_, rfl, ?_⟩
      · rw [e, List.drop_length]; exact List.not_mem_nil
      · rw [fx_rIn (by omega), fx_in hu]; rfl
theorem cx_87 (hs : sr = 54 ∨ sr = 66) (hn : n < 8) (hu : (X.1 sr 11).toInt = (n : Int)) (hv : cx_vs X sr n vs) (hl : vs.length ≤ 64) (g : gx_87 sr p X v X') : ((p ∈ vs ∨ 64 ≤ vs.length) ∧ v.toInt = 0 ∧ X' = X) ∨ (¬ (p ∈ vs ∨ 64 ≤ vs.length) ∧ v.toInt = 1 ∧ ∃ y : Int32, y.toInt = ((vs.length + 1 : Nat) : Int) ∧ X' = cx_li X sr n vs.length p y) := by
  obtain ⟨m, w3, X2, r, x5, rfl, g⟩ := g
  obtain ⟨rfl, rfl⟩ := cx_4 hu hn r
  have h3 := cx_64k hu (by omega)
  rw [if_pos (by omega)] at g
  have h2 := hv.1
  rcases fy_ifd g with ⟨c, g⟩ | ⟨c, g⟩
  · rcases cx_87l hs hn hu hv (by omega) h2 h3 m 0 _ h3 (Nat.zero_le _) g with ⟨a1, a2, a3⟩ | ⟨a1, a2, a3⟩
    · exact Or.inl ⟨Or.inl a1, a2, a3⟩
    · refine Or.inr ⟨fun z => ?_, a2, _, cx_inc h2 (by omega), a3⟩
      rcases z with z | z
      · exact a1 z
      · omega
  · exact Or.inl ⟨Or.inr (by omega), by rw [g.1]; rfl, g.2⟩
theorem cx_li_vs (hs : sr = 54 ∨ sr = 66) (hv : cx_vs X sr n vs) {y : Int32} (hy : y.toInt = ((vs.length + 1 : Nat) : Int)) : cx_vs (cx_li X sr n vs.length p y) sr n (vs ++ [p]) := by
  refine ⟨?_, fun i x hx => ?_⟩
  · unfold cx_li
    rw [fx_rIe, hy, List.length_append]; rfl
  · unfold cx_li
    rw [fx_rIn (by omega), fx_rI]
    rw [List.getElem?_append] at hx
    split at hx
    · rw [if_neg (by omega)]; exact hv.2 i x hx
    · have e1 : i = vs.length := by
        have := (List.getElem?_eq_some_iff.mp hx).1
        have : i - vs.length < 1 := this
        omega
      subst e1
      rw [Nat.sub_self] at hx
      cases hx
      rw [if_pos ⟨rfl, rfl⟩]
/-- what the rest sees of it -/
theorem cx_li_fr (hs : sr = 54 ∨ sr = 66) (hn : n < 8) (hl : i < 64) {y : Int32} : (∀ r, r ≠ sr + 2 → r ≠ sr + 3 → (cx_li X sr n i p y).1 r = X.1 r) ∧ (cx_li X sr n i p y).2 = X.2 ∧ (∀ m vs, m < n → vs.length ≤ 64 → cx_vs X sr m vs → cx_vs (cx_li X sr n i p y) sr m vs) := by
  unfold cx_li
  refine ⟨fun r h1 h2 => by rw [fx_rIn h1, fx_rIn h2], rfl, fun m vs hm h64 hv => ⟨?_, fun j x hx => ?_⟩⟩
  · rw [fx_rIk (by omega), fx_rIn (by omega)]; exact hv.1
  · have := (List.getElem?_eq_some_iff.mp hx).1
    rw [fx_rIn (by omega), fx_rIk (by omega)]
    exact hv.2 j x hx
/-- the parts of the state that hang on the shelf's UNKNOWNS alone -/
theorem cx_uw (hC : cx_CS X sr hz (U, cu, TB, rw, sk, pk, fr)) (hi : ∀ r, r ≠ sr + 2 → r ≠ sr + 3 → X'.1 r = X.1 r) (hl : ∀ r, r ≠ sr + 1 → X'.2.1 r = X.2.1 r) (h2 : X'.2.2 = X.2.2) (hg : md_gd (U, cu', TB, rw, sk, pk, fr)) (hU : ∀ u x, U[u]? = some x → X'.2.1 (sr + 1) u = x.1 ∧ cx_vs X' sr u x.2) (hc : cx_cu X' sr U.length cu') : cx_CS X' sr hz (U, cu', TB, rw, sk, pk, fr) := by
  obtain ⟨g0, g1, g2, g3, g4, g5, g6, g7, g8, g9⟩ := hC
  obtain ⟨c1, c2⟩ := cx_co (X := X) (X' := X') (fun k => by rw [hi 91 (by omega) (by omega)]) (fun k => by rw [hi 93 (by omega) (by omega)]) (by rw [hl 91 (by omega)]) (fun k => by rw [hl 92 (by omega)]) (fun k => by rw [hl 94 (by omega)])
  refine ⟨hg, ⟨by rw [hi sr (by omega) (by omega)]; exact g1.1, by rw [hi sr (by omega) (by omega)]; exact g1.2.1, hU⟩, hc, ⟨by rw [hi sr (by omega) (by omega)]; exact g3.1, fun t x hx => ?_⟩, ⟨by rw [hi 91 (by omega) (by omega)]; exact g4.1, c1 _ g4.2⟩, c2 _ g5, by rw [hl 91 (by omega)]; exact g6, ?_, by rw [h2]; exact g8, g9⟩
  · obtain ⟨a1, a2, r, a3, a4, a5, a6⟩ := g3.2 t x hx
    have ht := (List.getElem?_eq_some_iff.mp hx).1
    have h10 : TB.length ≤ 10 := g0.2.2.2.2.1
    dsimp only at ht
    have hr := (g7.2.1 (sr + 8, t) r (cx_slot g9 (by omega)) a3).1
    refine ⟨by rw [hl _ (by omega)]; exact a1, by rw [hi _ (by omega) (by omega)]; exact a2, r, by rw [h2]; exact a3, by rw [hi r (by omega) (by omega)]; exact a4, fun z => by rw [hi r (by omega) (by omega)]; exact a5 z, fun c n hc => by rw [hl _ (by omega)]; exact a6 c n hc⟩
  · unfold cx_O
    rw [h2]; exact g7
theorem cx_86 (hs : sr = 54 ∨ sr = 66) (hn : n < 8) (hu : (X.1 sr 11).toInt = (n : Int)) (g : gx_86 sr w X u X') : X' = fx_wI (fx_wL X (sr + 1) n w) (sr + 2) n (Int32.ofInt 0) := by
  unfold gx_86 at g
  rw [if_pos (by omega), if_pos (by omega)] at g
  obtain ⟨-, X8, rfl, -, X11, rfl, rfl⟩ := g
  rw [fx_rL1, fx_in hu]
end CX22
