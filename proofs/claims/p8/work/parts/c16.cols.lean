/-! THE CLASS'S CHECKER: lists of COLUMNS -/
/-- no other level than this changed -/
def cx_lo (X X' : fx_X) (d : Nat) : Prop := ∀ j, j ≠ d → X'.1 93 j = X.1 93 j ∧ ∀ c, c < 6 → X'.2.1 92 (6 * j + c) = X.2.1 92 (6 * j + c)
/-- what the checker writes -/
def cx_wa (sr r : Nat) : Prop := r = 86 ∨ r = 91 ∨ r = 92 ∨ r = 93 ∨ r = 94 ∨ r = sr + 1 ∨ r = sr + 2 ∨ r = sr + 3 ∨ r = sr + 9 ∨ r = sr + 10 ∨ r = sr + 11
def cx_wi (sr r k : Nat) : Prop := cx_wa sr r ∨ (r = 82 ∧ (k = 5 ∨ k = 6)) ∨ (r = sr ∧ (k = 11 ∨ k = 12 ∨ k = 13))
/-- what a step of the checker leaves alone -/
def cx_fc (sr : Nat) (X X' : fx_X) : Prop :=
  (∀ r k, ¬ cx_wi sr r k → (∀ t, t < 10 → X.2.2.1 (sr + 8) t ≠ some r) → r < X.2.2.2.2 → X'.1 r k = X.1 r k) ∧
  (∀ r k, ¬ cx_wa sr r → X'.2.1 r k = X.2.1 r k) ∧
  (∀ r k, r ≠ sr + 8 → r < X.2.2.2.2 → (r = 91 → k ≠ 2) → X'.2.2.1 r k = X.2.2.1 r k) ∧
  (∀ t r, t < 10 → X.2.2.1 (sr + 8) t = some r → X'.2.2.1 (sr + 8) t = some r) ∧ (∀ t r, t < 10 → X'.2.2.1 (sr + 8) t = some r → X.2.2.1 (sr + 8) t = some r ∨ X.2.2.2.2 ≤ r) ∧ X.2.2.2.2 ≤ X'.2.2.2.2 ∧ (cx_O X → cx_O X')
section CX16
variable {X X' X1 X2 : fx_X} {T : md_T} {v p p0 p1 p2 : Int32} {w q : Int64} {u : Unit} {sr i k d near lead : Nat} {U : md_U} {cu : Option (Int64 × List Int32)} {TB : md_TB} {sk : List (List Int64)} {pk cs : List Int64} {hz : Prop} {a : Int} {F L : List (Nat × Nat)} {A : List Nat} {s s' : md_CS}
theorem cx_fc_rf : cx_fc sr X X := ⟨fun _ _ _ _ _ => rfl, fun _ _ _ => rfl, fun _ _ _ _ _ => rfl, fun _ _ _ h => h, fun _ _ _ h => Or.inl h, Nat.le_refl _, id⟩
theorem cx_fc_tr (h1 : cx_fc sr X X1) (h2 : cx_fc sr X1 X2) : cx_fc sr X X2 := by
  obtain ⟨a1, a2, a3, a4, a5, a6, a7⟩ := h1
  obtain ⟨b1, b2, b3, b4, b5, b6, b7⟩ := h2
  refine ⟨fun r k c1 c9 c10 => ?_, fun r k c1 => (b2 r k c1).trans (a2 r k c1), fun r k c1 c2 c3 => (b3 r k c1 (by omega) c3).trans (a3 r k c1 c2 c3), fun t r ht h => b4 t r ht (a4 t r ht h), fun t r ht h => ?_, by omega, fun z => b7 (a7 z)⟩
  · rw [b1 r k c1 (fun t ht z => ?_) (by omega), a1 r k c1 c9 c10]
    rcases a5 t r ht z with y | y
    · exact c9 t ht y
    · omega
  · rcases b5 t r ht h with y | y
    · exact a5 t r ht y
    · exact Or.inr (by omega)
theorem cx_fc_fy (h : fy F L A X X') (hF : ∀ q, q ∈ F → q = (82, 5) ∨ q = (82, 6) ∨ q.1 = 91) (hL : ∀ q, q ∈ L → q.1 = 91) (hA : ∀ a, a ∈ A → a = 86 ∨ a = 92 ∨ a = 93 ∨ a = 94) : cx_fc sr X X' := by
  obtain ⟨h1, h2, h3⟩ := h
  refine ⟨fun r k c1 c9 c10 => h3 r k (fun y => c1 (Or.inl (by unfold cx_wa; have := hA r y; omega))) (fun y => ?_), fun r k c1 => h2 r k (fun y => c1 (by unfold cx_wa; have := hA r y; omega)) (fun y => c1 (by unfold cx_wa; have := hL _ y; dsimp only at this; omega)), fun r k c1 c2 c3 => by rw [h1], fun t r ht h => by rw [h1]; exact h, fun t r ht h => by rw [h1] at h; exact Or.inl h, by rw [h1]; exact Nat.le_refl _, fun z => by unfold cx_O; rw [h1]; exact z⟩
  rcases hF _ y with e | e | e
  · cases e; exact c1 (Or.inr (Or.inl ⟨rfl, Or.inl rfl⟩))
  · cases e; exact c1 (Or.inr (Or.inl ⟨rfl, Or.inr rfl⟩))
  · exact c1 (Or.inl (Or.inr (Or.inl e)))
/-- the shelf stays, where the checker writes beside it alone -/
theorem cx_sh_fy (hO : cx_O X) (hs : sr = 54 ∨ sr = 66) (h : fy F L A X X') (hF : ∀ q, q ∈ F → q.1 = 82 ∨ q.1 = 91) (hL : ∀ q, q ∈ L → q.1 = 91) (hA : ∀ a, a ∈ A → 86 ≤ a ∧ a ≤ 94) : (∀ U, cx_U X sr U → cx_U X' sr U) ∧ (∀ n cu, cx_cu X sr n cu → cx_cu X' sr n cu) ∧ (∀ TB, TB.length ≤ 10 → cx_TB X sr hz TB → cx_TB X' sr hz TB) ∧ cx_O X' := by
  have i1 : ∀ r, (r < 82 ∨ 95 ≤ r) → X'.1 r = X.1 r := fun r hr => fy_ra h (fun z => by have := hA r z; omega) (fun q hq => by have := hF q hq; omega)
  have l1 : ∀ r, (r < 82 ∨ 95 ≤ r) → X'.2.1 r = X.2.1 r := fun r hr => fy_rl h (fun z => by have := hA r z; omega) (fun q hq => by have := hL q hq; omega)
  have v1 : ∀ n vs, cx_vs X sr n vs → cx_vs X' sr n vs := fun n vs hv => by
    unfold cx_vs
    rw [i1 (sr + 2) (by omega), i1 (sr + 3) (by omega)]
    exact hv
  refine ⟨fun U hU => ?_, fun n cu hc x hx => ?_, fun TB h10 hT => ?_, ?_⟩
  · refine ⟨by rw [i1 sr (by omega)]; exact hU.1, by rw [i1 sr (by omega)]; exact hU.2.1, fun u x hx => ?_⟩
    rw [l1 (sr + 1) (by omega)]
    exact ⟨(hU.2.2 u x hx).1, v1 _ _ (hU.2.2 u x hx).2⟩
  · rw [l1 (sr + 1) (by omega)]
    exact ⟨(hc x hx).1, v1 _ _ (hc x hx).2⟩
  · refine ⟨by rw [i1 sr (by omega)]; exact hT.1, fun t x hx => ?_⟩
    obtain ⟨a1, a2, r, a3, a4, a5, a6⟩ := hT.2 t x hx
    have ht := (List.getElem?_eq_some_iff.mp hx).1
    have hr := (hO.2.1 (sr + 8, t) r (by
      rcases hs with e | e
      · exact Or.inl ⟨by show sr + 8 = 62; omega, by show t < 10; omega⟩
      · exact Or.inr (Or.inl ⟨by show sr + 8 = 74; omega, by show t < 10; omega⟩)) a3).1
    refine ⟨by rw [l1 _ (by omega)]; exact a1, by rw [i1 _ (by omega)]; exact a2, r, by rw [h.1]; exact a3, by rw [i1 r (by omega)]; exact a4, fun z => by rw [i1 r (by omega)]; exact a5 z, fun c n hc => by rw [l1 _ (by omega)]; exact a6 c n hc⟩
  · unfold cx_O
    rw [h.1]
    exact hO
theorem cx_lo_rf : cx_lo X X d := fun _ _ => ⟨rfl, fun _ _ => rfl⟩
theorem cx_lo_tr (h1 : cx_lo X X1 d) (h2 : cx_lo X1 X2 d) : cx_lo X X2 d := fun j hj => ⟨(h2 j hj).1.trans (h1 j hj).1, fun c hc => ((h2 j hj).2 c hc).trans ((h1 j hj).2 c hc)⟩
theorem cx_l1_lo (h : cx_lo X X' d) {j : Nat} (hj : j ≠ d) (hc : cs.length ≤ 6) (h1 : cx_l1 X j cs) : cx_l1 X' j cs := by
  refine ⟨by rw [(h j hj).1]; exact h1.1, fun c n hn => ?_⟩
  have := (List.getElem?_eq_some_iff.mp hn).1
  rw [(h j hj).2 c (by omega)]
  exact h1.2 c n hn
theorem cx_lv_lo (h : cx_lo X X' d) : ∀ {sk : List (List Int64)}, (∀ x, x ∈ sk → x.length ≤ 6) → sk.length ≤ d → cx_lv X sk → cx_lv X' sk
  | [], _, _, _ => True.intro
  | cs :: sk, h6, hd, hl => by
    have hd' : sk.length + 1 ≤ d := hd
    exact ⟨cx_l1_lo h (by omega) (h6 cs List.mem_cons_self) hl.1, cx_lv_lo h (fun x hx => h6 x (List.mem_cons_of_mem _ hx)) (by omega) hl.2⟩
theorem cx_67 (h : cx_l1 X i cs) (hi : i < 20) (hl : cs.length < 6) (hp : p.toInt = (i : Int)) (g : gx_67 p w X u X') : cx_l1 X' i (cs ++ [w]) ∧ cx_lo X X' i := by
  unfold gx_67 at g
  rw [if_neg (by omega), if_pos (by omega), fx_in hp, h.1, if_pos (by omega)] at g
  obtain ⟨-, -, x10, rfl, g⟩ := g
  have e := cx_6 hp h.1 (by omega) (by omega)
  rw [if_pos (by omega), fx_in e] at g
  obtain ⟨-, X16, rfl, -, -, X20, rfl, rfl⟩ := g
  refine ⟨⟨?_, fun c n hn => ?_⟩, fun j hj => ⟨?_, fun c hc => ?_⟩⟩
  · rw [fx_rIe, fx_rL1, cx_inc h.1 (by omega), List.length_append]; rfl
  · show (fx_wL X 92 (6 * i + cs.length) w).2.1 92 (6 * i + c) = n
    rw [List.getElem?_append] at hn
    split at hn
    · rw [fx_rLk (by omega)]
      exact h.2 c n hn
    · have e1 : c = cs.length := by
        have := (List.getElem?_eq_some_iff.mp hn).1
        have : c - cs.length < 1 := this
        omega
      subst e1
      rw [Nat.sub_self] at hn
      cases hn
      rw [fx_rLe]
  · rw [fx_rIk (by omega), fx_rL1]
  · show (fx_wL X 92 (6 * i + cs.length) w).2.1 92 (6 * j + c) = _
    rw [fx_rLk (by omega)]
theorem cx_65 (hi : i < 20) (hp : p.toInt = (i : Int)) (g : gx_65 p (Int32.ofInt 0) X u X') : cx_l1 X' i [] ∧ cx_lo X X' i := by
  unfold gx_65 at g
  rw [if_neg (by omega), if_pos (by omega), fx_in hp] at g
  obtain ⟨-, X7, rfl, rfl⟩ := g
  refine ⟨⟨by rw [fx_rIe]; rfl, fun c n hn => by cases hn⟩, fun j hj => ⟨by rw [fx_rIk (by omega)], fun c hc => rfl⟩⟩
theorem cx_79 (h : cx_l1 X i cs) (hi : i < 20) (hl : cs.length ≤ 6) (hp : p.toInt = (i : Int)) {c : Nat} (hc : c < cs.length) (hp2 : p2.toInt = (c : Int)) (g : gx_79 p p2 w X u X') : cx_l1 X' i (cs.set c w) ∧ cx_lo X X' i := by
  obtain ⟨x2, rfl, g⟩ := g
  have e := cx_6 hp hp2 (by omega) (by omega)
  rw [if_neg (by omega), if_neg (by omega), if_pos (by omega), if_pos (by omega), fx_in e] at g
  obtain ⟨-, X11, rfl, rfl⟩ := g
  refine ⟨⟨by rw [fx_rL1, List.length_set]; exact h.1, fun c' n hn => ?_⟩, fun j hj => ⟨rfl, fun c' hc' => by rw [fx_rLk (by omega)]⟩⟩
  rw [List.getElem?_set] at hn
  by_cases z : c = c'
  · subst z
    rw [if_pos rfl, if_pos hc] at hn
    cases hn
    rw [fx_rLe]
  · rw [if_neg z] at hn
    rw [fx_rLk (by omega)]
    exact h.2 c' n hn
theorem cx_pk_fy (h : cx_pk X pk) (hf : fy F L A X X') (h1 : ∀ q, q ∈ F → q ≠ (91, 7)) (h2 : 94 ∉ A) (h3 : ∀ q, q ∈ L → q.1 ≠ 94) (h4 : 91 ∉ A) : cx_pk X' pk := by
  refine ⟨?_, fun i n hn => ?_⟩
  · rw [hf.2.2 91 7 h4 (fun z => h1 _ z rfl)]; exact h.1
  · rw [fy_rl hf h2 h3]; exact h.2 i n hn
theorem cx_77l (h6 : pk.length ≤ 6) (hd : d < 20) : ∀ (n k : Nat) (y1 : Int32) (X : fx_X), y1.toInt = (k : Int) → k ≤ pk.length → (X.1 91 5 - Int32.ofInt 1).toInt = (d : Int) → cx_pk X pk → cx_l1 X d (pk.take k) → gxF_77 n 13 [y1] [] [] X u X' → cx_l1 X' d pk ∧ cx_lo X X' d := by
  intro n
  induction n with
  | zero => intro k y1 X _ _ _ _ _ g; exact g.elim
  | succ n ih =>
    intro k y1 X hk hkl hdp hp hl g
    replace g := gxO_77_13 g
    unfold gxT_77_13 at g
    have h1 := hp.1
    by_cases z : k < pk.length
    · rw [if_pos (by omega), if_pos (by omega), fx_in hk] at g
      obtain ⟨-, w11, X10, r, x12, rfl, g⟩ := g
      obtain ⟨x, hx⟩ : ∃ x, pk[k]? = some x := ⟨pk[k], List.getElem?_eq_getElem z⟩
      rw [hp.2 k x hx] at r
      obtain ⟨q1, q2⟩ := cx_67 hl hd (by rw [List.length_take]; omega) hdp r
      have hf := gf_67 r
      have e4 : pk.take (k + 1) = pk.take k ++ [x] := by rw [List.take_add_one, hx]; rfl
      obtain ⟨b1, b2⟩ := ih (k + 1) _ X10 (cx_inc hk (by omega)) (by omega) (by rw [hf.2.2 91 5 (by decide) (by decide)]; exact hdp) (cx_pk_fy hp hf (by decide) (by decide) (by decide) (by decide)) (by rw [e4]; exact q1) g
      exact ⟨b1, cx_lo_tr q2 b2⟩
    · rw [if_neg (by omega)] at g
      rw [List.take_of_length_le (by omega)] at hl
      subst g
      exact ⟨hl, cx_lo_rf⟩
theorem cx_77 (h6 : pk.length ≤ 6) (hd : d < 20) (hdp : (X.1 91 5 - Int32.ofInt 1).toInt = (d : Int)) (hp : cx_pk X pk) (g : gx_77 X u X') : cx_l1 X' d pk ∧ cx_lo X X' d := by
  obtain ⟨n, w3, X2, r, g⟩ := g
  obtain ⟨q1, q2⟩ := cx_65 hd hdp r
  have hf := gf_65 r
  obtain ⟨b1, b2⟩ := cx_77l h6 hd n 0 _ X2 rfl (Nat.zero_le _) (by rw [hf.2.2 91 5 (by decide) (by decide)]; exact hdp) (cx_pk_fy hp hf (by decide) (by decide) (by decide) (by decide)) q1 g
  exact ⟨b1, cx_lo_tr q2 b2⟩
end CX16
