/-! THE HOLE OF AN UNKNOWN FILLED -/
section ARA24
variable {T : aw_Ts} {q t p : Nat}
theorem aw_ul_n (hn : ¬ aw_is T q 4 0) {a : Nat} : aw_ul T a (q + 1) = aw_ul T a q := by
  conv => lhs; unfold aw_ul
  rw [if_neg (fun z => hn z.1)]
theorem aw_ul_hh {a b : Nat} : ∀ {J : Nat}, J ≤ a → J ≤ b → aw_ul T a J = aw_ul T b J := by
  intro J
  induction J with
  | zero => intros; rfl
  | succ J ih =>
    intro h1 h2
    unfold aw_ul
    rw [ih (by omega) (by omega)]
    by_cases c : aw_is T J 4 0 ∧ 1 ≤ J
    · rw [if_pos ⟨c.1, by omega, c.2⟩, if_pos ⟨c.1, by omega, c.2⟩]
    · rw [if_neg (fun z => c ⟨z.1, z.2.2⟩), if_neg (fun z => c ⟨z.1, z.2.2⟩)]
theorem aw_ul_h0 {b : Nat} : ∀ {J : Nat}, J ≤ b → aw_ul T 0 J = aw_ul T b J := by
  intro J
  induction J with
  | zero => intros; rfl
  | succ J ih =>
    intro h2
    unfold aw_ul
    rw [ih (by omega)]
    by_cases c : aw_is T J 4 0 ∧ 1 ≤ J
    · rw [if_pos ⟨c.1, by omega, c.2⟩, if_pos ⟨c.1, by omega, c.2⟩]
    · rw [if_neg (fun z => c ⟨z.1, z.2.2⟩), if_neg (fun z => c ⟨z.1, z.2.2⟩)]
theorem aw_ul_fill (hp : 1 ≤ p) (hw : aw_is T p 4 0) : ∀ {J : Nat}, p < J → (∀ i, p < i → i < J → ¬ aw_is T i 4 0) → aw_ul T 0 J = aw_ul T p J ++ [p] := by
  intro J
  induction J with
  | zero => intro h; exact absurd h (Nat.not_lt_zero _)
  | succ J ih =>
    intro h1 h2
    by_cases e : J = p
    · subst e
      conv => lhs; unfold aw_ul
      rw [if_pos ⟨hw, by omega, hp⟩]
      conv => rhs; unfold aw_ul
      rw [if_neg (fun z => z.2.1 rfl), aw_ul_h0 (Nat.le_refl _)]
    · have hn := h2 J (by omega) (by omega)
      rw [aw_ul_n hn, aw_ul_n hn]
      exact ih (by omega) (fun i i1 i2 => h2 i i1 (by omega))
theorem aw_nc_app {l : List Nat} {v : Nat} : ∀ {w : Nat}, aw_nc (l ++ [v]) w ↔ aw_nc l w ∧ l.foldl (· * ·) w * v ≤ 1024 := by
  induction l with
  | nil =>
    intro w
    show (w * v ≤ 1024 ∧ True) ↔ True ∧ w * v ≤ 1024
    exact ⟨fun z => ⟨trivial, z.1⟩, fun z => ⟨z.2, trivial⟩⟩
  | cons a l ih =>
    intro w
    show (w * a ≤ 1024 ∧ aw_nc (l ++ [v]) (w * a)) ↔ (w * a ≤ 1024 ∧ aw_nc l (w * a)) ∧ _
    rw [ih]
    exact ⟨fun z => ⟨⟨z.1, z.2.1⟩, z.2.2⟩, fun z => ⟨z.1.1, z.1.2, z.2⟩⟩
theorem aw_wc_app {l : List Nat} {v : Nat} : aw_wc (l ++ [v]) = if 1024 < aw_wc l * v then 1024 else aw_wc l * v := by
  unfold aw_wc
  rw [List.foldl_append]
  rfl
theorem aw_wc_nc {l : List Nat} : ∀ {w : Nat}, aw_nc l w → l.foldl (fun w v => if 1024 < w * v then 1024 else w * v) w = l.foldl (· * ·) w := by
  induction l with
  | nil => intros; rfl
  | cons a l ih =>
    intro w h
    show l.foldl _ (if 1024 < w * a then 1024 else w * a) = l.foldl _ (w * a)
    rw [if_neg (Nat.not_lt.mpr h.1)]
    exact ih h.2
theorem aw_nc_wc {l : List Nat} {v : Nat} : aw_nc (l ++ [v]) 1 ↔ aw_nc l 1 ∧ aw_wc l * v ≤ 1024 := by
  rw [aw_nc_app]
  constructor
  · intro z
    refine ⟨z.1, ?_⟩
    unfold aw_wc
    rw [aw_wc_nc z.1]
    exact z.2
  · intro z
    refine ⟨z.1, ?_⟩
    have y := z.2
    unfold aw_wc at y
    rw [aw_wc_nc z.1] at y
    exact y
end ARA24
