/-! LISTS OF VALUES IN THEIR ORDER -/
def md_so (L : List (List Int32)) : Prop := L.Pairwise (fun a b => md_lt a b = true)
section MDO
variable {x y z : List Int32} {l L a b L1 L2 : List (List Int32)} {n : Nat}
theorem md_lt_irr : ∀ x : List Int32, md_lt x x = false
  | [] => rfl
  | a :: x => by
    show (if a = a then md_lt x x else _) = false
    rw [if_pos rfl]; exact md_lt_irr x
theorem md_lt_tr : ∀ x y z : List Int32, md_lt x y = true → md_lt y z = true → md_lt x z = true
  | [], y, z, h, _ => by cases y <;> cases h
  | a :: x, [], z, h, _ => by cases h
  | a :: x, b :: y, [], _, h => by cases h
  | a :: x, b :: y, c :: z, h1, h2 => by
    replace h1 : (if a = b then md_lt x y else decide (a.toInt < b.toInt)) = true := h1
    replace h2 : (if b = c then md_lt y z else decide (b.toInt < c.toInt)) = true := h2
    show (if a = c then md_lt x z else decide (a.toInt < c.toInt)) = true
    by_cases e1 : a = b
    · subst e1
      rw [if_pos rfl] at h1
      by_cases e2 : a = c
      · subst e2
        rw [if_pos rfl] at h2
        rw [if_pos rfl]
        exact md_lt_tr x y z h1 h2
      · rw [if_neg e2] at h2
        rw [if_neg e2]; exact h2
    · rw [if_neg e1] at h1
      by_cases e2 : b = c
      · subst e2
        rw [if_neg e1]; exact h1
      · rw [if_neg e2] at h2
        rw [decide_eq_true_eq] at h1 h2
        have : a ≠ c := fun z => by subst z; omega
        rw [if_neg this, decide_eq_true_eq]; omega
theorem md_lt_as (h : md_lt x y = true) : md_lt y x = false := by
  cases e : md_lt y x with
  | false => rfl
  | true =>
    have := md_lt_tr x y x h e
    rw [md_lt_irr] at this
    cases this
theorem md_lt_ne (h : md_lt x y = true) : x ≠ y := fun e => by
  subst e
  rw [md_lt_irr] at h
  cases h
theorem md_lt_tri : ∀ x y : List Int32, x.length = y.length → md_lt x y = true ∨ x = y ∨ md_lt y x = true
  | [], [], _ => Or.inr (Or.inl rfl)
  | [], b :: y, h => by cases h
  | a :: x, [], h => by cases h
  | a :: x, b :: y, h => by
    show (if a = b then md_lt x y else decide (a.toInt < b.toInt)) = true ∨ _ ∨ (if b = a then md_lt y x else decide (b.toInt < a.toInt)) = true
    by_cases e : a = b
    · subst e
      rw [if_pos rfl, if_pos rfl]
      rcases md_lt_tri x y (Nat.succ.inj h) with z | z | z
      · exact Or.inl z
      · exact Or.inr (Or.inl (by rw [z]))
      · exact Or.inr (Or.inr z)
    · rw [if_neg e, if_neg (fun z => e z.symm), decide_eq_true_eq, decide_eq_true_eq]
      have : a.toInt ≠ b.toInt := fun z => e (fx_inj z)
      omega
theorem md_ins_mem : ∀ l : List (List Int32), (z ∈ md_ins x l ↔ z = x ∨ z ∈ l)
  | [] => by simp [md_ins]
  | y :: l => by
    unfold md_ins
    by_cases e : y = x
    · rw [if_pos e]; subst e; simp
    · rw [if_neg e]
      by_cases h : md_lt y x = true
      · rw [if_pos h, List.mem_cons, List.mem_cons, md_ins_mem l]
        constructor
        · rintro (h | h | h)
          · exact Or.inr (Or.inl h)
          · exact Or.inl h
          · exact Or.inr (Or.inr h)
        · rintro (h | h | h)
          · exact Or.inr (Or.inl h)
          · exact Or.inl h
          · exact Or.inr (Or.inr h)
      · rw [if_neg h, List.mem_cons]
theorem md_ins_so (hx : x.length = n) : ∀ l : List (List Int32), (∀ y, y ∈ l → y.length = n) → md_so l → md_so (md_ins x l)
  | [], _, _ => List.pairwise_cons.mpr ⟨(fun y hy => by cases hy), List.Pairwise.nil⟩
  | y :: l, hl, h => by
    obtain ⟨h1, h2⟩ := List.pairwise_cons.mp h
    unfold md_ins
    by_cases e : y = x
    · rw [if_pos e]; exact h
    · rw [if_neg e]
      by_cases g : md_lt y x = true
      · rw [if_pos g]
        refine List.pairwise_cons.mpr ⟨fun z hz => ?_, md_ins_so hx l (fun z hz => hl z (List.mem_cons_of_mem _ hz)) h2⟩
        rcases (md_ins_mem l).mp hz with q | q
        · rw [q]; exact g
        · exact h1 z q
      · rw [if_neg g]
        have hxy : md_lt x y = true := by
          rcases md_lt_tri x y (by rw [hx, hl y List.mem_cons_self]) with q | q | q
          · exact q
          · exact absurd q.symm e
          · exact absurd q g
        refine List.pairwise_cons.mpr ⟨fun z hz => ?_, h⟩
        rcases List.mem_cons.mp hz with q | q
        · rw [q]; exact hxy
        · exact md_lt_tr x y z hxy (h1 z q)
theorem md_ins_at : ∀ L1 : List (List Int32), (∀ y, y ∈ L1 → md_lt y x = true) → (∀ y, y ∈ L2 → md_lt x y = true) → md_ins x (L1 ++ L2) = L1 ++ x :: L2
  | [], _, h2 => by
    cases L2 with
    | nil => rfl
    | cons y L2 =>
      have h := h2 y List.mem_cons_self
      show (if y = x then _ else if md_lt y x = true then _ else x :: y :: L2) = _
      rw [if_neg (fun e => md_lt_ne h e.symm), if_neg (by rw [md_lt_as h]; decide)]
      rfl
  | y :: L1, h1, h2 => by
    have h := h1 y List.mem_cons_self
    show (if y = x then _ else if md_lt y x = true then y :: md_ins x (L1 ++ L2) else _) = _
    rw [if_neg (md_lt_ne h), if_pos h, md_ins_at L1 (fun z hz => h1 z (List.mem_cons_of_mem _ hz)) h2]
    rfl
theorem md_ins_in : ∀ l : List (List Int32), md_so l → x ∈ l → md_ins x l = l
  | [], _, h => by cases h
  | y :: l, h, hx => by
    obtain ⟨h1, h2⟩ := List.pairwise_cons.mp h
    unfold md_ins
    by_cases e : y = x
    · rw [if_pos e]
    · rcases List.mem_cons.mp hx with q | q
      · exact absurd q.symm e
      · rw [if_neg e, if_pos (h1 x q), md_ins_in l h2 q]
/-- two of them with the same in them are the same -/
theorem md_so_ext : ∀ a b : List (List Int32), md_so a → md_so b → (∀ x, x ∈ a ↔ x ∈ b) → a = b
  | [], [], _, _, _ => rfl
  | [], y :: b, _, _, h => by cases (h y).mpr List.mem_cons_self
  | x :: a, [], _, _, h => by cases (h x).mp List.mem_cons_self
  | x :: a, y :: b, h1, h2, h => by
    obtain ⟨p1, p2⟩ := List.pairwise_cons.mp h1
    obtain ⟨q1, q2⟩ := List.pairwise_cons.mp h2
    have e : x = y := by
      rcases List.mem_cons.mp ((h x).mp List.mem_cons_self) with z | z
      · exact z
      · rcases List.mem_cons.mp ((h y).mpr List.mem_cons_self) with z' | z'
        · exact z'.symm
        · have s1 := q1 x z
          have s2 := p1 y z'
          rw [md_lt_as s1] at s2
          cases s2
    subst e
    rw [md_so_ext a b p2 q2 (fun z => ⟨fun hz => ?_, fun hz => ?_⟩)]
    · rcases List.mem_cons.mp ((h z).mp (List.mem_cons_of_mem _ hz)) with w | w
      · have := p1 z hz
        rw [w, md_lt_irr] at this
        cases this
      · exact w
    · rcases List.mem_cons.mp ((h z).mpr (List.mem_cons_of_mem _ hz)) with w | w
      · have := q1 z hz
        rw [w, md_lt_irr] at this
        cases this
      · exact w
theorem md_fold_mem : ∀ (a l : List (List Int32)), (z ∈ a.foldl (fun l x => md_ins x l) l ↔ z ∈ a ∨ z ∈ l)
  | [], l => by simp
  | x :: a, l => by
    rw [List.foldl_cons, md_fold_mem a (md_ins x l), md_ins_mem, List.mem_cons]
    constructor
    · rintro (h | h | h)
      · exact Or.inl (Or.inr h)
      · exact Or.inl (Or.inl h)
      · exact Or.inr h
    · rintro ((h | h) | h)
      · exact Or.inr (Or.inl h)
      · exact Or.inl h
      · exact Or.inr (Or.inr h)
theorem md_fold_so : ∀ (a l : List (List Int32)), (∀ y, y ∈ a → y.length = n) → (∀ y, y ∈ l → y.length = n) → md_so l → md_so (a.foldl (fun l x => md_ins x l) l)
  | [], l, _, _, h => h
  | x :: a, l, ha, hl, h => by
    rw [List.foldl_cons]
    refine md_fold_so a _ (fun y hy => ha y (List.mem_cons_of_mem _ hy)) (fun y hy => ?_) (md_ins_so (ha x List.mem_cons_self) l hl h)
    rcases (md_ins_mem l).mp hy with q | q
    · rw [q]; exact ha x List.mem_cons_self
    · exact hl y q
end MDO
