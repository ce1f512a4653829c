/-! CONTRACTS MADE WEAKER, CONTRACTS PUT TOGETHER BY AN ARGUMENT'S CASES -/
def ak_impQ (q' q : ak_Q) : Bool := q.all (fun e => q'.any (fun z => z.1 == e.1 && decide (e.2.1 ≤ z.2.1) && decide (z.2.2 ≤ e.2.2)))
def ak_subC (c' c : ak_Con) : Bool :=
  decide (c'.1 = c.1) && (ak_leA c.2.1 c'.2.1 && ((match c'.2.2.1, c.2.2.1 with
    | none, none => true
    | some x, some y => ak_sub x y
    | _, _ => false) && (c'.2.2.2.1.1.all (fun t => c.2.2.2.1.1.contains t) && (c'.2.2.2.1.2.all (fun q => c.2.2.2.1.2.contains q) && (ak_impQ c.2.2.2.2.1 c'.2.2.2.2.1 &&
  (((match c'.2.2.1 with
    | some (.inl q) => decide (q.1 = 0) && decide (q.2 = 0)
    | _ => true) || (decide (c.2.2.2.2.2.2.2.2.1 ≤ c'.2.2.2.2.2.2.2.2.1) && ((ak_impQ c'.2.2.2.2.2.2.1 c.2.2.2.2.2.2.1 && ak_impQ c'.2.2.2.2.2.2.2.2.2.2.2 c.2.2.2.2.2.2.2.2.2.2.2) && c.2.2.2.2.2.2.2.2.2.1.all (fun e => c'.2.2.2.2.2.2.2.2.2.1.any (fun z => z.1 == e.1 && decide (e.2.1 ≤ z.2.1) && decide (z.2.2 ≤ e.2.2)) || (match c.2.1[e.1]? with
      | some x => ak_sub x (.inl e.2)
      | none => false))))) &&
  ((match c'.2.2.1 with
    | some (.inl q) => decide (0 < q.1) || decide (q.2 < 0)
    | _ => false) || (decide (c.2.2.2.2.2.2.2.1 ≤ c'.2.2.2.2.2.2.2.1) && (ak_impQ c'.2.2.2.2.2.1 c.2.2.2.2.2.1 && ak_impQ c'.2.2.2.2.2.2.2.2.2.2.1 c.2.2.2.2.2.2.2.2.2.2.1)))))))))
/-- with this argument instead -/
def ak_arg (c : ak_Con) (i : Nat) (x : ak_A) : ak_Con := (c.1, c.2.1.set i x, c.2.2)
section AKWEAK
variable {T : ak_TT} {SP : List Nat → aj_H → Prop} {kap : aj_H → Int} {s : List Nat} {tb : aj_T} {h : aj_H}
theorem ak_impQ_ok {q' q : ak_Q} {v0 : Option Value} (h0 : ak_impQ q' q = true) (hq : ak_gQ tb h v0 q') : ak_gQ tb h v0 q := by
  intro e he
  obtain ⟨z, hz, hz2⟩ := List.any_eq_true.mp (List.all_eq_true.mp h0 e he)
  simp only [Bool.and_eq_true, beq_iff_eq, decide_eq_true_eq] at hz2
  obtain ⟨r, c, fs, x, k1, k2, k3, k4⟩ := hq z hz
  exact ⟨r, c, fs, x, k1, k2, by rw [← hz2.1.1]; exact k3, Int.le_trans hz2.1.2 k4.1, Int.le_trans k4.2 hz2.2⟩
theorem ak_impD_ok {q' q : ak_D} {v0 : Option Value} {gh : Nat → Int} (h0 : ak_impQ q' q = true) (hq : ak_gD tb h v0 gh q') : ak_gD tb h v0 gh q := by
  intro e he
  obtain ⟨z, hz, hz2⟩ := List.any_eq_true.mp (List.all_eq_true.mp h0 e he)
  simp only [Bool.and_eq_true, beq_iff_eq, decide_eq_true_eq] at hz2
  have := hq z hz
  rw [hz2.1.1] at this
  omega
theorem ak_gA_at : ∀ {A : List ak_A} {as : List Value} {i : Nat} {x : ak_A}, ak_gA s A as → A[i]? = some x → ∃ v, as[i]? = some v ∧ ak_gam s x v := by
  intro A
  induction A with
  | nil => intro as i x _ h0; simp at h0
  | cons y A ih =>
    intro as i x hA h0
    cases as with
    | nil => exact hA.elim
    | cons v as =>
      cases i with
      | zero =>
        simp only [List.getElem?_cons_zero, Option.some.injEq] at h0
        subst h0
        exact ⟨v, rfl, hA.1⟩
      | succ i =>
        simp only [List.getElem?_cons_succ] at h0 ⊢
        exact ih hA.2 h0
theorem ak_gA_set : ∀ {A : List ak_A} {as : List Value} {i : Nat} {x : ak_A} {v : Value}, ak_gA s A as → as[i]? = some v → ak_gam s x v → ak_gA s (A.set i x) as := by
  intro A
  induction A with
  | nil => intro as i x v hA _ _; exact hA
  | cons y A ih =>
    intro as i x v hA h0 hx
    cases as with
    | nil => exact hA.elim
    | cons w as =>
      cases i with
      | zero =>
        simp only [List.getElem?_cons_zero, Option.some.injEq] at h0
        subst h0
        exact ⟨hx, hA.2⟩
      | succ i =>
        simp only [List.getElem?_cons_succ] at h0
        exact ⟨hA.1, ih hA.2 h0 hx⟩
theorem ak_CT_sub {k : Nat} {c' c : ak_Con} (h0 : ak_subC c' c = true) (hc : ak_CT T SP kap tb k c') : ak_CT T SP kap tb k c := by
  unfold ak_subC at h0
  rw [Bool.and_eq_true, Bool.and_eq_true, Bool.and_eq_true, Bool.and_eq_true, Bool.and_eq_true, Bool.and_eq_true, Bool.and_eq_true, decide_eq_true_eq] at h0
  obtain ⟨q1, q2, q3, q4, q5, q6, q7, q8⟩ := h0
  intro d hd s h as hT hSP hA hQ
  obtain ⟨u, r, h', k1, k2, k3, k4, k5, k6, k7⟩ := hc d hd s h as hT hSP (ak_leA_ok hA q2) (ak_impQ_ok q6 hQ)
  refine ⟨u, r, h', by rw [← q1]; exact k1, k2, k3, ak_Ev_sub ⟨fun t ht => ?_, fun q hq => ?_⟩ k4, ?_, ⟨fun hr => ?_, fun hr => ?_⟩, fun hr => ?_⟩
  · have := List.all_eq_true.mp q4 t ht
    simpa using this
  · have := List.all_eq_true.mp q5 q hq
    simpa using this
  · split at q3
    · rename_i e1 e2
      rw [e1] at k5
      rw [e2]
      exact k5
    · rename_i x y e1 e2
      rw [e1] at k5
      rw [e2]
      cases r with
      | none => exact k5.elim
      | some v => exact ak_sub_ok (x := x) k5 q3
    · cases q3
  all_goals
    have nz : ak_isT r → ¬ ((match c'.2.2.1 with
      | some (.inl q) => decide (q.1 = 0) && decide (q.2 = 0)
      | _ => true) = true) := by
      rintro ⟨x, rfl, hx⟩ hm
      split at hm
      · rename_i q e1
        rw [e1] at k5
        have k5 : q.1 ≤ x.toInt ∧ x.toInt ≤ q.2 := k5
        rw [Bool.and_eq_true, decide_eq_true_eq, decide_eq_true_eq] at hm
        omega
      · rename_i e1
        cases hR : c'.2.2.1 with
        | none => rw [hR] at k5; exact k5.elim
        | some y =>
          rw [hR] at k5
          rcases y with q | q
          · exact e1 q hR
          · rcases q with _ | q <;> exact k5.elim
  · obtain ⟨m1, m2, m3⟩ := k6.1 hr
    rw [Bool.or_eq_true, Bool.and_eq_true, Bool.and_eq_true, Bool.and_eq_true, decide_eq_true_eq] at q7
    rcases q7 with z | z
    · exact absurd z (nz hr)
    · exact ⟨by omega, ak_impQ_ok z.2.1.1 m2, ak_impD_ok z.2.1.2 m3⟩
  · obtain ⟨m1, m2, m3⟩ := k6.2 hr
    rw [Bool.or_eq_true, Bool.and_eq_true, Bool.and_eq_true, decide_eq_true_eq] at q8
    rcases q8 with z | z
    · exfalso
      split at z
      · rename_i q e1
        rw [e1] at k5
        cases r with
        | none => exact k5.elim
        | some v =>
          obtain ⟨x, rfl, hw⟩ := ak_gi k5
          unfold ak_win at hw
          rw [Bool.or_eq_true, decide_eq_true_eq, decide_eq_true_eq] at z
          exact hr ⟨x, rfl, by omega⟩
      · cases z
    · exact ⟨by omega, ak_impQ_ok z.2.1 m2, ak_impD_ok z.2.2 m3⟩
  · rw [Bool.or_eq_true, Bool.and_eq_true, Bool.and_eq_true, Bool.and_eq_true, decide_eq_true_eq] at q7
    rcases q7 with z | z
    · exact absurd z (nz hr)
    · intro e he
      have := List.all_eq_true.mp z.2.2 e he
      rw [Bool.or_eq_true] at this
      rcases this with g | g
      · obtain ⟨y, hy, hy2⟩ := List.any_eq_true.mp g
        simp only [Bool.and_eq_true, beq_iff_eq, decide_eq_true_eq] at hy2
        obtain ⟨x, g1, g2⟩ := k7 hr y hy
        exact ⟨x, by rw [← hy2.1.1]; exact g1, Int.le_trans hy2.1.2 g2.1, Int.le_trans g2.2 hy2.2⟩
      · split at g
        · rename_i x hx
          obtain ⟨v, g1, g2⟩ := ak_gA_at hA hx
          obtain ⟨y, rfl, hw⟩ := ak_gi (ak_sub_ok g2 g)
          exact ⟨y, g1, hw⟩
        · cases g
theorem ak_CT_spl {k i : Nat} {c : ak_Con} {lo hi m : Int} (hi0 : c.2.1[i]? = some (.inl (lo, hi))) (h1 : ak_CT T SP kap tb k (ak_arg c i (.inl (lo, m)))) (h2 : ak_CT T SP kap tb k (ak_arg c i (.inl (m + 1, hi)))) : ak_CT T SP kap tb k c := by
  intro d hd s h as hT hSP hA hQ
  obtain ⟨v, g1, g2⟩ := ak_gA_at hA hi0
  obtain ⟨x, rfl, hw⟩ := ak_gi g2
  unfold ak_win at hw
  by_cases hx : x.toInt ≤ m
  · exact h1 d hd s h as hT hSP (ak_gA_set hA g1 (show lo ≤ x.toInt ∧ x.toInt ≤ m by omega)) hQ
  · exact h2 d hd s h as hT hSP (ak_gA_set hA g1 (show m + 1 ≤ x.toInt ∧ x.toInt ≤ hi by omega)) hQ
end AKWEAK
