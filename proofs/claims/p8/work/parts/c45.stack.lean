/-! THE CLASS'S WORKER: ROWS on the stack -/
section CX45
variable {X X' X0 X1 : fx_X} {v p p0 p1 p2 p3 p4 : Int32} {u : Unit} {sr r r' rs W n i j c w m k P wd : Nat} {val : md_V} {tw : List Nat} {A B : List md_Row} {tb : List (List md_Row)} {sk : List md_Q}
/-- ROWS that may be new at one place -/
def cx_na (k : Nat) (X X' : fx_X) : Prop := X'.1 = X.1 ∧ X'.2.1 = X.2.1 ∧ X.2.2.2.2 ≤ X'.2.2.2.2 ∧ (∀ q j, q < X.2.2.2.2 → ¬ (q = 101 ∧ j = k) → X'.2.2.1 q j = X.2.2.1 q j) ∧ (∀ r, X.2.2.1 101 k = some r → X'.2.2.1 101 k = some r)
theorem cx_100 {rr : Nat} (hO : cx_O X) (hk : p1.toInt = (k : Int)) (h20 : k < 20) (g : gx_100 p1 X rr X') : X'.2.2.1 101 k = some rr ∧ cx_na k X X' ∧ cx_O X' := by
  have hO1 := hO.1
  have hsl : cx_sl (101, k) := Or.inr (Or.inr (Or.inl ⟨rfl, h20⟩))
  unfold gx_100 at g
  rw [if_neg (by omega), if_pos (by omega), fx_in hk] at g
  obtain ⟨-, g⟩ := g
  rcases g with ⟨hn, b13, rfl, X14, e14, -, X16, e16, -, rfl, rfl⟩ | ⟨b10, hb, -, rfl, rfl⟩
  · have r1 : X'.2.2.1 101 k = some X.2.2.2.2 := by rw [e16]; exact fx_rRe
    have r2 : ∀ q j, q ≠ X.2.2.2.2 → ¬ (q = 101 ∧ j = k) → X'.2.2.1 q j = X.2.2.1 q j := fun q j h1 h2 => by
      rw [e16, e14]
      show (if q = 101 ∧ j = k then some X.2.2.2.2 else (fx_new X).2.2.1 q j) = _
      rw [if_neg h2]
      show (if q = X.2.2.2.2 ∧ j < 3 then _ else X.2.2.1 q j) = _
      rw [if_neg (fun z => h1 z.1)]
    have r3 : X'.2.2.2.2 = X.2.2.2.2 + 4 := by rw [e16, e14]; rfl
    have r4 : X'.1 = X.1 := by rw [e16, e14]; rfl
    have r5 : X'.2.1 = X.2.1 := by rw [e16, e14]; rfl
    clear e14 e16
    have ne : ∀ s, cx_sl s → s ≠ (101, k) → X'.2.2.1 s.1 s.2 = X.2.2.1 s.1 s.2 := fun s h1 h2 => r2 _ _ (by unfold cx_sl at h1; omega) (fun z => h2 (Prod.ext z.1 z.2))
    refine ⟨r1, ⟨r4, r5, by omega, fun q j h1 h2 => r2 q j (by omega) h2, fun r h => by rw [hn] at h; cases h⟩, by omega, fun s r' q1 q2 => ?_, fun s s' t1 t2 q1 q2 q3 q4 => ?_⟩
    · by_cases z : s = (101, k)
      · subst z
        rw [r1] at q2
        cases q2
        exact ⟨Or.inr hO1, by omega⟩
      · rw [ne s q1 z] at q2
        have := hO.2.1 s r' q1 q2
        exact ⟨this.1, by omega⟩
    · by_cases z : s = (101, k)
      · by_cases z' : s' = (101, k)
        · exact Or.inl (z.trans z'.symm)
        · subst z
          rw [r1] at q3
          cases q3
          rw [ne s' q2 z'] at q4
          exact Or.inr (Or.inr (hO.2.1 s' t2 q2 q4).2)
      · rw [ne s q1 z] at q3
        by_cases z' : s' = (101, k)
        · subst z'
          rw [r1] at q4
          cases q4
          exact Or.inr (Or.inl (hO.2.1 s t1 q1 q3).2)
        · rw [ne s' q2 z'] at q4
          exact hO.2.2 s s' t1 t2 q1 q2 q3 q4
  · exact ⟨hb, ⟨rfl, rfl, Nat.le_refl _, fun _ _ _ _ => rfl, fun _ h => h⟩, hO⟩
/-- what is on the stack stays -/
theorem cx_ls_e : ∀ (sk : List md_Q), (∀ i r, i < sk.length → X.2.2.1 101 i = some r → X'.2.2.1 101 i = some r ∧ ∀ q j, r ≤ q → q < r + 4 → X'.1 q j = X.1 q j) → cx_ls X W sk → cx_ls X' W sk
  | [], _, _ => trivial
  | q :: sk, h, ⟨⟨r, h1, h2, h3⟩, h4⟩ => by
    obtain ⟨a1, a2⟩ := h sk.length r (by rw [List.length_cons]; omega) h1
    refine ⟨⟨r, a1, by rw [a2 _ _ (Nat.le_refl _) (by omega)]; exact h2, cx_Rr_e h3 (a2 _ _ (Nat.le_refl _) (by omega)) (fun k => a2 _ _ (by omega) (by omega)) (fun k => a2 _ _ (by omega) (by omega)) (fun k => a2 _ _ (by omega) (by omega))⟩, cx_ls_e sk (fun i r hi hr => h i r (by rw [List.length_cons]; omega) hr) h4⟩
theorem cx_tb_e (h : ∀ t r, t < 10 → X.2.2.1 (sr + 8) t = some r → X'.2.2.1 (sr + 8) t = some r ∧ ∀ q j, r ≤ q → q < r + 4 → X'.1 q j = X.1 q j) (h12 : X'.1 sr 12 = X.1 sr 12) (hT : cx_tb X sr W tw tb) : cx_tb X' sr W tw tb := by
  refine ⟨by rw [h12]; exact hT.1, hT.2.1, hT.2.2.1, fun t wd ht => ?_⟩
  have hl := (List.getElem?_eq_some_iff.mp ht).1
  have h10 := hT.2.1
  obtain ⟨r, h1, h2, h3⟩ := hT.2.2.2 t wd ht
  obtain ⟨a1, a2⟩ := h t r (by omega) h1
  refine ⟨r, a1, by rw [a2 _ _ (Nat.le_refl _) (by omega)]; exact h2, ?_⟩
  cases e : tb[t]? with
  | none => rw [e] at h3; exact (by rw [a2 _ _ (Nat.le_refl _) (by omega)]; exact h3 : (X'.1 r 4).toInt = 0)
  | some A => rw [e] at h3; exact cx_Rr_e h3 (a2 _ _ (Nat.le_refl _) (by omega)) (fun k => a2 _ _ (by omega) (by omega)) (fun k => a2 _ _ (by omega) (by omega)) (fun k => a2 _ _ (by omega) (by omega))
/-- one of the stack by its place -/
theorem cx_ls_at : ∀ (sk : List md_Q) (i : Nat) (q : md_Q), cx_ls X W sk → sk[i]? = some q → ∃ r, X.2.2.1 101 (sk.length - 1 - i) = some r ∧ (X.1 r 3).toInt = (q.1 : Int) ∧ cx_Rr X r W q.2
  | [], i, q, _, h => by cases h
  | x :: sk, 0, q, hl, h => by
    cases h
    obtain ⟨⟨r, h1, h2, h3⟩, -⟩ := hl
    exact ⟨r, by rw [List.length_cons, Nat.sub_zero, Nat.add_sub_cancel]; exact h1, h2, h3⟩
  | x :: sk, i + 1, q, hl, h => by
    obtain ⟨r, h1, h2, h3⟩ := cx_ls_at sk i q hl.2 h
    exact ⟨r, by rw [List.length_cons, (by omega : sk.length + 1 - 1 - (i + 1) = sk.length - 1 - i)]; exact h1, h2, h3⟩
/-- the scratch ROWS take a place on the stack -/
theorem cx_120 (hO : cx_O X) (h4 : (X.1 95 4).toInt = ((k + 1 : Nat) : Int)) (h20 : k < 20) (h5 : X.2.2.1 95 5 = some rs) (hk : X.2.2.1 101 k = some r) (g : gx_120 X u X') : X'.1 = X.1 ∧ X'.2.1 = X.2.1 ∧ X'.2.2.1 101 k = some rs ∧ X'.2.2.1 95 5 = some r ∧ (∀ q j, ¬ (q = 101 ∧ j = k) → ¬ (q = 95 ∧ j = 5) → X'.2.2.1 q j = X.2.2.1 q j) ∧ cx_O X' := by
  have hd := cx_dec h4 (by omega)
  obtain ⟨x2, rfl, g⟩ := g
  rw [if_neg (by omega), if_pos (by omega), fx_in hd] at g
  obtain ⟨w8, X7, r1, g⟩ := g
  have e : X7 = X ∧ w8 = r := by
    unfold gx_100 at r1
    rw [if_neg (by omega), if_pos (by omega), fx_in hd] at r1
    obtain ⟨-, r1⟩ := r1
    rcases r1 with ⟨hn, _⟩ | ⟨b10, hb, -, rfl, rfl⟩
    · rw [hk] at hn; cases hn
    · rw [hk] at hb; cases hb; exact ⟨rfl, rfl⟩
  obtain ⟨rfl, rfl⟩ := e
  obtain ⟨b12, eb, -, X14, e14, X16, e16, rfl⟩ := g
  rw [h5] at eb
  cases eb
  have s1 : X'.2.2.1 101 k = some rs := by rw [e16, fx_rRn (by decide), e14, fx_rRe]
  have s2 : X'.2.2.1 95 5 = some w8 := by rw [e16, fx_rRe]
  have s3 : ∀ q j, ¬ (q = 101 ∧ j = k) → ¬ (q = 95 ∧ j = 5) → X'.2.2.1 q j = X7.2.2.1 q j := fun q j h1 h2 => by
    rw [e16, e14]
    show (if q = 95 ∧ j = 5 then _ else if q = 101 ∧ j = k then _ else X7.2.2.1 q j) = _
    rw [if_neg h2, if_neg h1]
  have s4 : X'.2.2.2 = X7.2.2.2 := by rw [e16, e14]; rfl
  have s5 : X'.1 = X7.1 ∧ X'.2.1 = X7.2.1 := by rw [e16, e14]; exact ⟨rfl, rfl⟩
  clear e14 e16
  refine ⟨s5.1, s5.2, s1, s2, s3, by rw [s4]; exact hO.1, ?_⟩
  have sl1 : cx_sl (101, k) := Or.inr (Or.inr (Or.inl ⟨rfl, h20⟩))
  have sl2 : cx_sl (95, 5) := Or.inr (Or.inr (Or.inr ⟨rfl, rfl⟩))
  -- each place holds what a place held ahead
  have tr : ∀ s t, cx_sl s → X'.2.2.1 s.1 s.2 = some t → X7.2.2.1 (if s = (101, k) then (95, 5) else if s = (95, 5) then (101, k) else s).1 (if s = (101, k) then (95, 5) else if s = (95, 5) then (101, k) else s).2 = some t ∧ cx_sl (if s = (101, k) then (95, 5) else if s = (95, 5) then (101, k) else s) := fun s t h1 h2 => by
    by_cases z : s = (101, k)
    · subst z
      rw [s1] at h2
      rw [if_pos rfl]
      exact ⟨h5.trans h2, sl2⟩
    · by_cases z2 : s = (95, 5)
      · subst z2
        rw [s2] at h2
        rw [if_neg z, if_pos rfl]
        exact ⟨hk.trans h2, sl1⟩
      · rw [if_neg z, if_neg z2]
        rw [s3 _ _ (fun y => z (Prod.ext y.1 y.2)) (fun y => z2 (Prod.ext y.1 y.2))] at h2
        exact ⟨h2, h1⟩
  refine ⟨fun s t h1 h2 => ?_, fun s s' t t' h1 h2 h3 h4 => ?_⟩
  · obtain ⟨a1, a2⟩ := tr s t h1 h2
    rw [s4]
    exact hO.2.1 _ t a2 a1
  · obtain ⟨a1, a2⟩ := tr s t h1 h3
    obtain ⟨b1, b2⟩ := tr s' t' h2 h4
    rcases hO.2.2 _ _ t t' a2 b2 a1 b1 with z | z
    · refine Or.inl ?_
      by_cases y1 : s = (101, k)
      · by_cases y2 : s' = (101, k)
        · rw [y1, y2]
        · rw [if_pos y1, if_neg y2] at z
          by_cases y3 : s' = (95, 5)
          · rw [if_pos y3] at z; cases z
          · rw [if_neg y3] at z; exact absurd z.symm y3
      · rw [if_neg y1] at z
        by_cases y3 : s = (95, 5)
        · rw [if_pos y3] at z
          by_cases y2 : s' = (101, k)
          · rw [if_pos y2] at z; cases z
          · rw [if_neg y2] at z
            by_cases y4 : s' = (95, 5)
            · rw [y3, y4]
            · rw [if_neg y4] at z; exact absurd z.symm y2
        · rw [if_neg y3] at z
          by_cases y2 : s' = (101, k)
          · rw [if_pos y2] at z; exact absurd z y3
          · rw [if_neg y2] at z
            by_cases y4 : s' = (95, 5)
            · rw [if_pos y4] at z; exact absurd z y1
            · rw [if_neg y4] at z; exact z
    · exact Or.inr z
end CX45
