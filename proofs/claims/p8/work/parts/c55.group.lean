/-! THE CLASS'S WORKER: GROUPS so far, one more -/
def cx_gi (X : fx_X) (rs W m : Nat) (C : List (List Int32)) (D : Nat → List Int32 → Bool) : Prop := cx_gr X rs m C ∧ C.length ≤ 30 ∧ C.Nodup ∧ (∀ x, x ∈ C ↔ ∃ w, w < W ∧ D w x = true) ∧ (∀ (g : Nat) x, C[g]? = some x → ∀ w, w < W → fx_ib (X.1 (rs + 3) w) g = D w x) ∧ (∀ g w, C.length ≤ g → g < 32 → w < W → fx_ib (X.1 (rs + 3) w) g = false)
section CX55
variable {X X' X0 X1 : fx_X} {v p p0 p1 p2 p3 p4 p5 p6 : Int32} {u : Unit} {sr r r' rs W n i i' j j' c w w' m k P wd a b : Nat} {val : md_V} {A B : List md_Row} {ix ps : List Nat} {fo fd : Int} {x z : List Int32} {C : List (List Int32)} {D : Nat → List Int32 → Bool}
theorem cx_gi_put (hrs : rs = 102 ∨ 150 ≤ rs) (hW : W ≤ 1024) (hw : w < W) (hG : cx_gi X rs W m C D) (hb : C[b]? = some z) (h2 : p2.toInt = (b : Int)) (h3 : p3.toInt = (w : Int)) (g0 : gx_109 rs p2 p3 X u X') : cx_gi X' rs W m C (fun w' x => D w' x || (w' == w && x == z)) ∧ cx_rf rs X X' := by
  obtain ⟨⟨q1, q2, q3⟩, q4, q5, q6, q7, q8⟩ := hG
  have hbl := (List.getElem?_eq_some_iff.mp hb).1
  have hb32 : b < 32 := by omega
  obtain ⟨y, rfl, hy⟩ := cx_109 (Nat.lt_of_lt_of_le hw hW) hb32 h2 h3 g0
  have hrf : cx_rf rs X (cx_sb X rs w y) := cx_sb_rf
  have e0 : ∀ j, (cx_sb X rs w y).1 rs j = X.1 rs j := fun j => by unfold cx_sb; rw [fx_rIn (by omega)]
  have e1 : ∀ j, (cx_sb X rs w y).1 (rs + 1) j = X.1 (rs + 1) j := fun j => by unfold cx_sb; rw [fx_rIn (by omega)]
  have e2 : ∀ j, (cx_sb X rs w y).1 (rs + 2) j = X.1 (rs + 2) j := fun j => by unfold cx_sb; rw [fx_rIn (by omega)]
  have e3 : ∀ w', w' ≠ w → (cx_sb X rs w y).1 (rs + 3) w' = X.1 (rs + 3) w' := fun w' h => by unfold cx_sb; rw [fx_rIk h]
  have e4 : (cx_sb X rs w y).1 (rs + 3) w = y := by unfold cx_sb; rw [fx_rIe]
  refine ⟨⟨⟨by rw [e0]; exact q1, by rw [e0]; exact q2, fun g x hx => ⟨(q3 g x hx).1, cx_Rt_e (q3 g x hx).2 e1 e2⟩⟩, q4, q5, fun x => ?_, fun g x hx w' hw' => ?_, fun g w' h1 h2 h5 => ?_⟩, hrf⟩
  · rw [q6 x]
    constructor
    · rintro ⟨w', h1, h2⟩
      exact ⟨w', h1, by show (D w' x || _) = true; rw [h2]; rfl⟩
    · rintro ⟨w', h1, h2⟩
      replace h2 : (D w' x || (w' == w && x == z)) = true := h2
      rw [Bool.or_eq_true] at h2
      rcases h2 with h2 | h2
      · exact ⟨w', h1, h2⟩
      · rw [Bool.and_eq_true, beq_iff_eq, beq_iff_eq] at h2
        rw [h2.2]
        exact (q6 z).mp (List.mem_of_getElem? hb)
  · show _ = (D w' x || (w' == w && x == z))
    have hgl := (List.getElem?_eq_some_iff.mp hx).1
    by_cases s : w' = w
    · subst s
      rw [e4, hy g (by omega), q7 g x hx w' hw']
      by_cases t : g = b
      · subst t
        rw [hb] at hx
        cases hx
        simp
      · have : x ≠ z := fun y => by
          subst y
          have h1 := (List.getElem?_eq_some_iff.mp hx)
          have h2 := (List.getElem?_eq_some_iff.mp hb)
          obtain ⟨h11, h12⟩ := h1
          obtain ⟨h21, h22⟩ := h2
          exact t ((List.getElem_inj q5).mp (h12.trans h22.symm))
        simp [t, this]
    · rw [e3 w' s, q7 g x hx w' hw']
      have : (w' == w) = false := by rw [beq_eq_false_iff_ne]; exact s
      rw [this, Bool.false_and, Bool.or_false]
  · by_cases s : w' = w
    · subst s
      rw [e4, hy g h2, q8 g w' h1 h2 h5]
      have : g ≠ b := by omega
      simp [this]
    · rw [e3 w' s]; exact q8 g w' h1 h2 h5
/-- a group of a WORLD: found or new, its bit set -/
theorem cx_gi_136 (hrs : rs = 102 ∨ 150 ≤ rs) (hW : W ≤ 1024) (hw : w < W) (hz : z.length = m) (h6 : m ≤ 6) (hb : ∀ (c : Nat) (v : Int32), z[c]? = some v → X.1 99 c = v) (hG : cx_gi X rs W m C D) (h3 : p3.toInt = (w : Int)) (g : gx_136 rs X v X1) : (v.toInt < 0 ∧ z ∉ C ∧ C.length = 30 ∧ X1 = X) ∨ (0 ≤ v.toInt ∧ ∀ u X', gx_109 rs v p3 X1 u X' → ∃ C', (∀ x, x ∈ C' ↔ x ∈ C ∨ x = z) ∧ cx_gi X' rs W m C' (fun w' x => D w' x || (w' == w && x == z)) ∧ cx_rf rs X X') := by
  have hG' := hG
  obtain ⟨q1, q4, q5, q6, q7, q8⟩ := hG'
  rcases cx_136 hrs q1 q4 hz h6 hb g with ⟨b, b1, b2, rfl⟩ | ⟨b1, b2, b3, rfl⟩ | ⟨b1, b2, b3, b4, b5, b6⟩
  · refine Or.inr ⟨by omega, fun u X' g2 => ?_⟩
    obtain ⟨c1, c2⟩ := cx_gi_put hrs hW hw hG b1 b2 h3 g2
    refine ⟨C, fun x => ⟨Or.inl, fun y => ?_⟩, c1, c2⟩
    rcases y with y | y
    · exact y
    · rw [y]; exact List.mem_of_getElem? b1
  · exact Or.inl ⟨by omega, b1, b2, rfl⟩
  · refine Or.inr ⟨by omega, fun u X' g2 => ?_⟩
    -- the new one, in no WORLD yet but the one whose bit is set next
    have hrs3 : ∀ w', (X1.1 (rs + 3) w') = X.1 (rs + 3) w' := b6
    have hbz : (C ++ [z])[C.length]? = some z := by rw [List.getElem?_append_right (Nat.le_refl _), Nat.sub_self]; rfl
    have hnD : ∀ w', w' < W → D w' z = false := fun w' hw' => by
      cases e : D w' z with
      | false => rfl
      | true => exact absurd ((q6 z).mpr ⟨w', hw', e⟩) b1
    obtain ⟨y, rfl, hy⟩ := cx_109 (Nat.lt_of_lt_of_le hw hW) (by omega) b3 h3 g2
    have e0 : ∀ j, (cx_sb X1 rs w y).1 rs j = X1.1 rs j := fun j => by unfold cx_sb; rw [fx_rIn (by omega)]
    have e1 : ∀ j, (cx_sb X1 rs w y).1 (rs + 1) j = X1.1 (rs + 1) j := fun j => by unfold cx_sb; rw [fx_rIn (by omega)]
    have e2 : ∀ j, (cx_sb X1 rs w y).1 (rs + 2) j = X1.1 (rs + 2) j := fun j => by unfold cx_sb; rw [fx_rIn (by omega)]
    have e3 : ∀ w', w' ≠ w → (cx_sb X1 rs w y).1 (rs + 3) w' = X1.1 (rs + 3) w' := fun w' h => by unfold cx_sb; rw [fx_rIk h]
    have e4 : (cx_sb X1 rs w y).1 (rs + 3) w = y := by unfold cx_sb; rw [fx_rIe]
    refine ⟨C ++ [z], fun x => by rw [List.mem_append, List.mem_singleton], ⟨⟨by rw [e0]; exact b4.1, by rw [e0]; exact b4.2.1, fun g x hx => ⟨(b4.2.2 g x hx).1, cx_Rt_e (b4.2.2 g x hx).2 e1 e2⟩⟩, by rw [List.length_append]; exact b2, ?_, fun x => ?_, fun g x hx w' hw' => ?_, fun g w' h1 h2 h5 => ?_⟩, cx_rf_tr b5 cx_sb_rf⟩
    · rw [List.nodup_append]
      refine ⟨q5, by simp, fun a ha b hb y => ?_⟩
      rw [List.mem_singleton] at hb
      rw [y, hb] at ha
      exact b1 ha
    · rw [List.mem_append, List.mem_singleton, q6 x]
      constructor
      · rintro (⟨w', h1, h2⟩ | h)
        · exact ⟨w', h1, by show (D w' x || _) = true; rw [h2]; rfl⟩
        · exact ⟨w, hw, by show (D w x || (w == w && x == z)) = true; rw [h]; simp⟩
      · rintro ⟨w', h1, h2⟩
        replace h2 : (D w' x || (w' == w && x == z)) = true := h2
        rw [Bool.or_eq_true] at h2
        rcases h2 with h2 | h2
        · exact Or.inl ⟨w', h1, h2⟩
        · rw [Bool.and_eq_true, beq_iff_eq, beq_iff_eq] at h2
          exact Or.inr h2.2
    · show _ = (D w' x || (w' == w && x == z))
      have hgl := (List.getElem?_eq_some_iff.mp hx).1
      rw [List.length_append] at hgl
      have hgl' : g < C.length + 1 := hgl
      have old : fx_ib (X.1 (rs + 3) w') g = D w' x := by
        by_cases t : g < C.length
        · rw [List.getElem?_append_left t] at hx
          exact q7 g x hx w' hw'
        · have : g = C.length := by omega
          subst this
          rw [hbz] at hx
          cases hx
          rw [q8 _ _ (Nat.le_refl _) (by omega) hw', hnD w' hw']
      by_cases s : w' = w
      · subst s
        rw [e4, hy g (by omega), hrs3, old]
        by_cases t : g = C.length
        · subst t
          rw [hbz] at hx
          cases hx
          simp
        · have hxm : x ∈ C := by
            rw [List.getElem?_append_left (by omega)] at hx
            exact List.mem_of_getElem? hx
          have : x ≠ z := fun y => by rw [y] at hxm; exact b1 hxm
          simp [t, this]
      · rw [e3 w' s, hrs3, old]
        have : (w' == w) = false := by rw [beq_eq_false_iff_ne]; exact s
        rw [this, Bool.false_and, Bool.or_false]
    · rw [List.length_append] at h1
      have h1' : C.length + 1 ≤ g := h1
      by_cases s : w' = w
      · subst s
        rw [e4, hy g h2, hrs3, q8 g w' (by omega) h2 h5]
        have : g ≠ C.length := by omega
        simp [this]
      · rw [e3 w' s, hrs3]; exact q8 g w' (by omega) h2 h5
end CX55
