/-! THE MODEL: events, notes, and both ways to check -/
def md_ck (T : md_T) (s : md_CS) (e : md_Ev) : md_O (md_CS × Int) := md_ckg none T s e
/-- all events checked, the arguments of the notes -/
def md_fa (T : md_T) : md_CS → List md_Ev → md_O (md_CS × List Int)
  | s, [] => md_k (s, [])
  | s, e :: es => md_bd (md_ck T s e) (fun q => md_bd (md_fa T q.1 es) (fun q2 => md_k (q2.1, if md_quiet e.1 = true then q2.2 else q.2 :: q2.2)))
def md_cod (e : md_Ev) : Prop := e.1 = 137 ∨ 170 ≤ e.1
theorem md_ck_q {T : md_T} {s : md_CS} {e : md_Ev} (h : e.1 = 170 ∨ e.1 = 171 ∨ e.1 = 172) : md_ck T s e = md_k (s, 0) := by
  obtain ⟨U, cu, TB, rw, sk, pk, fr⟩ := s
  obtain ⟨a, near, lead⟩ := e
  unfold md_ck
  rcases h with h | h | h <;> (dsimp only at h; subst h; first | exact md_k170 | exact md_k171 | exact md_k172)
section MDL
variable {T : md_T} {s s' : md_CS} {q : Bool}
/-- a wrong number of TERMS comes to light -/
theorem md_fa_bad : ∀ (es : List md_Ev) (s : md_CS), (∀ e, e ∈ es → md_cod e) → md_run true (es.map (·.1)) = some false → s.2.2.2.1.1 ≠ s.2.2.2.1.2 + (md_cnt es : Int) → md_fa T s es = none ∨ md_fa T s es = some none
  | [], _, _, h, _ => by cases h
  | e :: es, s, hc, h, hn => by
    have hc' : ∀ e, e ∈ es → md_cod e := fun x hx => hc x (List.mem_cons_of_mem _ hx)
    have h' : (md_au true e.1).bind (fun q' => md_run q' (es.map (·.1))) = some false := h
    obtain ⟨U, cu, TB, rw, sk, pk, fr⟩ := s
    obtain ⟨a, near, lead⟩ := e
    dsimp only at h' hn
    by_cases h137 : a = 137
    · right
      subst h137
      have e0 : md_cnt ((137, near, lead) :: es) = 0 := if_pos rfl
      rw [e0] at hn
      show md_bd (md_ckg none T (U, cu, TB, rw, sk, pk, fr) (137, near, lead)) _ = _
      rw [md_k137, if_neg (by omega)]
      rfl
    · have h186 : a ≠ 186 := by
        intro z; subst z; cases h'
      have hau : md_au true a = some true ∨ md_au true a = none := by
        unfold md_au
        rw [if_neg h186, if_neg h137]
        split
        · exact Or.inl rfl
        · split
          · exact Or.inr rfl
          · exact Or.inl rfl
      rcases hau with hau | hau
      · rw [hau] at h'
        have e0 : md_cnt ((a, near, lead) :: es) = (if a = 187 then 1 else 0) + md_cnt es := if_neg h137
        rw [e0] at hn
        cases hm : md_ckg none T (U, cu, TB, rw, sk, pk, fr) (a, near, lead) with
        | none => left; show md_bd (md_ckg none T _ _) _ = _; rw [hm]; rfl
        | some o =>
          cases o with
          | none => right; show md_bd (md_ckg none T _ _) _ = _; rw [hm]; rfl
          | some q =>
            obtain ⟨s1, arg⟩ := q
            have hrw : s1.2.2.2.1.1 ≠ s1.2.2.2.1.2 + (md_cnt es : Int) := by
              by_cases h187 : a = 187
              · subst h187
                rw [md_k187] at hm
                cases md_k_inj hm
                rw [if_pos rfl] at hn
                show rw.1 ≠ rw.2 + 1 + (md_cnt es : Int)
                omega
              · rw [md_ck_rw h186 h187 hm]
                rw [if_neg h187] at hn
                omega
            have key := md_fa_bad es s1 hc' h' hrw
            have e1 : md_fa T (U, cu, TB, rw, sk, pk, fr) ((a, near, lead) :: es) = md_bd (md_fa T s1 es) (fun q2 => md_k (q2.1, if md_quiet a = true then q2.2 else arg :: q2.2)) := by
              show md_bd (md_ckg none T _ _) _ = _
              rw [hm]; rfl
            rw [e1]
            rcases key with z | z <;> rw [z]
            · exact Or.inl rfl
            · exact Or.inr rfl
      · rw [hau] at h'; cases h'
/-- the class's way and the model's -/
theorem md_lk : ∀ (es : List md_Ev) (s : md_CS) (q : Bool), (∀ e, e ∈ es → md_cod e) → md_run q (es.map (·.1)) = some false → (q = true → s.2.2.2.1.1 = s.2.2.2.1.2 + (md_cnt es : Int)) → md_fa T s es = none ∨ (md_fa T s es = some none ∧ md_fc T s es = some none) ∨ ∃ s' as, md_fa T s es = some (some (s', as)) ∧ md_fc T s es = some (some (s', as))
  | [], s, _, _, _, _ => Or.inr (Or.inr ⟨s, [], rfl, rfl⟩)
  | e :: es, s, q, hc, h, hn => by
    have hc' : ∀ e, e ∈ es → md_cod e := fun x hx => hc x (List.mem_cons_of_mem _ hx)
    have h' : (md_au q e.1).bind (fun q' => md_run q' (es.map (·.1))) = some false := h
    have hce := hc e List.mem_cons_self
    obtain ⟨U, cu, TB, rw, sk, pk, fr⟩ := s
    obtain ⟨a, near, lead⟩ := e
    unfold md_cod at hce
    dsimp only at h' hn hce
    by_cases hq : md_quiet a = true
    · -- nothing for the class
      have e2 : md_fc T (U, cu, TB, rw, sk, pk, fr) ((a, near, lead) :: es) = md_fc T (U, cu, TB, rw, sk, pk, fr) es := if_pos hq
      have hst : ∃ q', md_run q' (es.map (·.1)) = some false ∧ md_ckg none T (U, cu, TB, rw, sk, pk, fr) (a, near, lead) = md_k ((U, cu, TB, rw, sk, pk, fr), 0) ∧ (q' = true → rw.1 = rw.2 + (md_cnt es : Int)) := by
        by_cases h137 : a = 137
        · subst h137
          cases q with
          | false => cases h'
          | true =>
            have e0 : md_cnt ((137, near, lead) :: es) = 0 := if_pos rfl
            have := hn rfl
            rw [e0] at this
            exact ⟨false, h', by rw [md_k137, if_pos (by omega)], fun z => by cases z⟩
        · have h4 : a = 170 ∨ a = 171 ∨ a = 172 := by
            unfold md_quiet at hq
            simp at hq
            omega
          have hau : md_au q a = some q := by
            unfold md_au
            rw [if_neg (by omega), if_neg (by omega), if_neg h137, if_neg (by omega)]
          rw [hau] at h'
          have e0 : md_cnt ((a, near, lead) :: es) = (if a = 187 then 1 else 0) + md_cnt es := if_neg h137
          rw [e0, if_neg (by omega)] at hn
          refine ⟨q, h', ?_, fun z => by have := hn z; omega⟩
          rcases h4 with rfl | rfl | rfl
          · exact md_k170
          · exact md_k171
          · exact md_k172
      obtain ⟨q', hq', hm, hn'⟩ := hst
      have e1 : md_fa T (U, cu, TB, rw, sk, pk, fr) ((a, near, lead) :: es) = md_bd (md_fa T (U, cu, TB, rw, sk, pk, fr) es) (fun q2 => md_k (q2.1, if md_quiet a = true then q2.2 else 0 :: q2.2)) := by
        show md_bd (md_ckg none T _ _) _ = _
        rw [hm]; rfl
      rw [e1, e2]
      rcases md_lk es (U, cu, TB, rw, sk, pk, fr) q' hc' hq' hn' with z | ⟨z, z1⟩ | ⟨s', as, z, z1⟩
      · rw [z]; exact Or.inl rfl
      · rw [z]; exact Or.inr (Or.inl ⟨rfl, z1⟩)
      · rw [z]
        refine Or.inr (Or.inr ⟨s', as, ?_, z1⟩)
        show md_k (s', if md_quiet a = true then as else 0 :: as) = _
        rw [if_pos hq]; rfl
    · have h137 : a ≠ 137 := fun z => hq (by rw [z]; rfl)
      have e2 : md_fc T (U, cu, TB, rw, sk, pk, fr) ((a, near, lead) :: es) = md_bd (md_ckg (some (md_cnt es : Int)) T (U, cu, TB, rw, sk, pk, fr) (a, near, lead)) (fun q => md_bd (md_fc T q.1 es) (fun q2 => md_k (q2.1, q.2 :: q2.2))) := if_neg hq
      have e0 : md_cnt ((a, near, lead) :: es) = (if a = 187 then 1 else 0) + md_cnt es := if_neg h137
      -- both go on
      have go : ∀ (s1 : md_CS) (arg : Int) (q' : Bool), md_ckg none T (U, cu, TB, rw, sk, pk, fr) (a, near, lead) = some (some (s1, arg)) → md_ckg (some (md_cnt es : Int)) T (U, cu, TB, rw, sk, pk, fr) (a, near, lead) = some (some (s1, arg)) → md_run q' (es.map (·.1)) = some false → (q' = true → s1.2.2.2.1.1 = s1.2.2.2.1.2 + (md_cnt es : Int)) → md_fa T (U, cu, TB, rw, sk, pk, fr) ((a, near, lead) :: es) = none ∨ (md_fa T (U, cu, TB, rw, sk, pk, fr) ((a, near, lead) :: es) = some none ∧ md_fc T (U, cu, TB, rw, sk, pk, fr) ((a, near, lead) :: es) = some none) ∨ ∃ s' as, md_fa T (U, cu, TB, rw, sk, pk, fr) ((a, near, lead) :: es) = some (some (s', as)) ∧ md_fc T (U, cu, TB, rw, sk, pk, fr) ((a, near, lead) :: es) = some (some (s', as)) := by
        intro s1 arg q' k1 k2 k3 k4
        have e1 : md_fa T (U, cu, TB, rw, sk, pk, fr) ((a, near, lead) :: es) = md_bd (md_fa T s1 es) (fun q2 => md_k (q2.1, if md_quiet a = true then q2.2 else arg :: q2.2)) := by
          show md_bd (md_ckg none T _ _) _ = _
          rw [k1]; rfl
        rw [e1, e2, k2]
        rcases md_lk es s1 q' hc' k3 k4 with z | ⟨z, z1⟩ | ⟨s', as, z, z1⟩
        · rw [z]; exact Or.inl rfl
        · refine Or.inr (Or.inl ⟨by rw [z]; rfl, ?_⟩)
          show md_bd (md_fc T s1 es) _ = _
          rw [z1]; rfl
        · refine Or.inr (Or.inr ⟨s', arg :: as, ?_, ?_⟩)
          · rw [z]
            show md_k (s', if md_quiet a = true then as else arg :: as) = _
            rw [if_neg hq]; rfl
          · show md_bd (md_fc T s1 es) _ = _
            rw [z1]; rfl
      by_cases h186 : a = 186
      · subst h186
        cases q with
        | true => cases h'
        | false =>
          have h'' : md_run true (es.map (·.1)) = some false := h'
          by_cases hix : md_ix (T.2 near) (TB.map (·.1)) 0 < 0
          · right; left
            refine ⟨?_, ?_⟩
            · show md_bd (md_ckg none T _ _) _ = _
              rw [md_k186, if_pos hix]; rfl
            · rw [e2, md_k186, if_pos hix]; rfl
          · cases hl : TB[(md_ix (T.2 near) (TB.map (·.1)) 0).toNat]? with
            | none =>
              left
              show md_bd (md_ckg none T _ _) _ = _
              rw [md_k186, if_neg hix, hl]; rfl
            | some x =>
              obtain ⟨nm, b, cs⟩ := x
              cases b with
              | true =>
                right; left
                refine ⟨?_, ?_⟩
                · show md_bd (md_ckg none T _ _) _ = _
                  rw [md_k186, if_neg hix, hl]; rfl
                · rw [e2, md_k186, if_neg hix, hl]
                  rfl
              | false =>
                have k1 : md_ckg none T (U, cu, TB, rw, sk, pk, fr) (186, near, lead) = md_k ((U, cu, TB, ((cs.length : Int), 0), sk, pk, fr), md_ix (T.2 near) (TB.map (·.1)) 0) := by
                  rw [md_k186, if_neg hix, hl]
                  exact if_neg (by rintro (z | ⟨z, -⟩); cases z; exact z rfl)
                by_cases hcn : (cs.length : Int) = (md_cnt es : Int)
                · refine go _ _ true k1 ?_ h'' (fun _ => by show (cs.length : Int) = 0 + (md_cnt es : Int); omega)
                  rw [md_k186, if_neg hix, hl]
                  exact if_neg (by rintro (z | ⟨-, z⟩); cases z; exact z (by rw [hcn]))
                · have key := md_fa_bad (T := T) es (U, cu, TB, ((cs.length : Int), 0), sk, pk, fr) hc' h'' (by show (cs.length : Int) ≠ 0 + (md_cnt es : Int); omega)
                  have e1 : md_fa T (U, cu, TB, rw, sk, pk, fr) ((186, near, lead) :: es) = md_bd (md_fa T (U, cu, TB, ((cs.length : Int), 0), sk, pk, fr) es) (fun q2 => md_k (q2.1, if md_quiet 186 = true then q2.2 else md_ix (T.2 near) (TB.map (·.1)) 0 :: q2.2)) := by
                    show md_bd (md_ckg none T _ _) _ = _
                    rw [k1]; rfl
                  rw [e1]
                  rcases key with z | z
                  · rw [z]; exact Or.inl rfl
                  · rw [z]
                    refine Or.inr (Or.inl ⟨rfl, ?_⟩)
                    rw [e2, md_k186, if_neg hix, hl]
                    have : (if false = true ∨ (some (md_cnt es : Int) ≠ none ∧ some (md_cnt es : Int) ≠ some (cs.length : Int)) then some none else md_k ((U, cu, TB, ((cs.length : Int), 0), sk, pk, fr), md_ix (T.2 near) (TB.map (·.1)) 0) : md_O (md_CS × Int)) = some none := if_pos (Or.inr ⟨(fun z => by cases z), fun z => hcn (Option.some.inj z).symm⟩)
                    show md_bd (if false = true ∨ (some (md_cnt es : Int) ≠ none ∧ some (md_cnt es : Int) ≠ some (cs.length : Int)) then some none else md_k ((U, cu, TB, ((cs.length : Int), 0), sk, pk, fr), md_ix (T.2 near) (TB.map (·.1)) 0)) _ = _
                    rw [this]; rfl
      · have hcn := md_ck_cn (cn := none) (cn' := some (md_cnt es : Int)) (T := T) (U := U) (cu := cu) (TB := TB) (rw := rw) (sk := sk) (pk := pk) (fr := fr) (near := near) (lead := lead) h186
        have hau : md_au q a = some q ∨ (md_au q a = none) := by
          unfold md_au
          rw [if_neg h186]
          by_cases y : a = 187 ∨ a = 136
          · rw [if_pos y]
            cases q
            · exact Or.inr rfl
            · exact Or.inl rfl
          · rw [if_neg y, if_neg h137]
            by_cases y2 : a = 130
            · rw [if_pos y2]
              cases q
              · exact Or.inl rfl
              · exact Or.inr rfl
            · rw [if_neg y2]
              exact Or.inl rfl
        rcases hau with hau | hau
        · rw [hau] at h'
          cases hm : md_ckg none T (U, cu, TB, rw, sk, pk, fr) (a, near, lead) with
          | none => left; show md_bd (md_ckg none T _ _) _ = _; rw [hm]; rfl
          | some o =>
            cases o with
            | none =>
              right; left
              refine ⟨by show md_bd (md_ckg none T _ _) _ = _; rw [hm]; rfl, ?_⟩
              rw [e2, ← hcn, hm]; rfl
            | some p =>
              obtain ⟨s1, arg⟩ := p
              refine go s1 arg q hm (by rw [← hcn]; exact hm) h' (fun z => ?_)
              have := hn z
              rw [e0] at this
              by_cases h187 : a = 187
              · subst h187
                rw [md_k187] at hm
                cases md_k_inj hm
                rw [if_pos rfl] at this
                show rw.1 = rw.2 + 1 + (md_cnt es : Int)
                omega
              · rw [md_ck_rw h186 h187 hm]
                rw [if_neg h187] at this
                omega
        · rw [hau] at h'; cases h'
end MDL
