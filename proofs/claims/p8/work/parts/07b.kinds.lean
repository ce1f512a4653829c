/-! which instructions call, which end -/
def aj_nx (o : Option aj_Out) : Prop := ∀ x, o ≠ some (.inr x)
theorem aj_nx_none : aj_nx none := fun _ h => by cases h
theorem aj_nx_inl (y : aj_Fr × aj_H × Nat × Nat) : aj_nx (some (.inl y)) := fun _ h => by cases h
theorem aj_nx_go (pc : Nat) (lv : aj_V) (st : List Value) (h : aj_H) : aj_nx (aj_go pc lv st h) := aj_nx_inl _
theorem aj_nx_ite {c : Prop} [Decidable c] {a b : Option aj_Out} (ha : aj_nx a) (hb : aj_nx b) : aj_nx (if c then a else b) := by
  by_cases hc : c
  · rw [if_pos hc]; exact ha
  · rw [if_neg hc]; exact hb
theorem aj_jump_nx (pc : Nat) (off : Int) (lv : aj_V) (st : List Value) (h : aj_H) : aj_nx (aj_jump pc off lv st h) := by
  unfold aj_jump
  repeat' (first | exact aj_nx_none | exact aj_nx_inl _ | exact aj_nx_go _ _ _ _ | split)
theorem aj_load_nx (pc : Nat) (lv : aj_V) (st : List Value) (h : aj_H) (len i kind : Nat) : aj_nx (aj_load pc lv st h len i kind) := by
  unfold aj_load
  repeat' (first | exact aj_nx_none | exact aj_nx_inl _ | exact aj_nx_go _ _ _ _ | split)
theorem aj_store_nx (nL pc : Nat) (lv : aj_V) (st : List Value) (h : aj_H) (len i kind : Nat) : aj_nx (aj_store nL pc lv st h len i kind) := by
  unfold aj_store
  repeat' (first | exact aj_nx_none | exact aj_nx_inl _ | exact aj_nx_go _ _ _ _ | split)
theorem aj_ii_nx (f : Int32 → Int32 → Int32) (pc : Nat) (lv : aj_V) (st : List Value) (h : aj_H) : aj_nx (aj_ii f pc lv st h) := by
  unfold aj_ii
  repeat' (first | exact aj_nx_none | exact aj_nx_inl _ | exact aj_nx_go _ _ _ _ | split)
theorem aj_iz_nx (f : Int32 → Int32 → Int32) (pc : Nat) (lv : aj_V) (st : List Value) (h : aj_H) : aj_nx (aj_iz f pc lv st h) := by
  unfold aj_iz
  repeat' (first | exact aj_nx_none | exact aj_nx_inl _ | exact aj_nx_go _ _ _ _ | split)
theorem aj_ll_nx (f : Int64 → Int64 → Int64) (pc : Nat) (lv : aj_V) (st : List Value) (h : aj_H) : aj_nx (aj_ll f pc lv st h) := by
  unfold aj_ll
  repeat' (first | exact aj_nx_none | exact aj_nx_inl _ | exact aj_nx_go _ _ _ _ | split)
theorem aj_br_nx (cd : ClassFile.Cond) (a b : Int32) (pc : Nat) (off : Int) (lv : aj_V) (st : List Value) (h : aj_H) : aj_nx (aj_br cd a b pc off lv st h) := by
  unfold aj_br
  repeat' (first | exact aj_nx_none | exact aj_nx_inl _ | exact aj_nx_go _ _ _ _ | split)
theorem aj_ald_nx (k : Nat) (tb : aj_T) (pc : Nat) (lv : aj_V) (st : List Value) (h : aj_H) : aj_nx (aj_ald k tb pc lv st h) := by
  unfold aj_ald
  repeat' (first | exact aj_nx_none | exact aj_nx_inl _ | exact aj_nx_go _ _ _ _ | split)
theorem aj_bld_nx (tb : aj_T) (pc : Nat) (lv : aj_V) (st : List Value) (h : aj_H) : aj_nx (aj_bld tb pc lv st h) := by
  unfold aj_bld
  repeat' (first | exact aj_nx_none | exact aj_nx_inl _ | exact aj_nx_go _ _ _ _ | exact aj_ald_nx _ _ _ _ _ _ | split)
theorem aj_lld_nx (tb : aj_T) (pc : Nat) (lv : aj_V) (st : List Value) (h : aj_H) : aj_nx (aj_lld tb pc lv st h) := by
  unfold aj_lld
  repeat' (first | exact aj_nx_none | exact aj_nx_inl _ | exact aj_nx_go _ _ _ _ | split)
theorem aj_qld_nx (tb : aj_T) (pc : Nat) (lv : aj_V) (st : List Value) (h : aj_H) : aj_nx (aj_qld tb pc lv st h) := by
  unfold aj_qld
  repeat' (first | exact aj_nx_none | exact aj_nx_inl _ | exact aj_nx_go _ _ _ _ | split)
theorem aj_alen_nx (tb : aj_T) (pc : Nat) (lv : aj_V) (st : List Value) (h : aj_H) : aj_nx (aj_alen tb pc lv st h) := by
  unfold aj_alen
  repeat' (first | exact aj_nx_none | exact aj_nx_inl _ | exact aj_nx_go _ _ _ _ | split)
theorem aj_ast_nx (k : Nat) (tb : aj_T) (pc : Nat) (lv : aj_V) (st : List Value) (h : aj_H) : aj_nx (aj_ast k tb pc lv st h) := by
  unfold aj_ast
  repeat' (first | exact aj_nx_none | exact aj_nx_inl _ | exact aj_nx_go _ _ _ _ | split)
theorem aj_bst_nx (tb : aj_T) (pc : Nat) (lv : aj_V) (st : List Value) (h : aj_H) : aj_nx (aj_bst tb pc lv st h) := by
  unfold aj_bst
  repeat' (first | exact aj_nx_none | exact aj_nx_inl _ | exact aj_nx_go _ _ _ _ | exact aj_ast_nx _ _ _ _ _ _ | split)
theorem aj_lst_nx (tb : aj_T) (pc : Nat) (lv : aj_V) (st : List Value) (h : aj_H) : aj_nx (aj_lst tb pc lv st h) := by
  unfold aj_lst
  repeat' (first | exact aj_nx_none | exact aj_nx_inl _ | exact aj_nx_go _ _ _ _ | split)
theorem aj_qst_nx (rc : Nat) (tb : aj_T) (pc : Nat) (lv : aj_V) (st : List Value) (h : aj_H) : aj_nx (aj_qst rc tb pc lv st h) := by
  unfold aj_qst
  repeat' (first | exact aj_nx_none | exact aj_nx_inl _ | exact aj_nx_go _ _ _ _ | split)
theorem aj_getf_nx (tb : aj_T) (lk : List aj_L) (pc idx : Nat) (lv : aj_V) (st : List Value) (h : aj_H) : aj_nx (aj_getf tb lk pc idx lv st h) := by
  unfold aj_getf
  repeat' (first | exact aj_nx_none | exact aj_nx_inl _ | exact aj_nx_go _ _ _ _ | split)
theorem aj_putf_nx (cls : List aj_C) (tb : aj_T) (lk : List aj_L) (isI : Bool) (pc idx : Nat) (lv : aj_V) (st : List Value) (h : aj_H) : aj_nx (aj_putf cls tb lk isI pc idx lv st h) := by
  unfold aj_putf
  repeat' (first | exact aj_nx_none | exact aj_nx_inl _ | exact aj_nx_go _ _ _ _ | split)
theorem aj_gets_nx (tb : aj_T) (lk : List aj_L) (pc idx : Nat) (lv : aj_V) (st : List Value) (h : aj_H) : aj_nx (aj_gets tb lk pc idx lv st h) := by
  unfold aj_gets
  repeat' (first | exact aj_nx_none | exact aj_nx_inl _ | exact aj_nx_go _ _ _ _ | split)
theorem aj_new_nx (cls : List aj_C) (tb : aj_T) (lk : List aj_L) (pc idx : Nat) (lv : aj_V) (st : List Value) (h : aj_H) : aj_nx (aj_new cls tb lk pc idx lv st h) := by
  unfold aj_new
  repeat' (first | exact aj_nx_none | exact aj_nx_inl _ | exact aj_nx_go _ _ _ _ | split)
theorem aj_newa_nx (tb : aj_T) (k len pc : Nat) (lv : aj_V) (st : List Value) (h : aj_H) : aj_nx (aj_newa tb k len pc lv st h) := by
  unfold aj_newa
  repeat' (first | exact aj_nx_none | exact aj_nx_inl _ | exact aj_nx_go _ _ _ _ | split)
theorem aj_anew_nx (rc : Nat) (tb : aj_T) (lk : List aj_L) (pc idx : Nat) (lv : aj_V) (st : List Value) (h : aj_H) : aj_nx (aj_anew rc tb lk pc idx lv st h) := by
  unfold aj_anew
  repeat' (first | exact aj_nx_none | exact aj_nx_inl _ | exact aj_nx_go _ _ _ _ | exact aj_newa_nx _ _ _ _ _ _ _ | split)
theorem aj_ldc_nx (lk : List aj_L) (len pc idx : Nat) (lv : aj_V) (st : List Value) (h : aj_H) : aj_nx (aj_ldc lk len pc idx lv st h) := by
  unfold aj_ldc
  repeat' (first | exact aj_nx_none | exact aj_nx_inl _ | exact aj_nx_go _ _ _ _ | split)
theorem aj_step_nx (rc : Nat) (cls : List aj_C) (tb : aj_T) (lk : List aj_L) (nL : Nat) (ret : Option FieldType) (isI : Bool) (i : Instr) (len pc : Nat) (lv : aj_V) (st : List Value) (h : aj_H)
    (hi : match i with | .invokevirtual _ | .invokespecial _ | .invokestatic _ | .ireturn | .lreturn | .areturn | .return_ => False | _ => True) : aj_nx (aj_step rc cls tb lk nL ret isI i len pc lv st h) := by
  unfold aj_step
  cases i <;> first | exact False.elim hi | exact aj_nx_none | skip
  all_goals dsimp only
  all_goals repeat' (first | exact aj_nx_none | exact aj_nx_go _ _ _ _ | exact aj_jump_nx _ _ _ _ _ | exact aj_load_nx _ _ _ _ _ _ _ | exact aj_store_nx _ _ _ _ _ _ _ _ | exact aj_ii_nx _ _ _ _ _ | exact aj_iz_nx _ _ _ _ _ | exact aj_ll_nx _ _ _ _ _ | exact aj_br_nx _ _ _ _ _ _ _ _ | exact aj_ald_nx _ _ _ _ _ _ | exact aj_bld_nx _ _ _ _ _ | exact aj_lld_nx _ _ _ _ _ | exact aj_qld_nx _ _ _ _ _ | exact aj_alen_nx _ _ _ _ _ | exact aj_ast_nx _ _ _ _ _ _ | exact aj_bst_nx _ _ _ _ _ | exact aj_lst_nx _ _ _ _ _ | exact aj_qst_nx _ _ _ _ _ _ | exact aj_getf_nx _ _ _ _ _ _ _ | exact aj_putf_nx _ _ _ _ _ _ _ _ _ | exact aj_gets_nx _ _ _ _ _ _ _ | exact aj_new_nx _ _ _ _ _ _ _ _ | exact aj_newa_nx _ _ _ _ _ _ _ | exact aj_anew_nx _ _ _ _ _ _ _ _ | exact aj_ldc_nx _ _ _ _ _ _ _ | split)
theorem aj_nat_nx (tb : aj_T) (lk : List aj_L) (pc idx : Nat) (lv : aj_V) (st : List Value) (h : aj_H) : aj_nx (aj_nat tb lk pc idx lv st h) := by
  unfold aj_nat aj_nmm aj_ncpy
  repeat' (first | exact aj_nx_none | exact aj_nx_go _ _ _ _ | split)
theorem aj_ret_nc (ret : Option FieldType) (st : List Value) (k : Nat) (x : Nat × Nat × List Value × aj_Fr) : aj_ret ret st k ≠ some (.inr (.inl x)) := by
  intro h
  unfold aj_ret at h
  repeat' (first | (cases h; done) | split at h)
theorem aj_call_nr (lo hi : Nat) (tb : aj_T) (lk : List aj_L) (pc idx : Nat) (lv : aj_V) (st : List Value) (h : aj_H) (x : Option Value) : aj_call lo hi tb lk pc idx lv st h ≠ some (.inr (.inr x)) := by
  intro h
  unfold aj_call at h
  repeat' (first | (cases h; done) | split at h)
theorem aj_call_nl (lo hi : Nat) (tb : aj_T) (lk : List aj_L) (pc idx : Nat) (lv : aj_V) (st : List Value) (h : aj_H) (x : aj_Fr × aj_H × Nat × Nat) : aj_call lo hi tb lk pc idx lv st h ≠ some (.inl x) := by
  intro h
  unfold aj_call at h
  repeat' (first | (cases h; done) | split at h)
theorem aj_ret_nl (ret : Option FieldType) (st : List Value) (k : Nat) (x : aj_Fr × aj_H × Nat × Nat) : aj_ret ret st k ≠ some (.inl x) := by
  intro h
  unfold aj_ret at h
  repeat' (first | (cases h; done) | split at h)
theorem aj_is_call {rc : Nat} {cls : List aj_C} {tb : aj_T} {lk : List aj_L} {nL : Nat} {ret : Option FieldType} {isI : Bool} {i : Instr} {len pc : Nat} {lv : aj_V} {st : List Value} {h : aj_H} {x : Nat × Nat × List Value × aj_Fr}
    (h0 : aj_step rc cls tb lk nL ret isI i len pc lv st h = some (.inr (.inl x))) : ∃ (idx lo hi : Nat), len = 3 ∧ (i = .invokevirtual idx ∧ lo = 2 ∧ hi = 2 ∨ i = .invokespecial idx ∧ lo = 3 ∧ hi = 5 ∨ i = .invokestatic idx ∧ lo = 6 ∧ hi = 6) ∧ aj_call lo hi tb lk pc idx lv st h = some (.inr (.inl x)) := by
  cases i <;> first | exact absurd h0 (aj_step_nx _ _ _ _ _ _ _ _ _ _ _ _ _ trivial _) | skip
  all_goals unfold aj_step at h0
  all_goals dsimp only at h0
  all_goals (split at h0 <;> first | (cases h0; done) | skip)
  all_goals first
    | exact absurd h0 (aj_ret_nc _ _ _ _)
    | (rename_i idx hlen; subst hlen; exact ⟨idx, 2, 2, rfl, Or.inl ⟨rfl, rfl, rfl⟩, h0⟩)
    | (rename_i idx hlen; subst hlen; exact ⟨idx, 3, 5, rfl, Or.inr (Or.inl ⟨rfl, rfl, rfl⟩), h0⟩)
    | (rename_i idx hlen
       subst hlen
       split at h0
       · exact absurd h0 (aj_nat_nx _ _ _ _ _ _ _ _)
       · exact ⟨idx, 6, 6, rfl, Or.inr (Or.inr ⟨rfl, rfl, rfl⟩), h0⟩)
theorem aj_is_ret {rc : Nat} {cls : List aj_C} {tb : aj_T} {lk : List aj_L} {nL : Nat} {ret : Option FieldType} {isI : Bool} {i : Instr} {len pc : Nat} {lv : aj_V} {st : List Value} {h : aj_H} {x : Option Value}
    (h0 : aj_step rc cls tb lk nL ret isI i len pc lv st h = some (.inr (.inr x))) : ∃ k, len = 1 ∧ (i = .ireturn ∧ k = 0 ∨ i = .lreturn ∧ k = 1 ∨ i = .areturn ∧ k = 2 ∨ i = .return_ ∧ k = 3) ∧ aj_ret ret st k = some (.inr (.inr x)) := by
  cases i <;> first | exact absurd h0 (aj_step_nx _ _ _ _ _ _ _ _ _ _ _ _ _ trivial _) | skip
  all_goals unfold aj_step at h0
  all_goals dsimp only at h0
  all_goals (split at h0 <;> first | (cases h0; done) | skip)
  all_goals first
    | exact absurd h0 (aj_call_nr _ _ _ _ _ _ _ _ _ _)
    | (split at h0
       · exact absurd h0 (aj_nat_nx _ _ _ _ _ _ _ _)
       · exact absurd h0 (aj_call_nr _ _ _ _ _ _ _ _ _ _))
    | (rename_i hlen; subst hlen; exact ⟨0, rfl, Or.inl ⟨rfl, rfl⟩, h0⟩)
    | (rename_i hlen; subst hlen; exact ⟨1, rfl, Or.inr (Or.inl ⟨rfl, rfl⟩), h0⟩)
    | (rename_i hlen; subst hlen; exact ⟨2, rfl, Or.inr (Or.inr (Or.inl ⟨rfl, rfl⟩)), h0⟩)
    | (rename_i hlen; subst hlen; exact ⟨3, rfl, Or.inr (Or.inr (Or.inr ⟨rfl, rfl⟩)), h0⟩)
