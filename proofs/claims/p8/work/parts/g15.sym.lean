/-! RUNS WITH UNKNOWN NUMBERS: a value .retAddr j stands for the number ρ j; what a run with such values does, the run with the numbers does -/
def aj_sv (ρ : Nat → Int32) : Value → Value
  | .retAddr j => .int (ρ j)
  | v => v
def aj_sV (ρ : Nat → Int32) (lv : aj_V) : aj_V := lv.map fun q => (q.1, aj_sv ρ q.2)
def aj_sE (ρ : Nat → Int32) : aj_E → aj_E
  | .inl a => .inl a
  | .inr (ci, fs) => .inr (ci, fs.map (aj_sv ρ))
def aj_sH (ρ : Nat → Int32) (h : aj_H) : aj_H := h.map (aj_sE ρ)
def aj_sO (ρ : Nat → Int32) : aj_Out → aj_Out
  | .inl ((pc, lv, st), h, a, b) => .inl ((pc, aj_sV ρ lv, st.map (aj_sv ρ)), aj_sH ρ h, a, b)
  | .inr (.inl (k, mi, as, (pc, lv, st))) => .inr (.inl (k, mi, as.map (aj_sv ρ), (pc, aj_sV ρ lv, st.map (aj_sv ρ))))
  | .inr (.inr v) => .inr (.inr (v.map (aj_sv ρ)))
/-- the static arrays, less those of kind 7, whose contents are unknown -/
def aj_sT (tb' tb : aj_T) : Prop := tb'.length = tb.length ∧ ∀ (r k : Nat) (x : vp_A), tb'[r]? = some (k, x) → k ≠ 7 → tb[r]? = some (k, x)
section AJSYM
variable {ρ : Nat → Int32} {tb' tb : aj_T} {pc : Nat} {lv : aj_V} {st : List Value} {h : aj_H} {out : aj_Out}
theorem aj_sv_cat (v : Value) : (aj_sv ρ v).category = v.category := by cases v <;> rfl
theorem aj_lv_s {i : Nat} {v : Value} (hv : aj_lv lv i = some v) : aj_lv (aj_sV ρ lv) i = some (aj_sv ρ v) := by
  unfold aj_lv at hv ⊢
  obtain ⟨q, hq, rfl⟩ := Option.map_eq_some_iff.mp hv
  have : ((aj_sV ρ lv).find? (fun q => q.1 == i)) = some (q.1, aj_sv ρ q.2) := by
    unfold aj_sV
    rw [List.find?_map]
    have e : ((fun q : Nat × Value => q.1 == i) ∘ fun q : Nat × Value => (q.1, aj_sv ρ q.2)) = fun q => q.1 == i := rfl
    rw [e, hq]
    rfl
  rw [this]
  rfl
theorem aj_set1_s (i : Nat) (v : Value) : aj_sV ρ (aj_set1 lv i v) = aj_set1 (aj_sV ρ lv) i (aj_sv ρ v) := by
  simp only [aj_sV, aj_set1, List.map_cons, List.filter_map]
  congr 2
  apply List.filter_congr
  intro q _
  simp [Function.comp, aj_sv_cat]
theorem aj_set2_s (i : Nat) (v : Value) : aj_sV ρ (aj_set2 lv i v) = aj_set2 (aj_sV ρ lv) i (aj_sv ρ v) := by
  simp only [aj_sV, aj_set2, List.map_cons, List.filter_map]
  congr 2
  apply List.filter_congr
  intro q _
  simp [Function.comp, aj_sv_cat]
theorem aj_go_s {pc1 : Nat} {lv1 : aj_V} {st1 : List Value} {h1 : aj_H} (h0 : aj_go pc1 lv1 st1 h1 = some out) : aj_go pc1 (aj_sV ρ lv1) (st1.map (aj_sv ρ)) (aj_sH ρ h1) = some (aj_sO ρ out) := by
  unfold aj_go at h0
  cases h0
  rfl
theorem aj_jump_s {off : Int} {lv1 : aj_V} {st1 : List Value} {h1 : aj_H} (h0 : aj_jump pc off lv1 st1 h1 = some out) : aj_jump pc off (aj_sV ρ lv1) (st1.map (aj_sv ρ)) (aj_sH ρ h1) = some (aj_sO ρ out) := by
  unfold aj_jump at h0 ⊢
  split at h0
  · rename_i hp
    rw [if_pos hp]
    exact aj_go_s h0
  · cases h0
theorem aj_load_s {len i kind : Nat} (h0 : aj_load pc lv st h len i kind = some out) : aj_load pc (aj_sV ρ lv) (st.map (aj_sv ρ)) (aj_sH ρ h) len i kind = some (aj_sO ρ out) := by
  unfold aj_load at h0 ⊢
  split at h0
  all_goals first
    | (rename_i hx
       rw [aj_lv_s hx]
       dsimp only [aj_sv]
       split at h0
       · rename_i hk
         rw [if_pos hk]
         exact aj_go_s h0
       · cases h0)
    | cases h0
theorem aj_store_s {nL len i kind : Nat} (h0 : aj_store nL pc lv st h len i kind = some out) : aj_store nL pc (aj_sV ρ lv) (st.map (aj_sv ρ)) (aj_sH ρ h) len i kind = some (aj_sO ρ out) := by
  unfold aj_store at h0
  split at h0
  all_goals first
    | (split at h0
       · rename_i hk
         have g := aj_go_s (ρ := ρ) h0
         rw [aj_set1_s] at g
         exact (if_pos hk).trans g
       · cases h0)
    | (split at h0
       · rename_i hk
         have g := aj_go_s (ρ := ρ) h0
         rw [aj_set2_s] at g
         exact (if_pos hk).trans g
       · cases h0)
    | cases h0
theorem aj_ii_s {f : Int32 → Int32 → Int32} (h0 : aj_ii f pc lv st h = some out) : aj_ii f pc (aj_sV ρ lv) (st.map (aj_sv ρ)) (aj_sH ρ h) = some (aj_sO ρ out) := by
  unfold aj_ii at h0
  split at h0
  · exact aj_go_s h0
  · cases h0
theorem aj_iz_s {f : Int32 → Int32 → Int32} (h0 : aj_iz f pc lv st h = some out) : aj_iz f pc (aj_sV ρ lv) (st.map (aj_sv ρ)) (aj_sH ρ h) = some (aj_sO ρ out) := by
  unfold aj_iz at h0
  split at h0
  · split at h0
    · cases h0
    · rename_i hy
      exact (if_neg hy).trans (aj_go_s h0)
  · cases h0
theorem aj_ll_s {f : Int64 → Int64 → Int64} (h0 : aj_ll f pc lv st h = some out) : aj_ll f pc (aj_sV ρ lv) (st.map (aj_sv ρ)) (aj_sH ρ h) = some (aj_sO ρ out) := by
  unfold aj_ll at h0
  split at h0
  · exact aj_go_s h0
  · cases h0
theorem aj_br_s {cd : ClassFile.Cond} {a b : Int32} {off : Int} {lv1 : aj_V} {st1 : List Value} {h1 : aj_H} (h0 : aj_br cd a b pc off lv1 st1 h1 = some out) : aj_br cd a b pc off (aj_sV ρ lv1) (st1.map (aj_sv ρ)) (aj_sH ρ h1) = some (aj_sO ρ out) := by
  unfold aj_br at h0 ⊢
  split at h0
  · rename_i hp
    rw [if_pos hp]
    split at h0
    · rename_i ht
      rw [if_pos ht]
      exact aj_go_s h0
    · rename_i ht
      rw [if_neg ht]
      exact aj_go_s h0
  · cases h0
theorem aj_sH_get {k : Nat} {e : aj_E} (hk : h[k]? = some e) : (aj_sH ρ h)[k]? = some (aj_sE ρ e) := by simp [aj_sH, hk]
theorem aj_sH_set {k : Nat} {e : aj_E} : aj_sH ρ (h.set k e) = (aj_sH ρ h).set k (aj_sE ρ e) := by simp [aj_sH, List.map_set]
theorem aj_arr_s (hT : aj_sT tb' tb) {r k : Nat} {x : vp_A} (h0 : aj_arr tb' h r = some (k, x)) (hk : k ≠ 7) : aj_arr tb (aj_sH ρ h) r = some (k, x) := by
  unfold aj_arr at h0 ⊢
  rw [← hT.1]
  split at h0
  · rename_i hr
    rw [if_pos hr]
    exact hT.2 _ _ _ h0 hk
  · rename_i hr
    rw [if_neg hr]
    split at h0
    · rename_i a ha
      cases h0
      rw [aj_sH_get ha]
      rfl
    · cases h0
theorem aj_obj_s (hT : aj_sT tb' tb) {r ci : Nat} {fs : List Value} (h0 : aj_obj tb' h r = some (ci, fs)) : aj_obj tb (aj_sH ρ h) r = some (ci, fs.map (aj_sv ρ)) := by
  unfold aj_obj at h0 ⊢
  rw [← hT.1]
  split at h0
  · cases h0
  · rename_i hr
    rw [if_neg hr]
    split at h0
    · rename_i a ha
      cases h0
      rw [aj_sH_get ha]
      rfl
    · cases h0
theorem aj_ald_s (hT : aj_sT tb' tb) {k : Nat} (hk7 : k ≠ 7) (h0 : aj_ald k tb' pc lv st h = some out) : aj_ald k tb pc (aj_sV ρ lv) (st.map (aj_sv ρ)) (aj_sH ρ h) = some (aj_sO ρ out) := by
  unfold aj_ald at h0
  split at h0
  · split at h0
    · rename_i ha
      split at h0
      · rename_i hq
        have ha := aj_arr_s (ρ := ρ) hT ha (by rw [hq.1]; exact hk7)
        have g := aj_go_s (ρ := ρ) h0
        simp only [aj_ald, List.map_cons, aj_sv, ha]
        exact (if_pos hq).trans g
      · cases h0
    · cases h0
  · cases h0
theorem aj_bld_s (hT : aj_sT tb' tb) (h0 : aj_bld tb' pc lv st h = some out) : aj_bld tb pc (aj_sV ρ lv) (st.map (aj_sv ρ)) (aj_sH ρ h) = some (aj_sO ρ out) := by
  unfold aj_bld at h0
  split at h0
  · rename_i i r rest
    split at h0
    · rename_i x ha
      have g := aj_ald_s (ρ := ρ) hT (by decide) h0
      have ha := aj_arr_s (ρ := ρ) hT ha (by decide)
      simp only [aj_bld, List.map_cons, aj_sv, ha]
      exact g
    · rename_i hne
      have g := aj_ald_s (ρ := ρ) hT (by decide) h0
      unfold aj_ald at h0
      dsimp only at h0
      split at h0
      · rename_i k' n f ha
        split at h0
        · rename_i hq
          have ha := aj_arr_s (ρ := ρ) hT ha (by rw [hq.1]; decide)
          rw [hq.1] at ha
          simp only [aj_bld, List.map_cons, aj_sv, ha]
          exact g
        · cases h0
      · cases h0
  · cases h0
theorem aj_lld_s (hT : aj_sT tb' tb) (h0 : aj_lld tb' pc lv st h = some out) : aj_lld tb pc (aj_sV ρ lv) (st.map (aj_sv ρ)) (aj_sH ρ h) = some (aj_sO ρ out) := by
  unfold aj_lld at h0
  split at h0
  · split at h0
    · rename_i ha
      split at h0
      · rename_i hq
        have ha := aj_arr_s (ρ := ρ) hT ha (by decide)
        have g := aj_go_s (ρ := ρ) h0
        simp only [aj_lld, List.map_cons, aj_sv, ha]
        exact (if_pos hq).trans g
      · cases h0
    · cases h0
  · cases h0
theorem aj_sv_rf (o : Option Nat) : aj_sv ρ (va_rf o) = va_rf o := by cases o <;> rfl
theorem aj_qld_s (hT : aj_sT tb' tb) (h0 : aj_qld tb' pc lv st h = some out) : aj_qld tb pc (aj_sV ρ lv) (st.map (aj_sv ρ)) (aj_sH ρ h) = some (aj_sO ρ out) := by
  unfold aj_qld at h0
  split at h0
  · split at h0
    · cases h0
    · rename_i hr
      split at h0
      · rename_i ha
        split at h0
        · rename_i hq
          have g := aj_go_s (ρ := ρ) h0
          have ha := aj_sH_get (ρ := ρ) ha
          rw [hT.1] at hr ha
          simp only [aj_qld, List.map_cons, aj_sv, if_neg hr, ha, aj_sE]
          rw [List.map_cons, aj_sv_rf] at g
          exact (if_pos hq).trans g
        · cases h0
      · cases h0
  · cases h0
theorem aj_alen_s (hT : aj_sT tb' tb) (h0 : aj_alen tb' pc lv st h = some out) : aj_alen tb pc (aj_sV ρ lv) (st.map (aj_sv ρ)) (aj_sH ρ h) = some (aj_sO ρ out) := by
  unfold aj_alen at h0
  split at h0
  · split at h0
    · rename_i ha
      split at h0
      · rename_i hq
        have ha := aj_arr_s (ρ := ρ) hT ha (by omega)
        have g := aj_go_s (ρ := ρ) h0
        simp only [aj_alen, List.map_cons, aj_sv, ha]
        exact (if_pos hq).trans g
      · cases h0
    · cases h0
  · cases h0
theorem aj_ast_s {k : Nat} (hT : aj_sT tb' tb) (h0 : aj_ast k tb' pc lv st h = some out) : aj_ast k tb pc (aj_sV ρ lv) (st.map (aj_sv ρ)) (aj_sH ρ h) = some (aj_sO ρ out) := by
  unfold aj_ast at h0
  split at h0
  · split at h0
    · cases h0
    · rename_i hr
      split at h0
      · rename_i ha
        split at h0
        · rename_i hq
          have g := aj_go_s (ρ := ρ) h0
          have ha := aj_sH_get (ρ := ρ) ha
          rw [aj_sH_set] at g
          rw [hT.1] at hr ha g
          simp only [aj_ast, List.map_cons, aj_sv, if_neg hr, ha, aj_sE]
          exact (if_pos hq).trans g
        · cases h0
      · cases h0
  · cases h0
theorem aj_bst_s (hT : aj_sT tb' tb) (h0 : aj_bst tb' pc lv st h = some out) : aj_bst tb pc (aj_sV ρ lv) (st.map (aj_sv ρ)) (aj_sH ρ h) = some (aj_sO ρ out) := by
  unfold aj_bst at h0
  split at h0
  · rename_i x i r rest
    split at h0
    · rename_i a ha
      have g := aj_ast_s (ρ := ρ) hT h0
      have ha := aj_sH_get (ρ := ρ) ha
      rw [hT.1] at ha
      simp only [aj_bst, List.map_cons, aj_sv, ha, aj_sE]
      exact g
    · have g := aj_ast_s (ρ := ρ) hT h0
      unfold aj_ast at h0
      dsimp only at h0
      split at h0
      · cases h0
      · split at h0
        · rename_i k' n f ha
          split at h0
          · rename_i hq
            have ha := aj_sH_get (ρ := ρ) ha
            rw [hT.1, hq.1] at ha
            simp only [aj_bst, List.map_cons, aj_sv, ha, aj_sE]
            exact g
          · cases h0
        · cases h0
  · cases h0
theorem aj_lst_s (hT : aj_sT tb' tb) (h0 : aj_lst tb' pc lv st h = some out) : aj_lst tb pc (aj_sV ρ lv) (st.map (aj_sv ρ)) (aj_sH ρ h) = some (aj_sO ρ out) := by
  unfold aj_lst at h0
  split at h0
  · split at h0
    · cases h0
    · rename_i hr
      split at h0
      · rename_i ha
        split at h0
        · rename_i hq
          have g := aj_go_s (ρ := ρ) h0
          have ha := aj_sH_get (ρ := ρ) ha
          rw [aj_sH_set] at g
          rw [hT.1] at hr ha g
          simp only [aj_lst, List.map_cons, aj_sv, if_neg hr, ha, aj_sE]
          exact (if_pos hq).trans g
        · cases h0
      · cases h0
  · cases h0
theorem aj_qst_s {rc : Nat} (hT : aj_sT tb' tb) (h0 : aj_qst rc tb' pc lv st h = some out) : aj_qst rc tb pc (aj_sV ρ lv) (st.map (aj_sv ρ)) (aj_sH ρ h) = some (aj_sO ρ out) := by
  unfold aj_qst at h0
  split at h0
  · split at h0
    · cases h0
    · rename_i hr
      split at h0
      · rename_i ha
        split at h0
        · rename_i hobj
          split at h0
          · rename_i hq
            have g := aj_go_s (ρ := ρ) h0
            have ha := aj_sH_get (ρ := ρ) ha
            have hobj := aj_obj_s (ρ := ρ) hT hobj
            rw [aj_sH_set] at g
            rw [hT.1] at hr ha g
            simp only [aj_qst, List.map_cons, aj_sv, if_neg hr, ha, aj_sE, hobj]
            exact (if_pos hq).trans g
          · cases h0
        · cases h0
      · cases h0
  · split at h0
    · cases h0
    · rename_i hr
      split at h0
      · rename_i ha
        split at h0
        · rename_i hq
          have g := aj_go_s (ρ := ρ) h0
          have ha := aj_sH_get (ρ := ρ) ha
          rw [aj_sH_set] at g
          rw [hT.1] at hr ha g
          simp only [aj_qst, List.map_cons, aj_sv, if_neg hr, ha, aj_sE]
          exact (if_pos hq).trans g
        · cases h0
      · cases h0
  · cases h0
theorem aj_getf_s {lk : List aj_L} {idx : Nat} (hT : aj_sT tb' tb) (h0 : aj_getf tb' lk pc idx lv st h = some out) : aj_getf tb lk pc idx (aj_sV ρ lv) (st.map (aj_sv ρ)) (aj_sH ρ h) = some (aj_sO ρ out) := by
  unfold aj_getf at h0
  split at h0
  · split at h0
    · rename_i hlink hobj
      split at h0
      · rename_i v hv
        split at h0
        · rename_i hq
          have g := aj_go_s (ρ := ρ) h0
          have hobj := aj_obj_s (ρ := ρ) hT hobj
          simp only [aj_getf, List.map_cons, aj_sv, hlink, hobj, List.getElem?_map, hv, Option.map_some]
          exact (if_pos hq).trans g
        · cases h0
      · cases h0
    · cases h0
  · cases h0
theorem aj_sv_ref (r : Nat) : aj_sv ρ (.ref r) = .ref r := rfl
theorem aj_fit_s {ty : FieldType} {v : Value} (hf : aj_fit ty v = true) : aj_sv ρ v = v := by
  cases v <;> first | rfl | (cases ty <;> exact absurd hf Bool.false_ne_true)
theorem aj_putf_s {cls : List aj_C} {lk : List aj_L} {isI : Bool} {idx : Nat} (hT : aj_sT tb' tb) (h0 : aj_putf cls tb' lk isI pc idx lv st h = some out) : aj_putf cls tb lk isI pc idx (aj_sV ρ lv) (st.map (aj_sv ρ)) (aj_sH ρ h) = some (aj_sO ρ out) := by
  unfold aj_putf at h0
  split at h0
  · split at h0
    · rename_i hlink hobj
      split at h0
      · rename_i hc0
        split at h0
        · rename_i hq
          have g := aj_go_s (ρ := ρ) h0
          have hobj := aj_obj_s (ρ := ρ) hT hobj
          have hv := aj_fit_s (ρ := ρ) hq.2.2.2.1
          rw [aj_sH_set] at g
          rw [hT.1] at g
          simp only [aj_sE, List.map_set, hv] at g
          simp only [aj_putf, List.map_cons, aj_sv_ref, hlink, hobj, hc0, hv, List.length_map]
          exact (if_pos hq).trans g
        · cases h0
      · cases h0
    · cases h0
  · cases h0
theorem aj_gets_s {lk : List aj_L} {idx : Nat} (hT : aj_sT tb' tb) (h0 : aj_gets tb' lk pc idx lv st h = some out) : aj_gets tb lk pc idx (aj_sV ρ lv) (st.map (aj_sv ρ)) (aj_sH ρ h) = some (aj_sO ρ out) := by
  unfold aj_gets at h0 ⊢
  split at h0
  · rename_i hlink
    split at h0
    · rename_i hq
      rw [hT.1] at hq
      exact (if_pos hq).trans (aj_go_s h0)
    · cases h0
  · cases h0
theorem aj_sH_len : (aj_sH ρ h).length = h.length := by simp [aj_sH]
theorem aj_sH_app {e : aj_E} : aj_sH ρ (h ++ [e]) = aj_sH ρ h ++ [aj_sE ρ e] := by simp [aj_sH]
theorem aj_new_s {cls : List aj_C} {lk : List aj_L} {idx : Nat} (hT : aj_sT tb' tb) (h0 : aj_new cls tb' lk pc idx lv st h = some out) : aj_new cls tb lk pc idx (aj_sV ρ lv) (st.map (aj_sv ρ)) (aj_sH ρ h) = some (aj_sO ρ out) := by
  unfold aj_new at h0 ⊢
  split at h0
  · rename_i ci b0 hlink
    split at h0
    · rename_i C0 T0 N0 ty0 hc0
      cases h0
      have e : ∀ ty : FieldType, aj_sv ρ (defaultValue ty) = defaultValue ty := fun ty => by cases ty <;> rfl
      simp [hc0, aj_sO, aj_sH_app, aj_sE, aj_sH_len, hT.1, aj_sv_ref, e, Function.comp]
    · cases h0
  · cases h0
theorem aj_newa_s {k len : Nat} (hT : aj_sT tb' tb) (h0 : aj_newa tb' k len pc lv st h = some out) : aj_newa tb k len pc (aj_sV ρ lv) (st.map (aj_sv ρ)) (aj_sH ρ h) = some (aj_sO ρ out) := by
  unfold aj_newa at h0
  split at h0
  · split at h0
    · rename_i hq
      cases h0
      simp only [aj_newa, List.map_cons, aj_sv, if_pos hq, aj_sO, aj_sH_app, aj_sE, aj_sH_len, hT.1]
    · cases h0
  · cases h0
theorem aj_anew_s {rc : Nat} {lk : List aj_L} {idx : Nat} (hT : aj_sT tb' tb) (h0 : aj_anew rc tb' lk pc idx lv st h = some out) : aj_anew rc tb lk pc idx (aj_sV ρ lv) (st.map (aj_sv ρ)) (aj_sH ρ h) = some (aj_sO ρ out) := by
  unfold aj_anew at h0 ⊢
  split at h0
  · rename_i hlink
    split at h0
    · rename_i hq
      exact (if_pos hq).trans (aj_newa_s hT h0)
    · cases h0
  · cases h0
theorem aj_ldc_s {lk : List aj_L} {len idx : Nat} (h0 : aj_ldc lk len pc idx lv st h = some out) : aj_ldc lk len pc idx (aj_sV ρ lv) (st.map (aj_sv ρ)) (aj_sH ρ h) = some (aj_sO ρ out) := by
  unfold aj_ldc at h0 ⊢
  split at h0
  · exact aj_go_s h0
  · split at h0
    · rename_i hq
      exact (if_pos hq).trans (aj_go_s h0)
    · cases h0
  · cases h0
theorem aj_sum_s (st : List Value) : aj_sum (st.map (aj_sv ρ)) = aj_sum st := by
  unfold aj_sum
  rw [List.map_map]
  congr 1
  apply List.map_congr_left
  intro v _
  exact aj_sv_cat v
theorem aj_rcv_s (hT : aj_sT tb' tb) {b : Nat} {v : Int} (h0 : aj_rcv tb' h b v = true) : aj_rcv tb (aj_sH ρ h) b v = true := by
  unfold aj_rcv at h0 ⊢
  split at h0
  · rename_i hobj
    rw [aj_obj_s hT hobj]
    exact h0
  · cases h0
theorem aj_call_s {lo hi : Nat} {lk : List aj_L} {idx : Nat} (hT : aj_sT tb' tb) (h0 : aj_call lo hi tb' lk pc idx lv st h = some out) : aj_call lo hi tb lk pc idx (aj_sV ρ lv) (st.map (aj_sv ρ)) (aj_sH ρ h) = some (aj_sO ρ out) := by
  unfold aj_call at h0 ⊢
  split at h0
  · rename_i kind mi n v hlink
    split at h0
    · rename_i hlo
      rw [if_pos hlo]
      split at h0
      · rename_i hk6
        rw [if_pos hk6]
        split at h0
        · rename_i hq
          cases h0
          have hq' : n ≤ (st.map (aj_sv ρ)).length ∧ aj_sum ((st.map (aj_sv ρ)).drop n) ≤ 8 := by
            rw [List.length_map, ← List.map_drop, aj_sum_s]
            exact hq
          rw [if_pos hq']
          simp only [aj_sO, List.map_reverse, List.map_take, List.map_drop]
        · cases h0
      · rename_i hk6
        rw [if_neg hk6]
        split at h0
        · rename_i b rest hd
          split at h0
          · rename_i hq
            cases h0
            have hd' : (st.map (aj_sv ρ)).drop n = .ref b :: rest.map (aj_sv ρ) := by
              rw [← List.map_drop, hd]
              rfl
            rw [hd']
            have hq' : (kind = 2 → aj_rcv tb (aj_sH ρ h) b v = true) ∧ aj_sum (rest.map (aj_sv ρ)) ≤ 8 := ⟨fun z => aj_rcv_s hT (hq.1 z), by rw [aj_sum_s]; exact hq.2⟩
            dsimp only
            rw [if_pos hq']
            simp only [aj_sO, List.map_cons, List.map_reverse, List.map_take, aj_sv]
          · cases h0
        · cases h0
    · cases h0
  · cases h0
theorem aj_ret_s {ret : Option FieldType} {k : Nat} (h0 : aj_ret ret st k = some out) : aj_ret ret (st.map (aj_sv ρ)) k = some (aj_sO ρ out) := by
  unfold aj_ret at h0
  split at h0
  all_goals first
    | (cases h0; done)
    | (split at h0
       · rename_i hq
         cases h0
         exact if_pos hq
       · cases h0)
end AJSYM
