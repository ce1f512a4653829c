def aj_Tg : List Cond := lw_tbl.filter goodWord
/-- the word w stands at the place i of the tables -/
def aj_wd (i : Nat) (w : Cond) : Bool := goodWord w && decide (lw_tbl[i]? = some w)
theorem aj_wd_in {i : Nat} {w : Cond} (h : aj_wd i w = true) : w ∈ aj_Tg := by
  simp only [aj_wd, Bool.and_eq_true, decide_eq_true_eq] at h
  exact List.mem_filter.mpr ⟨List.mem_of_getElem? h.2, h.1⟩
def aj_wn (i : Nat) (w : Cond) : Bool := decide (aj_nw[i]? = some w)
theorem aj_wn_in {i : Nat} {w : Cond} (h : aj_wn i w = true) : w ∈ aj_nw := List.mem_of_getElem? (of_decide_eq_true h)
theorem aj_TsOK1 : aj_TsOK aj_Tg := fun w hw => good_of_word (List.mem_filter.mp hw).2
def aj_isN : Cond → Bool
  | .fieldLinkNest _ _ _ _ _ _ => true
  | .methodLinkNest _ _ _ _ => true
  | _ => false
theorem aj_nwOK1 : aj_nwOK aj_nw := by
  intro w hw
  have h : aj_nw.all aj_isN = true := by decide +kernel
  have h1 := List.all_eq_true.mp h w hw
  unfold aj_isN at h1
  split at h1
  · exact Or.inl ⟨_, _, _, _, _, _, rfl⟩
  · exact Or.inr ⟨_, _, _, _, rfl⟩
  · cases h1
theorem aj_nw_tbl : ∀ w ∈ aj_nw, w ∈ lw_tbl := by
  have h : (aj_nw.zip aj_nwP).all (fun q => decide (lw_tbl[q.2]? = some q.1)) = true := by decide +kernel
  have hl : aj_nw.length = aj_nwP.length := by decide +kernel
  intro w hw
  obtain ⟨i, hi⟩ := List.getElem?_of_mem hw
  have hi1 := (List.getElem?_eq_some_iff.mp hi).1
  have h2 : (aj_nw.zip aj_nwP)[i]? = some (w, aj_nwP[i]'(by omega)) := by
    rw [List.getElem?_zip_eq_some]
    exact ⟨hi, List.getElem?_eq_getElem _⟩
  exact List.mem_of_getElem? (of_decide_eq_true (List.all_eq_true.mp h _ (List.mem_of_getElem? h2)))
theorem aj_arrOK : ∀ k, k < 5 → Cond.arrayClass (aj_ty "DimShelf$Rows" k) ∈ aj_Tg := by
  have h : (List.range 5).all (fun k => aj_wd (aj_ap.getD k 0) (.arrayClass (aj_ty "DimShelf$Rows" k))) = true := by decide +kernel
  intro k hk
  exact aj_wd_in (List.all_eq_true.mp h k (List.mem_range.mpr hk))
def aj_ckC (q : aj_C) (ps : List Nat) : Bool := (List.range q.2.2.1).all fun k => aj_wd (ps.getD k 0) (u_lay q.1 q.2.1 k) && decide (parseFieldDescriptor (q.2.1 k).2.2.1 = some (q.2.2.2 k)) && (List.range q.2.2.1).all fun j => j == k || decide ((q.2.1 k).2.1 ≠ (q.2.1 j).2.1)
theorem aj_clsOK1 : aj_clsOK aj_Tg aj_cl aj_cls := by
  have h : (aj_cls.zip aj_cp).all (fun q => aj_ckC q.1 q.2) = true := by decide +kernel
  have hl : aj_cls.length = aj_cp.length := by decide +kernel
  intro i q hi
  have hi1 := (List.getElem?_eq_some_iff.mp hi).1
  have h2 : (aj_cls.zip aj_cp)[i]? = some (q, aj_cp[i]'(by omega)) := by
    rw [List.getElem?_zip_eq_some]
    exact ⟨hi, List.getElem?_eq_getElem _⟩
  have h3 := List.all_eq_true.mp h _ (List.mem_of_getElem? h2)
  unfold aj_ckC at h3
  have h4 : ∀ k, k < q.2.2.1 → _ := fun k hk => List.all_eq_true.mp h3 k (List.mem_range.mpr hk)
  simp only [Bool.and_eq_true, decide_eq_true_eq] at h4
  refine ⟨by simp [aj_cl, hi], fun w hw => ?_, fun k hk => (h4 k hk).1.2, fun a ha b hb hab => ?_⟩
  · obtain ⟨k, hk, rfl⟩ := List.mem_map.mp hw
    exact aj_wd_in (h4 k (List.mem_range.mp hk)).1.1
  · have h5 := List.all_eq_true.mp (h4 a ha).2 b (List.mem_range.mpr hb)
    simp only [Bool.or_eq_true, beq_iff_eq, decide_eq_true_eq] at h5
    rcases h5 with h5 | h5
    · exact absurd h5.symm hab
    · exact h5
/-- a link of the class own, its words by their places -/
def aj_ckL (own : String) (q : aj_L) (ps : List Nat) : Bool := match q with
  | (i, kind, a, b, v) =>
    if kind = 0 then (match aj_cls[a]? with
      | some q => decide (b < q.2.2.1) && aj_wd (ps.getD 0 0) (.fieldLink own i (q.2.1 b).1 (q.2.1 b).2.1 (q.2.1 b).2.2.1) && (decide (v ≠ 0) || !(q.2.1 b).2.2.2) && (decide (v ≠ 1) || ((q.2.1 b).2.2.2 && decide ((q.2.1 b).1 = own)))
      | none => false)
    else if kind = 1 then (match aj_cls[a]? with
      | some q => decide (b < q.2.2.1) && aj_wn (ps.getD 0 0) (.fieldLinkNest own i (q.2.1 b).1 (q.2.1 b).2.1 (q.2.1 b).2.2.1 "DimShelf") && (decide (v ≠ 0) || !(q.2.1 b).2.2.2)
      | none => false)
    else if kind = 2 then (match aj_mt[a]?, aj_cls[v.toNat]? with
      | some m, some q => decide (q.1 = m.1.cls) && decide (b = m.2.2.2.2.1) && aj_wd (ps.getD 0 0) (.methodLink own i m.1) && aj_wd (ps.getD 1 0) (.instanceMethod m.1) && aj_wd (ps.getD 2 0) (.selects m.1.cls m.1 m.1) && aj_wd (ps.getD 3 0) (.initialized m.1.cls)
      | _, _ => false)
    else if kind = 3 then (match aj_mt[a]? with
      | some m => decide (b = m.2.2.2.2.1) && decide (m.1.name = "<init>") && decide (m.2.2.2.1 = none) && aj_wd (ps.getD 0 0) (.methodLink own i m.1) && aj_wd (ps.getD 1 0) (.instanceMethod m.1) && aj_wd (ps.getD 2 0) (.initialized m.1.cls)
      | none => false)
    else if kind = 4 then (match aj_mt[a]? with
      | some m => decide (b = m.2.2.2.2.1) && decide (m.1.name = "<init>") && decide (m.2.2.2.1 = none) && aj_wn (ps.getD 0 0) (.methodLinkNest own i m.1 "DimShelf") && aj_wd (ps.getD 1 0) (.instanceMethod m.1) && aj_wd (ps.getD 2 0) (.initialized m.1.cls)
      | none => false)
    else if kind = 5 then decide (b = 0) && aj_wd (ps.getD 0 0) (.methodLink own i Lib.objectInit) && aj_wd (ps.getD 1 0) (.instanceMethod Lib.objectInit) && aj_wd (ps.getD 2 0) (.code Lib.objectInit ⟨#[0xb1]⟩ 1 none)
    else if kind = 6 then (match aj_mt[a]? with
      | some m => decide (b = m.2.2.2.2.1) && aj_wd (ps.getD 0 0) (.methodLink own i m.1) && aj_wd (ps.getD 1 0) (.static m.1) && aj_wd (ps.getD 2 0) (.initialized m.1.cls)
      | none => false)
    else if kind = 9 then (match aj_sf[a]? with
      | some q => aj_wd (ps.getD 0 0) (.fieldLink own i q.1 q.2.1 q.2.2)
      | none => false)
    else if kind = 10 then aj_wd (ps.getD 0 0) (.constant own i (Int32.ofInt v))
    else if kind = 11 then aj_wd (ps.getD 0 0) (.constantLong own i (Int64.ofInt v))
    else if kind = 12 then (match aj_cls[a]? with
      | some q => aj_wd (ps.getD 0 0) (.classLink own i q.1) && aj_wd (ps.getD 1 0) (.instantiable q.1 q.2.2.1) && aj_wd (ps.getD 2 0) (.initialized q.1)
      | none => false)
    else if kind = 7 then aj_wd (ps.getD 0 0) (.methodLink own i Lib.Math.min.name) && aj_wd (ps.getD 1 0) (.static Lib.Math.min.name) && aj_wd (ps.getD 2 0) (.initialized "java/lang/Math") && aj_wd (ps.getD 3 0) (.code Lib.Math.min.name Lib.Math.min.code 2 (some .int))
    else if kind = 8 then aj_wd (ps.getD 0 0) (.methodLink own i Lib.Math.max.name) && aj_wd (ps.getD 1 0) (.static Lib.Math.max.name) && aj_wd (ps.getD 2 0) (.initialized "java/lang/Math") && aj_wd (ps.getD 3 0) (.code Lib.Math.max.name Lib.Math.max.code 2 (some .int))
    else if kind = 13 then aj_wd (ps.getD 0 0) (.methodLink own i arraycopyName) && aj_wd (ps.getD 1 0) (.native arraycopyName) && aj_wd (ps.getD 2 0) (.static arraycopyName) && aj_wd (ps.getD 3 0) (.initialized "java/lang/System")
    else false
theorem aj_ckL_ok {own : String} {i kind a b : Nat} {v : Int} {ps : List Nat} (h : aj_ckL own (i, kind, a, b, v) ps = true) : aj_lkOK aj_Tg aj_nw aj_cls aj_mt aj_sf own i kind a b v := by
  unfold aj_ckL at h
  refine ⟨?_, ?_, ?_, ?_, ?_, ?_, ?_, ?_, ?_, ?_, ?_, ?_, ?_, ?_⟩
  all_goals (rintro rfl; simp only [Nat.reduceEqDiff, if_true, if_false] at h)
  · split at h
    · rename_i q hq
      simp only [Bool.and_eq_true, Bool.or_eq_true, Bool.not_eq_true', decide_eq_true_eq] at h
      exact ⟨q, hq, h.1.1.1, aj_wd_in h.1.1.2, fun z => h.1.2.resolve_left (fun y => y z), fun z => h.2.resolve_left (fun y => y z)⟩
    · cases h
  · split at h
    · rename_i q hq
      simp only [Bool.and_eq_true, Bool.or_eq_true, Bool.not_eq_true', decide_eq_true_eq] at h
      exact ⟨q, hq, h.1.1, ⟨_, aj_wn_in h.1.2⟩, fun z => h.2.resolve_left (fun y => y z)⟩
    · cases h
  · split at h
    · rename_i m q hm hq
      simp only [Bool.and_eq_true, decide_eq_true_eq] at h
      exact ⟨m, hm, ⟨q, hq, h.1.1.1.1.1⟩, h.1.1.1.1.2, aj_wd_in h.1.1.1.2, aj_wd_in h.1.1.2, aj_wd_in h.1.2, aj_wd_in h.2⟩
    · cases h
  · split at h
    · rename_i m hm
      simp only [Bool.and_eq_true, decide_eq_true_eq] at h
      exact ⟨m, hm, h.1.1.1.1.1, h.1.1.1.1.2, h.1.1.1.2, aj_wd_in h.1.1.2, aj_wd_in h.1.2, aj_wd_in h.2⟩
    · cases h
  · split at h
    · rename_i m hm
      simp only [Bool.and_eq_true, decide_eq_true_eq] at h
      exact ⟨m, hm, h.1.1.1.1.1, h.1.1.1.1.2, h.1.1.1.2, ⟨_, aj_wn_in h.1.1.2⟩, aj_wd_in h.1.2, aj_wd_in h.2⟩
    · cases h
  · simp only [Bool.and_eq_true, decide_eq_true_eq] at h
    exact ⟨h.1.1.1, aj_wd_in h.1.1.2, aj_wd_in h.1.2, aj_wd_in h.2⟩
  · split at h
    · rename_i m hm
      simp only [Bool.and_eq_true, decide_eq_true_eq] at h
      exact ⟨m, hm, h.1.1.1, aj_wd_in h.1.1.2, aj_wd_in h.1.2, aj_wd_in h.2⟩
    · cases h
  · split at h
    · rename_i q hq
      exact ⟨q, hq, aj_wd_in h⟩
    · cases h
  · exact aj_wd_in h
  · exact aj_wd_in h
  · split at h
    · rename_i q hq
      simp only [Bool.and_eq_true] at h
      exact ⟨q, hq, aj_wd_in h.1.1, aj_wd_in h.1.2, aj_wd_in h.2⟩
    · cases h
  all_goals (simp only [Bool.and_eq_true] at h; exact ⟨aj_wd_in h.1.1.1, aj_wd_in h.1.1.2, aj_wd_in h.1.2, aj_wd_in h.2⟩)
theorem aj_cks_ok {own : String} {lk : List aj_L} {lp : List (List Nat)} (hl : lk.length = lp.length) (h : (lk.zip lp).all (fun q => aj_ckL own q.1 q.2) = true) : aj_lksOK aj_Tg aj_nw aj_cls aj_mt aj_sf own lk := by
  intro i kind a b v hq
  unfold aj_link at hq
  obtain ⟨q, hq, he⟩ := Option.map_eq_some_iff.mp hq
  have h1 := List.find?_some hq
  have h2 := List.mem_of_find?_eq_some hq
  obtain ⟨qi, qk⟩ := q
  dsimp only at he h1
  subst he
  have h3 : qi = i := by simpa using h1
  subst h3
  obtain ⟨j, hj⟩ := List.getElem?_of_mem h2
  have hj1 := (List.getElem?_eq_some_iff.mp hj).1
  have h4 : (lk.zip lp)[j]? = some ((qi, kind, a, b, v), lp[j]'(by omega)) := by
    rw [List.getElem?_zip_eq_some]
    exact ⟨hj, List.getElem?_eq_getElem _⟩
  exact aj_ckL_ok (List.all_eq_true.mp h _ (List.mem_of_getElem? h4))
