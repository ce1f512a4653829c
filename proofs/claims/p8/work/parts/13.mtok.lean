def aj_ol : List (String × List aj_L) := [("DimShelf", aj_lk0), ("DimShelf$Shelf", aj_lk1), ("DimShelf$Tokens", aj_lk2), ("DimShelf$Plan", aj_lk3), ("DimShelf$Parser", aj_lk4), ("DimShelf$Checker", aj_lk5), ("DimShelf$Worker", aj_lk6), ("DimShelf$Grouper", aj_lk7), ("DimShelf$Rows", aj_lk8), ("DimShelf$Listing", aj_lk9), ("DimShelf$Reason", aj_lk10), ("DimShelf$Grammar", aj_lk11), ("java/util/Arrays", aj_lk12), ("java/lang/Integer", aj_lk13), ("DimShelfModel", aj_lk14), ("DimShelfLaw", aj_lk15)]
theorem aj_ol_ok : ∀ q ∈ aj_ol, aj_lksOK aj_Tg aj_nw aj_cls aj_mt aj_sf q.1 q.2 := List.forall_mem_cons.mpr ⟨aj_lks_0, List.forall_mem_cons.mpr ⟨aj_lks_1, List.forall_mem_cons.mpr ⟨aj_lks_2, List.forall_mem_cons.mpr ⟨aj_lks_3, List.forall_mem_cons.mpr ⟨aj_lks_4, List.forall_mem_cons.mpr ⟨aj_lks_5, List.forall_mem_cons.mpr ⟨aj_lks_6, List.forall_mem_cons.mpr ⟨aj_lks_7, List.forall_mem_cons.mpr ⟨aj_lks_8, List.forall_mem_cons.mpr ⟨aj_lks_9, List.forall_mem_cons.mpr ⟨aj_lks_10, List.forall_mem_cons.mpr ⟨aj_lks_11, List.forall_mem_cons.mpr ⟨aj_lks_12, List.forall_mem_cons.mpr ⟨aj_lks_13, List.forall_mem_cons.mpr ⟨aj_lks_14, List.forall_mem_cons.mpr ⟨aj_lks_15, fun _ h => absurd h List.not_mem_nil⟩⟩⟩⟩⟩⟩⟩⟩⟩⟩⟩⟩⟩⟩⟩⟩
def aj_ckM (q : MethodName × Nat × Nat × Option FieldType × Nat × List aj_L × String) : Bool := plainName q.1.cls && decide (q.2.2.1 ≤ 21) && decide (q.1.cls ≠ "java/lang/invoke/MethodHandle") && decide (q.1.cls ≠ "java/lang/invoke/VarHandle") && decide ((parseMethodDescriptor q.1.desc).map (fun d => d.parameters.length) = some q.2.2.2.2.1) && aj_ol.any (fun z => decide (z.1 = q.1.cls) && decide (z.2 = q.2.2.2.2.2.1)) && (match lw_tbl[q.2.1]? with
  | some (.code y _ ml r) => decide (y = q.1) && decide (ml = q.2.2.1) && decide (r = q.2.2.2.1)
  | _ => false)
theorem aj_ckM_ok {q : MethodName × Nat × Nat × Option FieldType × Nat × List aj_L × String} (h : aj_ckM q = true) : plainName (aj_mk q).1.cls = true ∧ (aj_mk q).2.2.1 ≤ 21 ∧ Cond.code (aj_mk q).1 (aj_mk q).2.1 (aj_mk q).2.2.1 (aj_mk q).2.2.2.1 ∈ aj_Tg ∧ ((aj_mk q).1.cls ≠ "java/lang/invoke/MethodHandle" ∧ (aj_mk q).1.cls ≠ "java/lang/invoke/VarHandle") ∧ (parseMethodDescriptor (aj_mk q).1.desc).map (fun d => d.parameters.length) = some (aj_mk q).2.2.2.2.1 ∧ aj_lksOK aj_Tg aj_nw aj_cls aj_mt aj_sf (aj_mk q).1.cls (aj_mk q).2.2.2.2.2.1 := by
  unfold aj_ckM at h
  simp only [Bool.and_eq_true, decide_eq_true_eq, List.any_eq_true] at h
  obtain ⟨⟨⟨⟨⟨⟨h1, h2⟩, h4⟩, h5⟩, h6⟩, z, hz, h7, h8⟩, h9⟩ := h
  refine ⟨h1, h2, ?_, ⟨h4, h5⟩, h6, ?_⟩
  · split at h9
    · rename_i y b ml r hy
      simp only [Bool.and_eq_true, decide_eq_true_eq] at h9
      obtain ⟨⟨e1, e2⟩, e3⟩ := h9
      have hb : (aj_mk q).2.1 = b := by simp [aj_mk, aj_bc, hy]
      rw [hb]
      show Cond.code q.1 b q.2.2.1 q.2.2.2.1 ∈ aj_Tg
      rw [← e1, ← e2, ← e3]
      exact List.mem_filter.mpr ⟨List.mem_of_getElem? hy, rfl⟩
    · cases h9
  · show aj_lksOK aj_Tg aj_nw aj_cls aj_mt aj_sf q.1.cls q.2.2.2.2.2.1
    rw [← h7, ← h8]
    exact aj_ol_ok z hz
set_option maxRecDepth 100000 in
theorem aj_mk_0 : aj_rt0.all aj_ckM = true := by decide +kernel
set_option maxRecDepth 100000 in
theorem aj_mk_1 : aj_rt1.all aj_ckM = true := by decide +kernel
set_option maxRecDepth 100000 in
theorem aj_mk_2 : aj_rt2.all aj_ckM = true := by decide +kernel
set_option maxRecDepth 100000 in
theorem aj_mk_3 : aj_rt3.all aj_ckM = true := by decide +kernel
set_option maxRecDepth 100000 in
theorem aj_mk_4 : aj_rt4.all aj_ckM = true := by decide +kernel
set_option maxRecDepth 100000 in
theorem aj_mk_5 : aj_rt5.all aj_ckM = true := by decide +kernel
theorem aj_mtOK1 : aj_mtOK aj_Tg aj_nw aj_cls aj_mt aj_sf := by
  intro mi mm hm
  have hm := List.mem_of_getElem? hm
  obtain ⟨q, hq, rfl⟩ := List.mem_map.mp hm
  have : aj_ckM q = true := by
    unfold aj_rt at hq
    simp only [List.mem_append] at hq
    rcases hq with hq | hq | hq | hq | hq | hq
    · exact List.all_eq_true.mp aj_mk_0 q hq
    · exact List.all_eq_true.mp aj_mk_1 q hq
    · exact List.all_eq_true.mp aj_mk_2 q hq
    · exact List.all_eq_true.mp aj_mk_3 q hq
    · exact List.all_eq_true.mp aj_mk_4 q hq
    · exact List.all_eq_true.mp aj_mk_5 q hq
  exact aj_ckM_ok this
