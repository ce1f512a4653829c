/-! THE REFERENCE: HANDS AND CHECKER TOGETHER -/
def ak_spTR : List Nat := List.range 102 ++ ak_spTM
def ak_spFR : List (Nat × Nat) := ((List.range 11).flatMap fun c => (List.range 40).map fun k => (c, k)) ++ ak_spFM
abbrev ak_TR : ak_TT := (ak_ti, ak_ft0, ak_spTR, ak_spFR)
def ar_sf : List Nat := [0, 23, 24, 26, 27, 28, 29, 30, 32, 37, 45]
def ar_sa : List Nat := [1, 3, 5, 7, 10, 11, 12, 17, 18, 21]
def ar_sl : List Nat := [2, 8]
/-- the special cells are the same -/
def aw_sm (S S' : aj_S) : Prop := (∀ k ∈ ar_sf, S'.1 k = S.1 k) ∧ (∀ k ∈ ar_sa, S'.2.2.1 k = S.2.2.1 k) ∧ ∀ k ∈ ar_sl, S'.2.2.2 k = S.2.2.2 k
def aw_Gs (G : aj_S → Prop) : Prop := ∀ S S', aw_sm S S' → G S → G S'
def aw_fr (F A : List Nat) (S S' : aj_S) : Prop := (∀ k, k ∉ F → S'.1 k = S.1 k ∧ S'.2.1 k = S.2.1 k) ∧ ∀ k, k ∉ A → S'.2.2.1 k = S.2.2.1 k ∧ S'.2.2.2 k = S.2.2.2 k
/-- the heap but for the reference's cells -/
def aw_hy (s : List Nat) (h : aj_H) : Prop := h.length = s.length ∧ cw_B s ∧ ∀ (i c : Nat) (fs : List Value), (i < 65 ∨ 98 ≤ i) → h[i]? = some (.inr (c, fs)) → c < 11 ∧ fs.length ≤ 40
abbrev aw_U (tb : aj_T) (s : List Nat) (h : aj_H) : Prop := aw_E tb h ∧ ak_tbOK ak_TN tb ∧ aw_hy s h
def aw_xf (h : aj_H) (k : Nat) : Int32 := match (h[65]? : Option aj_E) with
  | some (.inr (11, fs)) => (match fs[k]? with
    | some (.int x) => x
    | _ => 0)
  | _ => 0
def aw_xl (h : aj_H) (k : Nat) : Int64 := match (h[65]? : Option aj_E) with
  | some (.inr (11, fs)) => (match fs[k]? with
    | some (.long x) => x
    | _ => 0)
  | _ => 0
def aw_xa (h : aj_H) (k : Nat) : Nat → Int32 := match (h[65 + k]? : Option aj_E) with
  | some (.inl (_, _, .inl f)) => f
  | _ => fun _ => 0
def aw_xb (h : aj_H) (k : Nat) : Nat → Int64 := match (h[65 + k]? : Option aj_E) with
  | some (.inl (_, _, .inr (.inl f))) => f
  | _ => fun _ => 0
/-- the reference's cells, out of a heap -/
def aw_xS (h : aj_H) : aj_S := (aw_xf h, aw_xl h, aw_xa h, aw_xb h)
def aw_SP (s0 : List Nat) (h0 : aj_H) (G : aj_S → Prop) (s : List Nat) (h : aj_H) : Prop := s = s0 ∧ (∀ i, (i < 65 ∨ 98 ≤ i) → h[i]? = h0[i]?) ∧ G (aw_xS h)
def aw_kap (h : aj_H) : Int := max 0 (min 1001 (aw_xf h 30).toInt)
section AR95
variable {tb : aj_T} {s s0 u : List Nat} {h h0 h1 h' : aj_H} {S S' S'' X : aj_S} {G : aj_S → Prop} {d k : Nat} {con : ak_Con} {as : List Value} {F A F' A' : List Nat} {r : Option Value}
theorem aw_sm_rf : aw_sm S S := ⟨fun _ _ => rfl, fun _ _ => rfl, fun _ _ => rfl⟩
theorem aw_sm_sy (h : aw_sm S S') : aw_sm S' S := ⟨fun k q => (h.1 k q).symm, fun k q => (h.2.1 k q).symm, fun k q => (h.2.2 k q).symm⟩
theorem aw_sm_tr (h : aw_sm S S') (h' : aw_sm S' S'') : aw_sm S S'' := ⟨fun k q => (h'.1 k q).trans (h.1 k q), fun k q => (h'.2.1 k q).trans (h.2.1 k q), fun k q => (h'.2.2 k q).trans (h.2.2 k q)⟩
theorem aw_fr_rf : aw_fr F A S S := ⟨fun _ _ => ⟨rfl, rfl⟩, fun _ _ => ⟨rfl, rfl⟩⟩
theorem aw_fr_tr (h : aw_fr F A S S') (h' : aw_fr F A S' S'') : aw_fr F A S S'' := ⟨fun k q => ⟨((h'.1 k q).1).trans (h.1 k q).1, ((h'.1 k q).2).trans (h.1 k q).2⟩, fun k q => ⟨((h'.2 k q).1).trans (h.2 k q).1, ((h'.2 k q).2).trans (h.2 k q).2⟩⟩
theorem aw_fr_sub (hF : ∀ k ∈ F, k ∈ F') (hA : ∀ k ∈ A, k ∈ A') (h : aw_fr F A S S') : aw_fr F' A' S S' := ⟨fun k q => h.1 k (fun z => q (hF k z)), fun k q => h.2 k (fun z => q (hA k z))⟩
theorem aw_fr_f {v : Int32} (hk : k ∈ F) (h : aw_fr F A S S') : aw_fr F A S (aw_wf S' k v) := ⟨fun j hj => ⟨by
  show (if j = k then v else S'.1 j) = S.1 j
  rw [if_neg (fun z : j = k => hj (by rw [z]; exact hk))]
  exact (h.1 j hj).1, (h.1 j hj).2⟩, h.2⟩
theorem aw_fr_l {v : Int64} (hk : k ∈ F) (h : aw_fr F A S S') : aw_fr F A S (aw_wl S' k v) := ⟨fun j hj => ⟨(h.1 j hj).1, by
  show (if j = k then v else S'.2.1 j) = S.2.1 j
  rw [if_neg (fun z : j = k => hj (by rw [z]; exact hk))]
  exact (h.1 j hj).2⟩, h.2⟩
theorem aw_fr_a {j : Nat} {v : Int32} (hk : k ∈ A) (h : aw_fr F A S S') : aw_fr F A S (aw_wa S' k j v) := ⟨h.1, fun i hi => ⟨by
  show (if i = k then _ else S'.2.2.1 i) = S.2.2.1 i
  rw [if_neg (fun z : i = k => hi (by rw [z]; exact hk))]
  exact (h.2 i hi).1, (h.2 i hi).2⟩⟩
theorem aw_fr_b {j : Nat} {v : Int64} (hk : k ∈ A) (h : aw_fr F A S S') : aw_fr F A S (aw_wb S' k j v) := ⟨h.1, fun i hi => ⟨(h.2 i hi).1, by
  show (if i = k then _ else S'.2.2.2 i) = S.2.2.2 i
  rw [if_neg (fun z : i = k => hi (by rw [z]; exact hk))]
  exact (h.2 i hi).2⟩⟩
theorem aw_fr_sm (h1 : (ar_sf.all fun k => !F.contains k) = true) (h2 : (ar_sa.all fun k => !A.contains k) = true) (h3 : (ar_sl.all fun k => !A.contains k) = true) (h : aw_fr F A S S') : aw_sm S S' := by
  refine ⟨fun k q => (h.1 k ?_).1, fun k q => (h.2 k ?_).1, fun k q => (h.2 k ?_).2⟩
  · have := List.all_eq_true.mp h1 k q
    simpa using this
  · have := List.all_eq_true.mp h2 k q
    simpa using this
  · have := List.all_eq_true.mp h3 k q
    simpa using this
theorem aw_Gs_Gc (hG : aw_Gs G) : aw_Gc G := by
  refine ⟨fun S k v hk hS => hG S _ ⟨fun j hj => if_neg ?_, fun _ _ => rfl, fun _ _ => rfl⟩ hS, fun S k v hS => hG S _ ⟨fun _ _ => rfl, fun _ _ => rfl, fun _ _ => rfl⟩ hS, fun S k j v hk hS => hG S _ ⟨fun _ _ => rfl, fun i hi => if_neg ?_, fun _ _ => rfl⟩ hS, fun S k j v hk hS => hG S _ ⟨fun _ _ => rfl, fun _ _ => rfl, fun i hi => if_neg ?_⟩ hS⟩
  · rintro rfl
    refine hk ?_
    simp only [ar_sf, List.mem_cons, List.not_mem_nil, or_false] at hj
    rcases hj with rfl | rfl | rfl | rfl | rfl | rfl | rfl | rfl | rfl | rfl | rfl <;> decide
  · rintro rfl
    refine hk ?_
    simp only [ar_sa, List.mem_cons, List.not_mem_nil, or_false] at hi
    rcases hi with rfl | rfl | rfl | rfl | rfl | rfl | rfl | rfl | rfl | rfl <;> decide
  · rintro rfl
    refine hk ?_
    simp only [ar_sl, List.mem_cons, List.not_mem_nil, or_false] at hi
    rcases hi with rfl | rfl <;> decide
theorem aw_Gs_sm : aw_Gs (aw_sm S) := fun _ _ h h' => aw_sm_tr h' h
theorem aw_hy_sT (hy : aw_hy s h) : aw_sT s := by
  intro k hk
  refine cw_s0 hy.2.1 ?_
  have : (List.range 33).all (fun k => ak_s0[65 + k]? == some (if k = 0 then 63 else 101 + k)) = true := by decide
  exact eq_of_beq (List.all_eq_true.mp this k (List.mem_range.mpr hk))
theorem aw_UV (hU : aw_U tb s h) (hG : aw_Gs G) : aw_V tb s h G := ⟨hU.1, hU.2.1, aw_hy_sT hU.2.2, aw_Gs_Gc hG⟩
/-- out of the heap with these cells: these cells -/
theorem aw_xf_mh (hl : 98 ≤ h.length) {k : Nat} (hk : k ∈ aj_mi) : aw_xf (aj_mh h S) k = S.1 k := by
  unfold aw_xf
  rw [show (65 : Nat) = 65 + 0 from rfl, aj_mh_get hl S (by decide)]
  unfold aj_mc
  rw [if_pos rfl]
  change (match (aj_mf S)[k]? with
    | some (.int x) => x
    | _ => 0) = _
  rw [aw_mfk hk]
theorem aw_xl_mh (hl : 98 ≤ h.length) {k : Nat} (hk : k ∈ aj_mj) : aw_xl (aj_mh h S) k = S.2.1 k := by
  unfold aw_xl
  rw [show (65 : Nat) = 65 + 0 from rfl, aj_mh_get hl S (by decide)]
  unfold aj_mc
  rw [if_pos rfl]
  change (match (aj_mf S)[k]? with
    | some (.long x) => x
    | _ => 0) = _
  rw [aw_mjk hk]
theorem aw_xa_mh (hl : 98 ≤ h.length) {k kd n : Nat} (hk : k < 33) (hk0 : k ≠ 0) (hm : aj_ml[k]? = some (kd, n)) (hkd : kd ≠ 1) : aw_xa (aj_mh h S) k = S.2.2.1 k := by
  unfold aw_xa
  rw [aj_mh_get hl S hk]
  unfold aj_mc
  rw [if_neg hk0, hm]
  dsimp only
  rw [if_neg hkd]
theorem aw_xb_mh (hl : 98 ≤ h.length) {k n : Nat} (hk : k < 33) (hk0 : k ≠ 0) (hm : aj_ml[k]? = some (1, n)) : aw_xb (aj_mh h S) k = S.2.2.2 k := by
  unfold aw_xb
  rw [aj_mh_get hl S hk]
  unfold aj_mc
  rw [if_neg hk0, hm]
  dsimp only
  rw [if_pos rfl]
theorem aw_xS_sm (hl : 98 ≤ h.length) : aw_sm S (aw_xS (aj_mh h S)) := by
  refine ⟨fun k hk => aw_xf_mh hl ?_, fun k hk => ?_, fun k hk => ?_⟩
  · simp only [ar_sf, List.mem_cons, List.not_mem_nil, or_false] at hk
    rcases hk with rfl | rfl | rfl | rfl | rfl | rfl | rfl | rfl | rfl | rfl | rfl <;> decide
  · simp only [ar_sa, List.mem_cons, List.not_mem_nil, or_false] at hk
    rcases hk with rfl | rfl | rfl | rfl | rfl | rfl | rfl | rfl | rfl | rfl <;> exact aw_xa_mh hl (by decide) (by decide) rfl (by decide)
  · simp only [ar_sl, List.mem_cons, List.not_mem_nil, or_false] at hk
    rcases hk with rfl | rfl <;> exact aw_xb_mh hl (by decide) (by decide) rfl
/-- fields and arrays of X where there are such, else S's -/
def aw_mg (S X : aj_S) : aj_S := (fun k => if k ∈ aj_mi then X.1 k else S.1 k, fun k => if k ∈ aj_mj then X.2.1 k else S.2.1 k, fun k => if 0 < k ∧ k < 33 ∧ k ∉ [2, 8, 16] then X.2.2.1 k else S.2.2.1 k, fun k => if k ∈ [2, 8, 16] then X.2.2.2 k else S.2.2.2 k)
theorem aw_mrk {q : Nat × Nat} (hq : q ∈ aj_mr) : (aj_mf S)[q.1]? = some (.ref q.2) := by
  simp only [aj_mr, List.mem_cons, List.not_mem_nil, or_false] at hq
  repeat' (first | (rcases hq with rfl | hq; rfl) | (subst hq; rfl))
def ar_kind (k : Nat) : Bool := match aw_fa[k]? with
  | some (.inl _) => aj_mi.contains k
  | some (.inr none) => aj_mj.contains k
  | some (.inr (some (l, n))) => aj_mr.any (fun q => q.1 == k && (l == [q.2 - 16] && (!n && decide (117 < q.2 ∧ q.2 < 150))))
  | none => false
theorem ar_kinds : (List.range 72).all ar_kind = true := by decide +kernel
theorem aw_mfl : (aj_mf S).length = 72 := rfl
theorem aw_fal : aw_fa.length = 72 := by decide
theorem aw_mf_case {k : Nat} (hk : k < 72) : k ∈ aj_mi ∨ k ∈ aj_mj ∨ ∃ q ∈ aj_mr, q.1 = k := by
  have h0 := List.all_eq_true.mp ar_kinds k (List.mem_range.mpr hk)
  unfold ar_kind at h0
  split at h0
  · exact Or.inl (by simpa using h0)
  · exact Or.inr (Or.inl (by simpa using h0))
  · obtain ⟨q, q1, q2⟩ := List.any_eq_true.mp h0
    rw [Bool.and_eq_true, beq_iff_eq] at q2
    exact Or.inr (Or.inr ⟨q, q1, q2.1⟩)
  · cases h0
theorem aw_mf_eq {k : Nat} (h1 : S'.1 k = S.1 k) (h2 : S'.2.1 k = S.2.1 k) : (aj_mf S')[k]? = (aj_mf S)[k]? := by
  by_cases hk : k < 72
  · rcases aw_mf_case hk with q | q | ⟨q, q1, rfl⟩
    · rw [aw_mfk q, aw_mfk q, h1]
    · rw [aw_mjk q, aw_mjk q, h2]
    · rw [aw_mrk q1, aw_mrk q1]
  · rw [List.getElem?_eq_none (by rw [aw_mfl]; omega), List.getElem?_eq_none (by rw [aw_mfl]; omega)]
theorem ar_ml {k : Nat} (h0 : 0 < k) (hk : k < 33) : ∃ kd n, aj_ml[k]? = some (kd, n) ∧ (kd = 1 ↔ k ∈ [2, 8, 16]) ∧ kd < 5 ∧ ∃ y, ak_ti[101 + k]? = some (.inr (kd, n, n, y)) := by
  have h1 : (List.range 32).all (fun j => match aj_ml[j + 1]? with
    | some (kd, n) => (decide (kd = 1) == decide (j + 1 ∈ [2, 8, 16])) && (decide (kd < 5) && (match ak_ti[101 + (j + 1)]? with
      | some (.inr (kd', n1, n2, _)) => kd' == kd && (n1 == n && n2 == n)
      | _ => false))
    | none => false) = true := by decide +kernel
  have h2 := List.all_eq_true.mp h1 (k - 1) (List.mem_range.mpr (by omega))
  rw [show k - 1 + 1 = k by omega] at h2
  split at h2
  · rename_i kd n e
    rw [Bool.and_eq_true, Bool.and_eq_true, beq_iff_eq, decide_eq_decide, decide_eq_true_eq] at h2
    obtain ⟨e1, e2, h2⟩ := h2
    refine ⟨kd, n, e, e1, e2, ?_⟩
    split at h2
    · rename_i kd' n1 n2 y e3
      rw [Bool.and_eq_true, Bool.and_eq_true, beq_iff_eq, beq_iff_eq, beq_iff_eq] at h2
      obtain ⟨rfl, rfl, rfl⟩ := h2
      exact ⟨y, e3⟩
    · cases h2
  · cases h2
theorem aw_cls (hy : aw_hy s h0) {i : Nat} {t : Nat} (hs : s[i]? = some t) (ht : 101 < t) : 65 < i ∧ i < 98 ∧ t = i + 36 := by
  obtain ⟨u, rfl, hu⟩ := hy.2.1
  by_cases hl : i < ak_s0.length
  · rw [List.getElem?_append_left hl] at hs
    have h1 : (List.range 98).all (fun i => match ak_s0[i]? with
      | some t => decide (t ≤ 101) || (decide (65 < i) && decide (t = i + 36))
      | none => true) = true := by decide +kernel
    have hl' : i < 98 := hl
    have h2 := List.all_eq_true.mp h1 i (List.mem_range.mpr hl')
    rw [hs] at h2
    simp only [Bool.or_eq_true, Bool.and_eq_true, decide_eq_true_eq] at h2
    rcases h2 with q | q
    · omega
    · exact ⟨q.1, hl', q.2⟩
  · rw [List.getElem?_append_right (by omega)] at hs
    have := hu t (List.mem_of_getElem? hs)
    simp at this
    omega
theorem aw_SPc (hy : aw_hy s0 h0) (hG : aw_Gs G) : ak_SPc ak_TR (aw_SP s0 h0 G) := by
  intro s h i e e' hS hi hb
  obtain ⟨rfl, hS1, hS2⟩ := hS
  have hl := (List.getElem?_eq_some_iff.mp hi).1
  rcases hb with ⟨t, kd, n, x, x', q1, q2, rfl, rfl⟩ | ⟨c, fs, fs', rfl, rfl, q1, q2⟩
  · have ht : 101 < t := by
      refine Nat.lt_of_not_le fun z => q2 ?_
      show t ∈ List.range 102 ++ ak_spTM
      exact List.mem_append_left _ (List.mem_range.mpr (by omega))
    obtain ⟨g1, g2, g3⟩ := aw_cls hy q1 ht
    refine ⟨rfl, fun j hj => ?_, hG _ _ ⟨fun k _ => ?_, fun k hk => ?_, fun k hk => ?_⟩ hS2⟩
    · rw [List.getElem?_set_ne (by omega)]
      exact hS1 j hj
    · show aw_xf _ k = aw_xf h k
      unfold aw_xf
      rw [List.getElem?_set_ne (by omega)]
    · show aw_xa _ k = aw_xa h k
      unfold aw_xa
      rw [List.getElem?_set_ne]
      intro z
      refine q2 (List.mem_append_right _ ?_)
      rw [g3, z]
      simp only [ar_sa, List.mem_cons, List.not_mem_nil, or_false] at hk
      rcases hk with rfl | rfl | rfl | rfl | rfl | rfl | rfl | rfl | rfl | rfl <;> decide
    · show aw_xb _ k = aw_xb h k
      unfold aw_xb
      rw [List.getElem?_set_ne]
      intro z
      refine q2 (List.mem_append_right _ ?_)
      rw [g3, z]
      simp only [ar_sl, List.mem_cons, List.not_mem_nil, or_false] at hk
      rcases hk with rfl | rfl <;> decide
  · have low : c < 11 → ∀ k, k < 40 → fs'[k]? = fs[k]? := by
      intro hc k hk
      refine q2 k (List.mem_append_left _ ?_)
      exact List.mem_flatMap.mpr ⟨c, List.mem_range.mpr hc, List.mem_map.mpr ⟨k, List.mem_range.mpr hk, rfl⟩⟩
    by_cases ho : i < 65 ∨ 98 ≤ i
    · have e0 := hS1 i ho
      rw [hi] at e0
      obtain ⟨c1, c2⟩ := hy.2.2 i c fs ho e0.symm
      have : fs' = fs := by
        apply List.ext_getElem?
        intro k
        by_cases hk : k < 40
        · exact low c1 k hk
        · rw [List.getElem?_eq_none (by omega), List.getElem?_eq_none (by omega)]
      subst this
      have e1 : h.set i (.inr (c, fs')) = h := by
        apply List.ext_getElem?
        intro j
        by_cases hj : j = i
        · subst hj
          rw [List.getElem?_set_self hl, hi]
        · rw [List.getElem?_set_ne (fun z => hj z.symm)]
      rw [e1]
      exact ⟨rfl, hS1, hS2⟩
    · refine ⟨rfl, fun j hj => ?_, hG _ _ ⟨fun k hk => ?_, fun k hk => ?_, fun k hk => ?_⟩ hS2⟩
      · rw [List.getElem?_set_ne (by omega)]
        exact hS1 j hj
      · show aw_xf _ k = aw_xf h k
        unfold aw_xf
        by_cases h65 : i = 65
        · subst h65
          rw [List.getElem?_set_self hl, hi]
          by_cases hc : c = 11
          · subst hc
            change (match fs'[k]? with
              | some (.int x) => x
              | _ => 0) = (match fs[k]? with
              | some (.int x) => x
              | _ => 0)
            rw [q2 k ?_]
            refine List.mem_append_right _ ?_
            simp only [ar_sf, List.mem_cons, List.not_mem_nil, or_false] at hk
            rcases hk with rfl | rfl | rfl | rfl | rfl | rfl | rfl | rfl | rfl | rfl | rfl <;> decide
          · split
            · rename_i z
              cases z
              exact absurd rfl hc
            · split
              · rename_i z
                cases z
                exact absurd rfl hc
              · rfl
        · rw [List.getElem?_set_ne h65]
      · show aw_xa _ k = aw_xa h k
        unfold aw_xa
        by_cases hj : 65 + k = i
        · subst hj
          rw [List.getElem?_set_self hl, hi]
        · rw [List.getElem?_set_ne (fun z => hj z.symm)]
      · show aw_xb _ k = aw_xb h k
        unfold aw_xb
        by_cases hj : 65 + k = i
        · subst hj
          rw [List.getElem?_set_self hl, hi]
        · rw [List.getElem?_set_ne (fun z => hj z.symm)]
end AR95
