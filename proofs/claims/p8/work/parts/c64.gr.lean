/-! THE MODEL'S GROUPS are such ROWS as can be, in their order -/
section CX64
variable {W n wd k : Nat} {val : md_V} {A : List md_Row} {ps : List Nat} {fo : Int} {x : List Int32}
theorem md_grw_len {L : List (List Int32)} (h : x ∈ md_grw ps fo k L) : x.length = ps.length + 1 := by
  unfold md_grw at h
  obtain ⟨y, _, rfl⟩ := List.mem_map.mp h
  unfold md_key
  rw [List.length_append, List.length_map]; rfl
theorem md_grs_len (h : x ∈ md_grs val W ps fo k A) : x.length = ps.length + 1 := by
  obtain ⟨w, _, h2⟩ := md_grs_mem.mp h
  exact md_grw_len h2
theorem md_grs_so : md_so (md_grs val W ps fo k A) := by
  unfold md_grs
  refine md_fold_so (n := ps.length + 1) _ _ (fun y hy => ?_) (fun y hy => by cases hy) List.Pairwise.nil
  obtain ⟨w, _, h2⟩ := List.mem_flatMap.mp hy
  exact md_grw_len h2
theorem md_okA_gr (h30 : (md_grs val W ps fo k A).length ≤ 30) (h6 : ps.length < 6) : md_okA n (ps.length + 1) (md_gr val W ps fo k A) := by
  refine ⟨by unfold md_gr; rw [List.length_map]; exact h30, fun x hx => ?_⟩
  unfold md_gr at hx
  obtain ⟨y, hy, rfl⟩ := List.mem_map.mp hx
  have hl := md_grs_len hy
  refine ⟨⟨by show (y.map _).length ≤ 6; rw [List.length_map]; omega, fun t ht h1 => ?_⟩, by show (y.map _).length = _; rw [List.length_map]; exact hl⟩
  obtain ⟨v, _, rfl⟩ := List.mem_map.mp ht
  cases h1
end CX64
