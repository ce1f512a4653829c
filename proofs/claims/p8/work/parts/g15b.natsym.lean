section AJNATSYM
variable {ρ : Nat → Int32} {tb' tb : aj_T} {pc : Nat} {lv : aj_V} {st : List Value} {h : aj_H} {out : aj_Out}
theorem aj_nmm_s {f : Int32 → Int32 → Int32} (h0 : aj_nmm f pc lv st h = some out) : aj_nmm f pc (aj_sV ρ lv) (st.map (aj_sv ρ)) (aj_sH ρ h) = some (aj_sO ρ out) := by
  unfold aj_nmm at h0
  split at h0
  · split at h0
    · rename_i rest hs
      have g := aj_go_s (ρ := ρ) h0
      simp only [aj_nmm, List.map_cons, aj_sv]
      exact (if_pos (by rw [aj_sum_s]; exact hs)).trans g
    · cases h0
  · cases h0
theorem aj_ncpy_s (hT : aj_sT tb' tb) (h0 : aj_ncpy tb' pc lv st h = some out) : aj_ncpy tb pc (aj_sV ρ lv) (st.map (aj_sv ρ)) (aj_sH ρ h) = some (aj_sO ρ out) := by
  unfold aj_ncpy at h0
  split at h0
  · split at h0
    · cases h0
    · rename_i hr
      split at h0
      · rename_i h1 h2
        split at h0
        · rename_i hq
          have g := aj_go_s (ρ := ρ) h0
          have h1 := aj_sH_get (ρ := ρ) h1
          have h2 := aj_sH_get (ρ := ρ) h2
          rw [aj_sH_set] at g
          rw [hT.1] at hr h1 h2 g
          simp only [aj_ncpy, List.map_cons, aj_sv, if_neg hr, h1, h2, aj_sE]
          exact (if_pos ⟨hq.1, hq.2.1, hq.2.2.1, hq.2.2.2.1, by rw [aj_sum_s]; exact hq.2.2.2.2⟩).trans g
        · cases h0
      · cases h0
  · cases h0
theorem aj_nat_s {lk : List aj_L} {idx : Nat} (hT : aj_sT tb' tb) (h0 : aj_nat tb' lk pc idx lv st h = some out) : aj_nat tb lk pc idx (aj_sV ρ lv) (st.map (aj_sv ρ)) (aj_sH ρ h) = some (aj_sO ρ out) := by
  unfold aj_nat at h0 ⊢
  split at h0
  · rename_i kind a1 a2 a3 hlink
    try simp only [hlink]
    split at h0
    · rename_i hk
      exact (if_pos hk).trans (aj_nmm_s h0)
    · rename_i hk
      refine (if_neg hk).trans ?_
      split at h0
      · rename_i hk
        exact (if_pos hk).trans (aj_nmm_s h0)
      · rename_i hk
        refine (if_neg hk).trans ?_
        split at h0
        · rename_i hk
          exact (if_pos hk).trans (aj_ncpy_s hT h0)
        · cases h0
  · cases h0
end AJNATSYM
