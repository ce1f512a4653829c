/-! A LIST with two places changed -/
def md_sw (C C' : List (List Int32)) (i j : Nat) : Prop := C'.length = C.length ∧ C'[i]? = C[j]? ∧ C'[j]? = C[i]? ∧ ∀ l : Nat, l ≠ i → l ≠ j → C'[l]? = C[l]?
section CX66
variable {C C' : List (List Int32)} {i j : Nat} {x : List Int32}
theorem md_sw_at (h : md_sw C C' i j) (l : Nat) : C'[l]? = C[if l = i then j else if l = j then i else l]? := by
  obtain ⟨_, h2, h3, h4⟩ := h
  by_cases z : l = i
  · rw [if_pos z, z]; exact h2
  · by_cases y : l = j
    · rw [if_neg z, if_pos y, y]; exact h3
    · rw [if_neg z, if_neg y]; exact h4 l z y
theorem md_sw_sy (h : md_sw C C' i j) : md_sw C' C i j := ⟨h.1.symm, h.2.2.1.symm, h.2.1.symm, fun l z y => (h.2.2.2 l z y).symm⟩
theorem md_sw_mem1 (h : md_sw C C' i j) (hx : x ∈ C') : x ∈ C := by
  obtain ⟨l, hl, rfl⟩ := List.mem_iff_getElem.mp hx
  have := md_sw_at h l
  rw [List.getElem?_eq_getElem hl] at this
  exact List.mem_of_getElem? this.symm
theorem md_sw_mem (h : md_sw C C' i j) : x ∈ C' ↔ x ∈ C := ⟨md_sw_mem1 h, md_sw_mem1 (md_sw_sy h)⟩
theorem md_sw_nd (h : md_sw C C' i j) (hn : C.Nodup) : C'.Nodup := by
  refine List.pairwise_iff_getElem.mpr (fun a b ha hb hab e => ?_)
  have e1 := md_sw_at h a
  have e2 := md_sw_at h b
  rw [List.getElem?_eq_getElem ha] at e1
  rw [List.getElem?_eq_getElem hb, ← e] at e2
  obtain ⟨p1, p2⟩ := List.getElem?_eq_some_iff.mp e1.symm
  obtain ⟨q1, q2⟩ := List.getElem?_eq_some_iff.mp e2.symm
  have := (List.getElem_inj hn).mp (p2.trans q2.symm)
  clear e1 e2 p1 p2 q1 q2 e
  repeat' split at this
  all_goals omega
end CX66
