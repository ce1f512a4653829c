/-! WHAT IS KNOWN OF ANY VIEW OF A TYPED HEAP; reading behind writes -/
def fx_G (X : fx_X) : Prop := ∃ tb h, fx_T tb h ∧ fx_V tb h = X
theorem fx_G_i {tb : aj_T} {X : fx_X} (h : ∃ h, fx_T tb h ∧ fx_V tb h = X) : fx_G X := ⟨tb, h⟩
section FXG
variable {X : fx_X}
theorem fx_Gs (hX : fx_G X) {c : Nat} (hc : c < 98) : X.2.2.2.1 (52 + c) = fx_sh c := by
  obtain ⟨tb, h, hT, rfl⟩ := hX
  show fx_A (fx_c tb h (52 + c)) = _
  rw [fx_c_at hT.1]
  exact hT.2.2.2.2.1 c hc
theorem fx_Gt (hX : fx_G X) {r : Nat} (hr : r < 51) : X.1 r = fx_I ((aj_tbS[r]?).map Sum.inl) ∧ X.2.1 r = fx_L ((aj_tbS[r]?).map Sum.inl) ∧ X.2.2.2.1 r = fx_A ((aj_tbS[r]?).map Sum.inl) := by
  obtain ⟨tb, h, hT, rfl⟩ := hX
  have e : fx_c tb h r = (aj_tbS[r]?).map Sum.inl := by
    unfold fx_c
    rw [if_pos (by rw [hT.1]; omega), hT.2.1 r hr]
  refine ⟨?_, ?_, ?_⟩
  · show fx_I (fx_c tb h r) = _
    rw [e]
  · show fx_L (fx_c tb h r) = _
    rw [e]
  · show fx_A (fx_c tb h r) = _
    rw [e]
theorem fx_Gn (hX : fx_G X) : 150 ≤ X.2.2.2.2 ∧ ∀ r, X.2.2.2.2 ≤ r → X.2.2.2.1 r = (9, 0) ∧ (∀ k, X.1 r k = 0) ∧ (∀ k, X.2.1 r k = 0) ∧ ∀ k, X.2.2.1 r k = none := by
  obtain ⟨tb, h, hT, rfl⟩ := hX
  have t1 := hT.1
  refine ⟨?_, fun r hr => ?_⟩
  · show 150 ≤ tb.length + h.length
    have := hT.2.2.1
    omega
  · have e : fx_c tb h r = none := fx_c_out t1 (by
      have z : tb.length + h.length ≤ r := hr
      omega)
    refine ⟨?_, fun k => ?_, fun k => ?_, fun k => ?_⟩
    · show fx_A (fx_c tb h r) = _
      rw [e]
      rfl
    · show fx_I (fx_c tb h r) k = _
      rw [e]
      rfl
    · show fx_L (fx_c tb h r) k = _
      rw [e]
      rfl
    · show fx_R (fx_c tb h r) k = _
      rw [e]
      rfl
/-- the class's ROWS and Shelf -/
theorem fx_Gf (hX : fx_G X) {r ci : Nat} (h52 : 52 ≤ r) (hr : (X.2.2.2.1 r).1 = 10 + ci) {e : Nat × Nat × Nat × Nat × Nat × Nat} (he : e ∈ fx_fin) (h1 : e.1 = ci) : X.2.2.1 r e.2.1 = some (fx_tg e r) ∧ X.2.2.2.1 (fx_tg e r) = (e.2.2.2.2.1, e.2.2.2.2.2) := by
  obtain ⟨tb, h, hT, rfl⟩ := hX
  have t1 := hT.1
  have h2 : (fx_A (fx_c tb h r)).1 = 10 + ci := hr
  obtain ⟨c, rfl⟩ : ∃ c, r = 52 + c := ⟨r - 52, by omega⟩
  have h3 : ∃ fs, h[c]? = some (.inr (ci, fs)) := by
    rw [fx_c_at t1] at h2
    unfold fx_A at h2
    split at h2
    · rename_i k n x hz
      have h4 : k < 9 := (hT.2.2.2.2.2 c k n x hz).1
      have h5 : k = 10 + ci := h2
      omega
    · rename_i ci' fs hz
      have h5 : 10 + ci' = 10 + ci := h2
      exact ⟨fs, by rw [hz, show ci' = ci by omega]⟩
    · have h5 : 9 = 10 + ci := h2
      omega
  obtain ⟨fs, hc⟩ := h3
  obtain ⟨q, q1, q2, q3, q4, q5⟩ := hT.2.2.2.1 c ci fs hc
  obtain ⟨k1, k2⟩ := q4 e he h1
  refine ⟨?_, k2⟩
  show fx_R (fx_c tb h (52 + c)) e.2.1 = _
  rw [fx_c_at t1, hc]
  show fx_vR ((fs[e.2.1]?).getD .null) = _
  rw [k1]
  rfl
end FXG
section FXW
variable {X : fx_X} {r r' k k' : Nat} {v : Int32} {w : Int64} {o : Option Nat}
theorem fx_rI : (fx_wI X r k v).1 r' k' = if r' = r ∧ k' = k then v else X.1 r' k' := rfl
theorem fx_rIe : (fx_wI X r k v).1 r k = v := if_pos ⟨rfl, rfl⟩
theorem fx_rIn (h : r' ≠ r) : (fx_wI X r k v).1 r' = X.1 r' := funext fun k' => if_neg (fun z => h z.1)
theorem fx_rIk (h : k' ≠ k) : (fx_wI X r k v).1 r' k' = X.1 r' k' := if_neg (fun z => h z.2)
theorem fx_rI2 : (fx_wI X r k v).2 = X.2 := rfl
theorem fx_rL1 : (fx_wL X r k w).1 = X.1 := rfl
theorem fx_rLe : (fx_wL X r k w).2.1 r k = w := if_pos ⟨rfl, rfl⟩
theorem fx_rLn (h : r' ≠ r) : (fx_wL X r k w).2.1 r' = X.2.1 r' := funext fun k' => if_neg (fun z => h z.1)
theorem fx_rLk (h : k' ≠ k) : (fx_wL X r k w).2.1 r' k' = X.2.1 r' k' := if_neg (fun z => h z.2)
theorem fx_rL2 : (fx_wL X r k w).2.2 = X.2.2 := rfl
theorem fx_rR1 : (fx_wR X r k o).1 = X.1 := rfl
theorem fx_rR21 : (fx_wR X r k o).2.1 = X.2.1 := rfl
theorem fx_rRe : (fx_wR X r k o).2.2.1 r k = o := if_pos ⟨rfl, rfl⟩
theorem fx_rRn (h : r' ≠ r) : (fx_wR X r k o).2.2.1 r' = X.2.2.1 r' := funext fun k' => if_neg (fun z => h z.1)
theorem fx_rRk (h : k' ≠ k) : (fx_wR X r k o).2.2.1 r' k' = X.2.2.1 r' k' := if_neg (fun z => h z.2)
theorem fx_rR2 : (fx_wR X r k o).2.2.2 = X.2.2.2 := rfl
end FXW
