/-! THE REFERENCE: join, the model by places -/
section DD47
variable {α β γ : Type} {f : α → β → γ} {B : List β} {R2 : Nat}
theorem md_fm_len : ∀ (A : List α), (A.flatMap (fun x => B.map (f x))).length = A.length * B.length
  | [] => by rw [List.flatMap_nil, List.length_nil, List.length_nil, Nat.zero_mul]
  | a :: A => by
    rw [List.flatMap_cons, List.length_append, List.length_map, md_fm_len A, List.length_cons, Nat.succ_mul, Nat.add_comm]
theorem md_fm_at (h0 : 0 < B.length) : ∀ (A : List α) (k : Nat) (z : γ), (A.flatMap (fun x => B.map (f x)))[k]? = some z → ∃ x y, A[k / B.length]? = some x ∧ B[k % B.length]? = some y ∧ z = f x y
  | [], k, z, h => by
    rw [List.flatMap_nil, List.getElem?_nil] at h
    cases h
  | a :: A, k, z, h => by
    rw [List.flatMap_cons] at h
    by_cases hk : k < B.length
    · rw [List.getElem?_append_left (by rw [List.length_map]; exact hk), List.getElem?_map] at h
      rw [Nat.div_eq_of_lt hk, Nat.mod_eq_of_lt hk]
      cases hy : B[k]? with
      | none => rw [hy] at h; cases h
      | some y =>
        rw [hy] at h
        exact ⟨a, y, rfl, rfl, (Option.some.inj h).symm⟩
    · rw [List.getElem?_append_right (by rw [List.length_map]; omega), List.length_map] at h
      obtain ⟨x, y, h1, h2, h3⟩ := md_fm_at h0 A (k - B.length) z h
      have e1 : k / B.length = (k - B.length) / B.length + 1 := by
        rw [Nat.div_eq_sub_div h0 (by omega)]
      have e2 : k % B.length = (k - B.length) % B.length := Nat.mod_eq_sub_mod (by omega)
      exact ⟨x, y, by rw [e1]; exact h1, by rw [e2]; exact h2, h3⟩
end DD47
