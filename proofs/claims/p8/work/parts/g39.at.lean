section AJAT
variable {tb : aj_T}
theorem aj_at_ok (H : aj_H) (d : Nat) (s r : Int32) : aj_runs aj_rc aj_cls tb aj_mt (d + 1) 225 [.ref 117, .int s, .int r] H 0 0 (some (.int ((s * 30 + r) * 32))) H := by
  have hz : 0 ≤ 0 ∧ 0 ≤ 0 := ⟨Nat.le_refl _, Nat.le_refl _⟩
  refine aj_leaf aj_m225_at (Nat.le_of_ble_eq_true rfl) ?_
  show aj_TF aj_rc aj_cls tb aj_m225 false true (aj_runs aj_rc aj_cls tb aj_mt d) 0 [(0, .ref 117), (1, .int s), (2, .int r)] [] _ 0 0 0 0 _ _
  refine aj_tn aj_d225 hz rfl rfl ?_
  refine aj_tn aj_d225 hz rfl rfl ?_
  refine aj_tn aj_d225 hz rfl rfl ?_
  refine aj_tn aj_d225 hz rfl rfl ?_
  refine aj_tn aj_d225 hz rfl rfl ?_
  refine aj_tn aj_d225 hz rfl rfl ?_
  refine aj_tn aj_d225 hz rfl rfl ?_
  exact aj_te aj_d225 rfl rfl
end AJAT
