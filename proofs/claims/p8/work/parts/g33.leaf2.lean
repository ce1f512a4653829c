section AJLEAF2
variable {tb : aj_T} {h : aj_H} {S : aj_S}
theorem aj_cellAt_ok (H : aj_H) (d : Nat) (s r c : Int32) : aj_runs aj_rc aj_cls tb aj_mt (d + 1) 236 [.int s, .int r, .int c] H 0 0 (some (.int ((s * 30 + r) * 8 + c))) H := by
  have hz : 0 ≤ 0 ∧ 0 ≤ 0 := ⟨Nat.le_refl _, Nat.le_refl _⟩
  refine aj_leaf aj_m236_at (Nat.le_of_ble_eq_true rfl) ?_
  show aj_TF aj_rc aj_cls tb aj_m236 false true (aj_runs aj_rc aj_cls tb aj_mt d) 0 [(0, .int s), (1, .int r), (2, .int c)] [] _ 0 0 0 0 _ _
  refine aj_tn aj_d236 hz rfl rfl ?_
  refine aj_tn aj_d236 hz rfl rfl ?_
  refine aj_tn aj_d236 hz rfl rfl ?_
  refine aj_tn aj_d236 hz rfl rfl ?_
  refine aj_tn aj_d236 hz rfl rfl ?_
  refine aj_tn aj_d236 hz rfl rfl ?_
  refine aj_tn aj_d236 hz rfl rfl ?_
  refine aj_tn aj_d236 hz rfl rfl ?_
  refine aj_tn aj_d236 hz rfl rfl ?_
  exact aj_te aj_d236 rfl rfl
theorem aj_stop_ok (hl : 98 ≤ h.length) (htb : tb.length = 52) (d : Nat) (n p : Int32) : aj_runs aj_rc aj_cls tb aj_mt (d + 1) 215 [.ref 117, .int n, .int p] (aj_mh h S) 0 0 (some (.int 0)) (aj_mh h (aj_u (aj_u (aj_u S.1 24 n) 25 p) 31 1, S.2)) := by
  have hz : 0 ≤ 0 ∧ 0 ≤ 0 := ⟨Nat.le_refl _, Nat.le_refl _⟩
  refine aj_leaf aj_m215_at (Nat.le_of_ble_eq_true rfl) ?_
  show aj_TF aj_rc aj_cls tb aj_m215 false true (aj_runs aj_rc aj_cls tb aj_mt d) 0 [(0, .ref 117), (1, .int n), (2, .int p)] [] _ 0 0 0 0 _ _
  refine aj_tn aj_d215 hz rfl rfl ?_
  refine aj_tn aj_d215 hz rfl rfl ?_
  refine aj_mp (k := 24) hl htb aj_d215 hz rfl rfl (by decide) (q := ("DimShelfModel", aj_T11, 72, aj_F11)) rfl rfl ?_
  refine aj_tn aj_d215 hz rfl rfl ?_
  refine aj_tn aj_d215 hz rfl rfl ?_
  refine aj_mp (k := 25) hl htb aj_d215 hz rfl rfl (by decide) (q := ("DimShelfModel", aj_T11, 72, aj_F11)) rfl rfl ?_
  refine aj_tn aj_d215 hz rfl rfl ?_
  refine aj_tn aj_d215 hz rfl rfl ?_
  refine aj_mp (k := 31) hl htb aj_d215 hz rfl rfl (by decide) (q := ("DimShelfModel", aj_T11, 72, aj_F11)) rfl rfl ?_
  refine aj_tn aj_d215 hz rfl rfl ?_
  exact aj_te aj_d215 rfl rfl
end AJLEAF2
