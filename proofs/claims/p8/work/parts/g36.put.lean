section AJPUT2
variable {tb : aj_T} {h : aj_H} {S : aj_S}
def aj_oneV (w : Int32) : Int32 := Int32.ofInt 1 <<< ((w &&& (Int8.ofInt 31).toInt32) &&& 31)
def aj_putX (f : Nat → Int32) (a w b : Int32) : Int32 := if b = 0 then f (aj_wordV a w).toNatClampNeg &&& (aj_oneV w ^^^ Int32.ofInt (-1)) else f (aj_wordV a w).toNatClampNeg ||| aj_oneV w
def aj_putS (S : aj_S) (k : Nat) (a w b : Int32) : aj_S := (S.1, S.2.1, aj_u S.2.2.1 k (upd (S.2.2.1 k) (aj_wordV a w).toNatClampNeg (aj_putX (S.2.2.1 k) a w b)), S.2.2.2)
theorem aj_put2_ok (hl : 98 ≤ h.length) (htb : tb.length = 52) (d : Nat) {k n : Nat} (hk3 : k < 33) (hk0 : k ≠ 0) (hm : aj_ml[k]? = some (0, n)) (a w b : Int32) (hx : aj_in (aj_wordV a w) n = true) : aj_runs aj_rc aj_cls tb aj_mt (d + 1) 228 [.ref (117 + k), .int a, .int w, .int b] (aj_mh h S) 0 0 none (aj_mh h (aj_putS S k a w b)) := by
  have hz : 0 ≤ 0 ∧ 0 ≤ 0 := ⟨Nat.le_refl _, Nat.le_refl _⟩
  refine aj_leaf aj_m228_at (Nat.le_of_ble_eq_true rfl) ?_
  show aj_TF aj_rc aj_cls tb aj_m228 false true (aj_runs aj_rc aj_cls tb aj_mt d) 0 [(0, .ref (117 + k)), (1, .int a), (2, .int w), (3, .int b)] [] _ 0 0 0 0 _ _
  unfold aj_putS aj_putX
  refine aj_tn aj_d228 hz rfl rfl ?_
  refine aj_tn aj_d228 hz rfl rfl ?_
  refine aj_tn aj_d228 hz rfl rfl ?_
  refine aj_tn aj_d228 hz rfl rfl ?_
  refine aj_tn aj_d228 hz rfl rfl ?_
  refine aj_tn aj_d228 hz rfl rfl ?_
  refine aj_tn aj_d228 hz rfl rfl ?_
  refine aj_tn aj_d228 hz rfl rfl ?_
  refine aj_tn aj_d228 hz rfl rfl ?_
  refine aj_tn aj_d228 hz rfl rfl ?_
  refine aj_tn aj_d228 hz rfl rfl ?_
  refine aj_tn aj_d228 hz rfl rfl ?_
  refine aj_tn aj_d228 hz rfl rfl ?_
  refine aj_tn aj_d228 hz rfl rfl ?_
  refine aj_tn aj_d228 hz rfl rfl ?_
  refine aj_tz (tgt := 32) aj_d228 hz rfl rfl (fun z => ?_) (fun z => ?_)
  · have z : b = 0 := by simpa [aj_test] using z
    rw [if_pos z]
    refine aj_tn aj_d228 hz rfl rfl ?_
    refine aj_tn aj_d228 hz rfl rfl ?_
    refine aj_mld hl htb aj_d228 hz (Or.inl ⟨rfl, rfl⟩) rfl hk3 hk0 hm hx ?_
    refine aj_tn aj_d228 hz rfl rfl ?_
    refine aj_tn aj_d228 hz rfl rfl ?_
    refine aj_tn aj_d228 hz rfl rfl ?_
    refine aj_tn aj_d228 hz rfl rfl ?_
    refine aj_mst hl htb aj_d228 hz (Or.inl ⟨rfl, rfl⟩) rfl hk3 hk0 hm hx ?_
    exact aj_te aj_d228 rfl rfl
  · have z : b ≠ 0 := by simpa [aj_test] using z
    rw [if_neg z]
    refine aj_tn aj_d228 hz rfl rfl ?_
    refine aj_tn aj_d228 hz rfl rfl ?_
    refine aj_mld hl htb aj_d228 hz (Or.inl ⟨rfl, rfl⟩) rfl hk3 hk0 hm hx ?_
    refine aj_tn aj_d228 hz rfl rfl ?_
    refine aj_tn aj_d228 hz rfl rfl ?_
    refine aj_tn aj_d228 hz rfl rfl ?_
    refine aj_mst hl htb aj_d228 hz (Or.inl ⟨rfl, rfl⟩) rfl hk3 hk0 hm hx ?_
    exact aj_te aj_d228 rfl rfl
/-- kind is z and mark is c -/
def aj_isV (S : aj_S) (z c : Int32) : Int32 := if S.1 26 = z then (if S.1 29 = c then 1 else 0) else 0
theorem aj_isWord_ok (hl : 98 ≤ h.length) (htb : tb.length = 52) (d : Nat) (c : Int32) : aj_runs aj_rc aj_cls tb aj_mt (d + 1) 212 [.ref 117, .int c] (aj_mh h S) 0 0 (some (.int (aj_isV S (Int32.ofInt 4) c))) (aj_mh h S) := by
  have hz : 0 ≤ 0 ∧ 0 ≤ 0 := ⟨Nat.le_refl _, Nat.le_refl _⟩
  refine aj_leaf aj_m212_at (Nat.le_of_ble_eq_true rfl) ?_
  show aj_TF aj_rc aj_cls tb aj_m212 false true (aj_runs aj_rc aj_cls tb aj_mt d) 0 [(0, .ref 117), (1, .int c)] [] _ 0 0 0 0 _ _
  unfold aj_isV
  refine aj_tn aj_d212 hz rfl rfl ?_
  refine aj_mg hl htb aj_d212 hz rfl rfl (by decide) rfl ?_
  refine aj_tn aj_d212 hz rfl rfl ?_
  refine aj_tc (tgt := 20) aj_d212 hz rfl rfl (fun z => ?_) (fun z => ?_)
  · have z : S.1 26 ≠ Int32.ofInt 4 := by simpa [aj_test] using z
    rw [if_neg z]
    refine aj_tn aj_d212 hz rfl rfl ?_
    exact aj_te aj_d212 rfl rfl
  · have z : S.1 26 = Int32.ofInt 4 := by simpa [aj_test] using z
    rw [if_pos z]
    refine aj_tn aj_d212 hz rfl rfl ?_
    refine aj_mg hl htb aj_d212 hz rfl rfl (by decide) rfl ?_
    refine aj_tn aj_d212 hz rfl rfl ?_
    refine aj_tc (tgt := 20) aj_d212 hz rfl rfl (fun z => ?_) (fun z => ?_)
    · have z : S.1 29 ≠ c := by simpa [aj_test] using z
      rw [if_neg z]
      refine aj_tn aj_d212 hz rfl rfl ?_
      exact aj_te aj_d212 rfl rfl
    · have z : S.1 29 = c := by simpa [aj_test] using z
      rw [if_pos z]
      refine aj_tn aj_d212 hz rfl rfl ?_
      refine aj_tn aj_d212 hz rfl rfl ?_
      exact aj_te aj_d212 rfl rfl
theorem aj_isSign_ok (hl : 98 ≤ h.length) (htb : tb.length = 52) (d : Nat) (c : Int32) : aj_runs aj_rc aj_cls tb aj_mt (d + 1) 220 [.ref 117, .int c] (aj_mh h S) 0 0 (some (.int (aj_isV S (Int32.ofInt 3) c))) (aj_mh h S) := by
  have hz : 0 ≤ 0 ∧ 0 ≤ 0 := ⟨Nat.le_refl _, Nat.le_refl _⟩
  refine aj_leaf aj_m220_at (Nat.le_of_ble_eq_true rfl) ?_
  show aj_TF aj_rc aj_cls tb aj_m220 false true (aj_runs aj_rc aj_cls tb aj_mt d) 0 [(0, .ref 117), (1, .int c)] [] _ 0 0 0 0 _ _
  unfold aj_isV
  refine aj_tn aj_d220 hz rfl rfl ?_
  refine aj_mg hl htb aj_d220 hz rfl rfl (by decide) rfl ?_
  refine aj_tn aj_d220 hz rfl rfl ?_
  refine aj_tc (tgt := 20) aj_d220 hz rfl rfl (fun z => ?_) (fun z => ?_)
  · have z : S.1 26 ≠ Int32.ofInt 3 := by simpa [aj_test] using z
    rw [if_neg z]
    refine aj_tn aj_d220 hz rfl rfl ?_
    exact aj_te aj_d220 rfl rfl
  · have z : S.1 26 = Int32.ofInt 3 := by simpa [aj_test] using z
    rw [if_pos z]
    refine aj_tn aj_d220 hz rfl rfl ?_
    refine aj_mg hl htb aj_d220 hz rfl rfl (by decide) rfl ?_
    refine aj_tn aj_d220 hz rfl rfl ?_
    refine aj_tc (tgt := 20) aj_d220 hz rfl rfl (fun z => ?_) (fun z => ?_)
    · have z : S.1 29 ≠ c := by simpa [aj_test] using z
      rw [if_neg z]
      refine aj_tn aj_d220 hz rfl rfl ?_
      exact aj_te aj_d220 rfl rfl
    · have z : S.1 29 = c := by simpa [aj_test] using z
      rw [if_pos z]
      refine aj_tn aj_d220 hz rfl rfl ?_
      refine aj_tn aj_d220 hz rfl rfl ?_
      exact aj_te aj_d220 rfl rfl
end AJPUT2
