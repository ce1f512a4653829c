section AJLEAF3
variable {tb : aj_T} {h : aj_H} {S : aj_S}
def aj_rangeV (lo hi x : Int32) : Int32 := if x < lo then 0 else if hi < x then 0 else 1
theorem aj_rangeV_01 (lo hi x : Int32) : aj_rangeV lo hi x = 0 ∨ aj_rangeV lo hi x = 1 := by
  unfold aj_rangeV
  split
  · exact Or.inl rfl
  · split
    · exact Or.inl rfl
    · exact Or.inr rfl
theorem aj_isLetter_ok (hl : 98 ≤ h.length) (htb : tb.length = 52) (d : Nat) (k : Int32) (hk : k < S.1 23 → aj_in k 4000 = true) : aj_runs aj_rc aj_cls tb aj_mt (d + 2) 208 [.ref 117, .int k] (aj_mh h S) 0 0 (some (.int (aj_rangeV (Int8.ofInt 97).toInt32 (Int8.ofInt 122).toInt32 (aj_seenV S k)))) (aj_mh h S) := by
  have hz : 0 ≤ 0 ∧ 0 ≤ 0 := ⟨Nat.le_refl _, Nat.le_refl _⟩
  refine aj_leaf aj_m208_at (Nat.le_of_ble_eq_true rfl) ?_
  show aj_TF aj_rc aj_cls tb aj_m208 false true (aj_runs aj_rc aj_cls tb aj_mt (d + 1)) 0 [(0, .ref 117), (1, .int k)] [] _ 0 0 0 0 _ _
  unfold aj_rangeV
  refine aj_tn aj_d208 hz rfl rfl ?_
  refine aj_tn aj_d208 hz rfl rfl ?_
  refine aj_tiv aj_d208 rfl rfl [.int k] rfl rfl (aj_mo hl htb S) rfl (by decide) rfl (aj_seen_ok hl htb d k hk) rfl hz ?_
  refine aj_tn aj_d208 hz rfl rfl ?_
  refine aj_tc (tgt := 24) aj_d208 hz rfl rfl (fun z => ?_) (fun z => ?_)
  · have z : decide (aj_seenV S k < (Int8.ofInt 97).toInt32) = true := z
    rw [if_pos (of_decide_eq_true z)]
    refine aj_tn aj_d208 hz rfl rfl ?_
    exact aj_te aj_d208 rfl rfl
  · have z : decide (aj_seenV S k < (Int8.ofInt 97).toInt32) = false := z
    rw [if_neg (of_decide_eq_false z)]
    refine aj_tn aj_d208 hz rfl rfl ?_
    refine aj_tn aj_d208 hz rfl rfl ?_
    refine aj_tiv aj_d208 rfl rfl [.int k] rfl rfl (aj_mo hl htb S) rfl (by decide) rfl (aj_seen_ok hl htb d k hk) rfl hz ?_
    refine aj_tn aj_d208 hz rfl rfl ?_
    refine aj_tc (tgt := 24) aj_d208 hz rfl rfl (fun z => ?_) (fun z => ?_)
    · have z : decide ((Int8.ofInt 122).toInt32 < aj_seenV S k) = true := z
      rw [if_pos (of_decide_eq_true z)]
      refine aj_tn aj_d208 hz rfl rfl ?_
      exact aj_te aj_d208 rfl rfl
    · have z : decide ((Int8.ofInt 122).toInt32 < aj_seenV S k) = false := z
      rw [if_neg (of_decide_eq_false z)]
      refine aj_tn aj_d208 hz rfl rfl ?_
      refine aj_tn aj_d208 hz rfl rfl ?_
      exact aj_te aj_d208 rfl rfl
theorem aj_isDigit_ok (hl : 98 ≤ h.length) (htb : tb.length = 52) (d : Nat) (k : Int32) (hk : k < S.1 23 → aj_in k 4000 = true) : aj_runs aj_rc aj_cls tb aj_mt (d + 2) 209 [.ref 117, .int k] (aj_mh h S) 0 0 (some (.int (aj_rangeV (Int8.ofInt 48).toInt32 (Int8.ofInt 57).toInt32 (aj_seenV S k)))) (aj_mh h S) := by
  have hz : 0 ≤ 0 ∧ 0 ≤ 0 := ⟨Nat.le_refl _, Nat.le_refl _⟩
  refine aj_leaf aj_m209_at (Nat.le_of_ble_eq_true rfl) ?_
  show aj_TF aj_rc aj_cls tb aj_m209 false true (aj_runs aj_rc aj_cls tb aj_mt (d + 1)) 0 [(0, .ref 117), (1, .int k)] [] _ 0 0 0 0 _ _
  unfold aj_rangeV
  refine aj_tn aj_d209 hz rfl rfl ?_
  refine aj_tn aj_d209 hz rfl rfl ?_
  refine aj_tiv aj_d209 rfl rfl [.int k] rfl rfl (aj_mo hl htb S) rfl (by decide) rfl (aj_seen_ok hl htb d k hk) rfl hz ?_
  refine aj_tn aj_d209 hz rfl rfl ?_
  refine aj_tc (tgt := 24) aj_d209 hz rfl rfl (fun z => ?_) (fun z => ?_)
  · have z : decide (aj_seenV S k < (Int8.ofInt 48).toInt32) = true := z
    rw [if_pos (of_decide_eq_true z)]
    refine aj_tn aj_d209 hz rfl rfl ?_
    exact aj_te aj_d209 rfl rfl
  · have z : decide (aj_seenV S k < (Int8.ofInt 48).toInt32) = false := z
    rw [if_neg (of_decide_eq_false z)]
    refine aj_tn aj_d209 hz rfl rfl ?_
    refine aj_tn aj_d209 hz rfl rfl ?_
    refine aj_tiv aj_d209 rfl rfl [.int k] rfl rfl (aj_mo hl htb S) rfl (by decide) rfl (aj_seen_ok hl htb d k hk) rfl hz ?_
    refine aj_tn aj_d209 hz rfl rfl ?_
    refine aj_tc (tgt := 24) aj_d209 hz rfl rfl (fun z => ?_) (fun z => ?_)
    · have z : decide ((Int8.ofInt 57).toInt32 < aj_seenV S k) = true := z
      rw [if_pos (of_decide_eq_true z)]
      refine aj_tn aj_d209 hz rfl rfl ?_
      exact aj_te aj_d209 rfl rfl
    · have z : decide ((Int8.ofInt 57).toInt32 < aj_seenV S k) = false := z
      rw [if_neg (of_decide_eq_false z)]
      refine aj_tn aj_d209 hz rfl rfl ?_
      refine aj_tn aj_d209 hz rfl rfl ?_
      exact aj_te aj_d209 rfl rfl
end AJLEAF3
