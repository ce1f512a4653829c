section AJPACK
variable {tb : aj_T} {h : aj_H} {S : aj_S}
theorem aj_inN {b n : Nat} (h : b < n) (h2 : b < 2 ^ 31) : aj_in (nI b) n = true := by
  unfold aj_in
  rw [nI_clamp h2]
  have h3 := nI_pos h2
  simp [h3, h]
def aj_packV (f : Nat → Int32) : Nat → Nat → Int64 → Int64
  | 0, _, v => v
  | n + 1, a, v => aj_packV f n (a + 1) (v <<< ((Int8.ofInt 8).toInt32.toInt64 &&& 63) ||| (f (nI a).toNatClampNeg).toInt64)
theorem aj_pack_loop (hl : 98 ≤ h.length) (htb : tb.length = 52) {deep : Bool} {call : Nat → List Value → aj_H → Nat → Nat → Option Value → aj_H → Prop} (fr : Int32) : ∀ (n a : Nat) (v : Int64), a + n ≤ 4000 → aj_TF aj_rc aj_cls tb aj_m210 false deep call 5 [(5, .int (nI a)), (3, .long v), (0, .ref 117), (1, .int fr), (2, .int (nI (a + n)))] [] (aj_mh h S) 0 0 0 0 (some (.long (aj_packV (S.2.2.1 21) n a v))) (aj_mh h S) := by
  have hz : 0 ≤ 0 ∧ 0 ≤ 0 := ⟨Nat.le_refl _, Nat.le_refl _⟩
  intro n
  induction n with
  | zero =>
    intro a v ha
    refine aj_tn aj_d210 hz rfl rfl ?_
    refine aj_tn aj_d210 hz rfl rfl ?_
    refine aj_tc (tgt := 31) aj_d210 hz rfl rfl (fun z => ?_) (fun z => ?_)
    · refine aj_tn aj_d210 hz rfl rfl ?_
      exact aj_te aj_d210 rfl rfl
    · exfalso
      have z : decide (nI (a + 0) ≤ nI a) = false := z
      exact of_decide_eq_false z (nI_le (Nat.le_refl _) (by omega))
  | succ n ih =>
    intro a v ha
    refine aj_tn aj_d210 hz rfl rfl ?_
    refine aj_tn aj_d210 hz rfl rfl ?_
    refine aj_tc (tgt := 31) aj_d210 hz rfl rfl (fun z => ?_) (fun z => ?_)
    · exfalso
      have z : decide (nI (a + (n + 1)) ≤ nI a) = true := z
      exact nI_ge (by omega) (by omega) (of_decide_eq_true z)
    · refine aj_tn aj_d210 hz rfl rfl ?_
      refine aj_tn aj_d210 hz rfl rfl ?_
      refine aj_tn aj_d210 hz rfl rfl ?_
      refine aj_tn aj_d210 hz rfl rfl ?_
      refine aj_mg hl htb aj_d210 hz rfl rfl (by decide) rfl ?_
      refine aj_tn aj_d210 hz rfl rfl ?_
      refine aj_mld (k := 21) hl htb aj_d210 hz (Or.inr (Or.inr (Or.inr ⟨rfl, rfl⟩))) rfl (by decide) (by decide) rfl (aj_inN (by omega) (by omega)) ?_
      refine aj_tn aj_d210 hz rfl rfl ?_
      refine aj_tn aj_d210 hz rfl rfl ?_
      refine aj_tn aj_d210 hz rfl rfl ?_
      refine aj_tn aj_d210 hz rfl rfl ?_
      refine aj_tn aj_d210 hz rfl rfl ?_
      have e : nI a + Int32.ofInt 1 = nI (a + 1) := (nI_succ a).symm
      show aj_TF aj_rc aj_cls tb aj_m210 false deep call 5 [(5, .int (nI a + Int32.ofInt 1)), (3, .long _), (0, .ref 117), (1, .int fr), (2, .int (nI (a + (n + 1))))] [] (aj_mh h S) 0 0 0 0 _ _
      rw [e, show a + (n + 1) = a + 1 + n by omega]
      exact ih (a + 1) _ (by omega)
theorem aj_packed_ok (hl : 98 ≤ h.length) (htb : tb.length = 52) (d : Nat) {a n : Nat} (han : a + n ≤ 4000) : aj_runs aj_rc aj_cls tb aj_mt (d + 1) 210 [.ref 117, .int (nI a), .int (nI (a + n))] (aj_mh h S) 0 0 (some (.long (aj_packV (S.2.2.1 21) n a (Int64.ofNat 0)))) (aj_mh h S) := by
  have hz : 0 ≤ 0 ∧ 0 ≤ 0 := ⟨Nat.le_refl _, Nat.le_refl _⟩
  refine aj_leaf aj_m210_at (Nat.le_of_ble_eq_true rfl) ?_
  show aj_TF aj_rc aj_cls tb aj_m210 false true (aj_runs aj_rc aj_cls tb aj_mt d) 0 [(0, .ref 117), (1, .int (nI a)), (2, .int (nI (a + n)))] [] _ 0 0 0 0 _ _
  refine aj_tn aj_d210 hz rfl rfl ?_
  refine aj_tn aj_d210 hz rfl rfl ?_
  refine aj_tn aj_d210 hz rfl rfl ?_
  refine aj_tn aj_d210 hz rfl rfl ?_
  exact aj_pack_loop hl htb _ n a _ han
end AJPACK
