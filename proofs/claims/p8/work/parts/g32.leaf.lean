/-! THE REFERENCE'S LEAF METHODS: what each answers, the heap as it was -/
section AJLEAF
variable {tb : aj_T} {h : aj_H} {S : aj_S}
theorem aj_leaf {d mi mc ms : Nat} {as : List Value} {h h' : aj_H} {r : Option Value} {mm : aj_M} (hm : aj_mt[mi]? = some mm) (hl : (lg_sl as).length ≤ mm.2.2.1) (hf : aj_TF aj_rc aj_cls tb mm (aj_isI mm) true (aj_runs aj_rc aj_cls tb aj_mt d) 0 (lv_args 0 as) [] h 0 0 mc ms r h') : aj_runs aj_rc aj_cls tb aj_mt (d + 1) mi as h mc ms r h' := ⟨mm, hm, hl, hf⟩
def aj_seenV (S : aj_S) (k : Int32) : Int32 := if k < S.1 23 then S.2.2.1 21 k.toNatClampNeg else 0
theorem aj_seen_ok (hl : 98 ≤ h.length) (htb : tb.length = 52) (d : Nat) (k : Int32) (hk : k < S.1 23 → aj_in k 4000 = true) : aj_runs aj_rc aj_cls tb aj_mt (d + 1) 207 [.ref 117, .int k] (aj_mh h S) 0 0 (some (.int (aj_seenV S k))) (aj_mh h S) := by
  have hz : 0 ≤ 0 ∧ 0 ≤ 0 := ⟨Nat.le_refl _, Nat.le_refl _⟩
  refine aj_leaf aj_m207_at (Nat.le_of_ble_eq_true rfl) ?_
  show aj_TF aj_rc aj_cls tb aj_m207 false true (aj_runs aj_rc aj_cls tb aj_mt d) 0 [(0, .ref 117), (1, .int k)] [] _ 0 0 0 0 _ _
  refine aj_tn aj_d207 hz rfl rfl ?_
  refine aj_tn aj_d207 hz rfl rfl ?_
  refine aj_mg hl htb aj_d207 hz rfl rfl (by decide) rfl ?_
  refine aj_tc (tgt := 17) aj_d207 hz rfl rfl (fun z => ?_) (fun z => ?_)
  · have e : ¬ k < S.1 23 := by simpa [aj_test] using z
    refine aj_tn aj_d207 hz rfl rfl ?_
    unfold aj_seenV
    rw [if_neg e]
    exact aj_te aj_d207 rfl rfl
  · have e : k < S.1 23 := by simpa [aj_test] using z
    refine aj_tn aj_d207 hz rfl rfl ?_
    refine aj_mg hl htb aj_d207 hz rfl rfl (by decide) rfl ?_
    refine aj_tn aj_d207 hz rfl rfl ?_
    refine aj_mld (k := 21) hl htb aj_d207 hz (Or.inr (Or.inr (Or.inr ⟨rfl, rfl⟩))) rfl (by decide) (by decide) rfl (hk e) ?_
    refine aj_tn aj_d207 hz rfl rfl ?_
    unfold aj_seenV
    rw [if_pos e]
    exact aj_te aj_d207 rfl rfl
end AJLEAF
