section AJTELL
variable {tb : aj_T} {h : aj_H} {S : aj_S}
def aj_tellT (S : aj_S) (n p : Int32) : aj_S := (aj_u (aj_u S.1 24 n) 25 p, S.2)
def aj_tellS (S : aj_S) (n p : Int32) : aj_S := if S.1 32 = 0 then (if S.1 24 = 0 then aj_tellT S n p else if S.1 25 < p then S else if p = S.1 25 then (if n < S.1 24 then aj_tellT S n p else S) else aj_tellT S n p) else S
theorem aj_tell_ok (hl : 98 ≤ h.length) (htb : tb.length = 52) (d : Nat) (n p : Int32) : aj_runs aj_rc aj_cls tb aj_mt (d + 1) 218 [.ref 117, .int n, .int p] (aj_mh h S) 0 0 none (aj_mh h (aj_tellS S n p)) := by
  have hz : 0 ≤ 0 ∧ 0 ≤ 0 := ⟨Nat.le_refl _, Nat.le_refl _⟩
  refine aj_leaf aj_m218_at (Nat.le_of_ble_eq_true rfl) ?_
  show aj_TF aj_rc aj_cls tb aj_m218 false true (aj_runs aj_rc aj_cls tb aj_mt d) 0 [(0, .ref 117), (1, .int n), (2, .int p)] [] _ 0 0 0 0 _ _
  have h1 : aj_TF aj_rc aj_cls tb aj_m218 false true (aj_runs aj_rc aj_cls tb aj_mt d) 38 [(0, .ref 117), (1, .int n), (2, .int p)] [] (aj_mh h S) 0 0 0 0 none (aj_mh h S) := aj_te aj_d218 rfl rfl
  have h2 : aj_TF aj_rc aj_cls tb aj_m218 false true (aj_runs aj_rc aj_cls tb aj_mt d) 39 [(0, .ref 117), (1, .int n), (2, .int p)] [] (aj_mh h S) 0 0 0 0 none (aj_mh h (aj_tellT S n p)) := by
    refine aj_tn aj_d218 hz rfl rfl ?_
    refine aj_tn aj_d218 hz rfl rfl ?_
    refine aj_mp (k := 24) hl htb aj_d218 hz rfl rfl (by decide) (q := ("DimShelfModel", aj_T11, 72, aj_F11)) rfl rfl ?_
    refine aj_tn aj_d218 hz rfl rfl ?_
    refine aj_tn aj_d218 hz rfl rfl ?_
    refine aj_mp (k := 25) hl htb aj_d218 hz rfl rfl (by decide) (q := ("DimShelfModel", aj_T11, 72, aj_F11)) rfl rfl ?_
    exact aj_te aj_d218 rfl rfl
  unfold aj_tellS
  refine aj_tn aj_d218 hz rfl rfl ?_
  refine aj_mg hl htb aj_d218 hz rfl rfl (by decide) rfl ?_
  refine aj_tz (tgt := 38) aj_d218 hz rfl rfl (fun z => ?_) (fun z => ?_)
  · have z : S.1 32 ≠ 0 := by simpa [aj_test] using z
    rw [if_neg z]
    exact h1
  · have z : S.1 32 = 0 := by simpa [aj_test] using z
    rw [if_pos z]
    refine aj_tn aj_d218 hz rfl rfl ?_
    refine aj_mg hl htb aj_d218 hz rfl rfl (by decide) rfl ?_
    refine aj_tz (tgt := 39) aj_d218 hz rfl rfl (fun z => ?_) (fun z => ?_)
    · have z : S.1 24 = 0 := by simpa [aj_test] using z
      rw [if_pos z]
      exact h2
    · have z : S.1 24 ≠ 0 := by simpa [aj_test] using z
      rw [if_neg z]
      refine aj_tn aj_d218 hz rfl rfl ?_
      refine aj_tn aj_d218 hz rfl rfl ?_
      refine aj_mg hl htb aj_d218 hz rfl rfl (by decide) rfl ?_
      refine aj_tc (tgt := 38) aj_d218 hz rfl rfl (fun z => ?_) (fun z => ?_)
      · have z : decide (S.1 25 < p) = true := z
        rw [if_pos (of_decide_eq_true z)]
        exact h1
      · have z : decide (S.1 25 < p) = false := z
        rw [if_neg (of_decide_eq_false z)]
        refine aj_tn aj_d218 hz rfl rfl ?_
        refine aj_tn aj_d218 hz rfl rfl ?_
        refine aj_mg hl htb aj_d218 hz rfl rfl (by decide) rfl ?_
        refine aj_tc (tgt := 39) aj_d218 hz rfl rfl (fun z => ?_) (fun z => ?_)
        · have z : p ≠ S.1 25 := by simpa [aj_test] using z
          rw [if_neg z]
          exact h2
        · have z : p = S.1 25 := by simpa [aj_test] using z
          rw [if_pos z]
          refine aj_tn aj_d218 hz rfl rfl ?_
          refine aj_tn aj_d218 hz rfl rfl ?_
          refine aj_mg hl htb aj_d218 hz rfl rfl (by decide) rfl ?_
          refine aj_tc (tgt := 39) aj_d218 hz rfl rfl (fun z => ?_) (fun z => ?_)
          · have z : decide (n < S.1 24) = true := z
            rw [if_pos (of_decide_eq_true z)]
            exact h2
          · have z : decide (n < S.1 24) = false := z
            rw [if_neg (of_decide_eq_false z)]
            exact h1
end AJTELL
