section AJBIT
variable {tb : aj_T} {h : aj_H} {S : aj_S}
/-- the int of a row of bits in which the bit w stands; the bit -/
def aj_wordV (a w : Int32) : Int32 := a + (w >>> (Int32.ofInt 5 &&& 31))
def aj_bitX (f : Nat → Int32) (a w : Int32) : Int32 := ((f (aj_wordV a w).toNatClampNeg).toUInt32 >>> ((w &&& (Int8.ofInt 31).toInt32).toUInt32 &&& Int32.toUInt32 31)).toInt32 &&& Int32.ofInt 1
def aj_bitV (f : Nat → Int32) (a w : Int32) : Int32 := if aj_bitX f a w = Int32.ofInt 1 then 1 else 0
theorem aj_bitV_01 (f : Nat → Int32) (a w : Int32) : aj_bitV f a w = 0 ∨ aj_bitV f a w = 1 := by
  unfold aj_bitV
  split
  · exact Or.inr rfl
  · exact Or.inl rfl
theorem aj_bit_ok (hl : 98 ≤ h.length) (htb : tb.length = 52) (d : Nat) {k n : Nat} (hk3 : k < 33) (hk0 : k ≠ 0) (hm : aj_ml[k]? = some (0, n)) (a w : Int32) (hx : aj_in (aj_wordV a w) n = true) : aj_runs aj_rc aj_cls tb aj_mt (d + 1) 227 [.ref (117 + k), .int a, .int w] (aj_mh h S) 0 0 (some (.int (aj_bitV (S.2.2.1 k) a w))) (aj_mh h S) := by
  have hz : 0 ≤ 0 ∧ 0 ≤ 0 := ⟨Nat.le_refl _, Nat.le_refl _⟩
  refine aj_leaf aj_m227_at (Nat.le_of_ble_eq_true rfl) ?_
  show aj_TF aj_rc aj_cls tb aj_m227 false true (aj_runs aj_rc aj_cls tb aj_mt d) 0 [(0, .ref (117 + k)), (1, .int a), (2, .int w)] [] _ 0 0 0 0 _ _
  unfold aj_bitV
  refine aj_tn aj_d227 hz rfl rfl ?_
  refine aj_tn aj_d227 hz rfl rfl ?_
  refine aj_tn aj_d227 hz rfl rfl ?_
  refine aj_tn aj_d227 hz rfl rfl ?_
  refine aj_tn aj_d227 hz rfl rfl ?_
  refine aj_tn aj_d227 hz rfl rfl ?_
  refine aj_mld hl htb aj_d227 hz (Or.inl ⟨rfl, rfl⟩) rfl hk3 hk0 hm hx ?_
  refine aj_tn aj_d227 hz rfl rfl ?_
  refine aj_tn aj_d227 hz rfl rfl ?_
  refine aj_tn aj_d227 hz rfl rfl ?_
  refine aj_tn aj_d227 hz rfl rfl ?_
  refine aj_tn aj_d227 hz rfl rfl ?_
  refine aj_tn aj_d227 hz rfl rfl ?_
  refine aj_tn aj_d227 hz rfl rfl ?_
  refine aj_tc (tgt := 22) aj_d227 hz rfl rfl (fun z => ?_) (fun z => ?_)
  · have z : aj_test .ne (aj_bitX (S.2.2.1 k) a w) (Int32.ofInt 1) = true := z
    have z : aj_bitX (S.2.2.1 k) a w ≠ Int32.ofInt 1 := by simpa [aj_test] using z
    rw [if_neg z]
    refine aj_tn aj_d227 hz rfl rfl ?_
    exact aj_te aj_d227 rfl rfl
  · have z : aj_test .ne (aj_bitX (S.2.2.1 k) a w) (Int32.ofInt 1) = false := z
    have z : aj_bitX (S.2.2.1 k) a w = Int32.ofInt 1 := by simpa [aj_test] using z
    rw [if_pos z]
    refine aj_tn aj_d227 hz rfl rfl ?_
    refine aj_tn aj_d227 hz rfl rfl ?_
    exact aj_te aj_d227 rfl rfl
end AJBIT
