/-! INTERVALS OF ARITHMETIC -/
def ak_full : Int × Int := (-2147483648, 2147483647)
def ak_cl (lo hi : Int) : Int × Int := if -2147483648 ≤ lo ∧ hi ≤ 2147483647 then (lo, hi) else ak_full
def ak_win (q : Int × Int) (x : Int32) : Prop := q.1 ≤ x.toInt ∧ x.toInt ≤ q.2
theorem ak_rng (x : Int32) : -2147483648 ≤ x.toInt ∧ x.toInt ≤ 2147483647 := by
  have h1 := x.le_toInt
  have h2 := x.toInt_lt
  exact ⟨by simpa using h1, by have : x.toInt < 2147483648 := by simpa using h2
                               omega⟩
theorem ak_win_full (x : Int32) : ak_win ak_full x := ak_rng x
theorem ak_win_cl {lo hi : Int} {x : Int32} (h : -2147483648 ≤ lo → hi ≤ 2147483647 → lo ≤ x.toInt ∧ x.toInt ≤ hi) : ak_win (ak_cl lo hi) x := by
  unfold ak_cl
  split
  · rename_i q
    exact h q.1 q.2
  · exact ak_win_full x
theorem ak_bm {z : Int} (h1 : -2147483648 ≤ z) (h2 : z ≤ 2147483647) : z.bmod (2 ^ 32) = z := by
  apply Int.bmod_eq_of_le <;> omega
def ak_fadd (p q : Int × Int) : Int × Int := ak_cl (p.1 + q.1) (p.2 + q.2)
def ak_fsub (p q : Int × Int) : Int × Int := ak_cl (p.1 - q.2) (p.2 - q.1)
def ak_mn (a b : Int) : Int := if a ≤ b then a else b
def ak_mx (a b : Int) : Int := if a ≤ b then b else a
def ak_fmul (p q : Int × Int) : Int × Int := ak_cl (ak_mn (ak_mn (p.1 * q.1) (p.1 * q.2)) (ak_mn (p.2 * q.1) (p.2 * q.2))) (ak_mx (ak_mx (p.1 * q.1) (p.1 * q.2)) (ak_mx (p.2 * q.1) (p.2 * q.2)))
def ak_fand (p q : Int × Int) : Int × Int := if 0 ≤ p.1 then (if 0 ≤ q.1 then (0, ak_mn p.2 q.2) else (0, p.2)) else if 0 ≤ q.1 then (0, q.2) else ak_full
def ak_fshr (p q : Int × Int) : Int × Int := if q.1 = q.2 ∧ 0 ≤ q.1 ∧ q.1 < 32 then (p.1 / 2 ^ q.1.toNat, p.2 / 2 ^ q.1.toNat) else ak_full
def ak_fdiv (p q : Int × Int) : Int × Int := if 0 ≤ p.1 then (0, p.2) else ak_full
def ak_frem (p q : Int × Int) : Int × Int := if 0 ≤ p.1 then (0, ak_mn p.2 (q.2 - 1)) else ak_full
theorem ak_fadd_ok {p q : Int × Int} {x y : Int32} (hx : ak_win p x) (hy : ak_win q y) : ak_win (ak_fadd p q) (x + y) := by
  unfold ak_win at hx hy
  refine ak_win_cl fun h1 h2 => ?_
  rw [Int32.toInt_add, ak_bm (by omega) (by omega)]
  omega
theorem ak_fsub_ok {p q : Int × Int} {x y : Int32} (hx : ak_win p x) (hy : ak_win q y) : ak_win (ak_fsub p q) (x - y) := by
  unfold ak_win at hx hy
  refine ak_win_cl fun h1 h2 => ?_
  rw [Int32.toInt_sub, ak_bm (by omega) (by omega)]
  omega
theorem ak_mn_le (a b : Int) : ak_mn a b ≤ a ∧ ak_mn a b ≤ b := by
  unfold ak_mn
  split <;> omega
theorem ak_mx_ge (a b : Int) : a ≤ ak_mx a b ∧ b ≤ ak_mx a b := by
  unfold ak_mx
  split <;> omega
theorem ak_mul1 {a b x : Int} (y : Int) (h1 : a ≤ x) (h2 : x ≤ b) : ak_mn (a * y) (b * y) ≤ x * y ∧ x * y ≤ ak_mx (a * y) (b * y) := by
  have g1 := ak_mn_le (a * y) (b * y)
  have g2 := ak_mx_ge (a * y) (b * y)
  by_cases hy : 0 ≤ y
  · have q1 := Int.mul_le_mul_of_nonneg_right h1 hy
    have q2 := Int.mul_le_mul_of_nonneg_right h2 hy
    omega
  · have q1 := Int.mul_le_mul_of_nonpos_right h1 (show y ≤ 0 by omega)
    have q2 := Int.mul_le_mul_of_nonpos_right h2 (show y ≤ 0 by omega)
    omega
theorem ak_fmul_in {p q : Int × Int} {x y : Int32} (hx : ak_win p x) (hy : ak_win q y) : ak_mn (ak_mn (p.1 * q.1) (p.1 * q.2)) (ak_mn (p.2 * q.1) (p.2 * q.2)) ≤ x.toInt * y.toInt ∧ x.toInt * y.toInt ≤ ak_mx (ak_mx (p.1 * q.1) (p.1 * q.2)) (ak_mx (p.2 * q.1) (p.2 * q.2)) := by
  unfold ak_win at hx hy
  have a1 := ak_mul1 y.toInt hx.1 hx.2
  have a2 := ak_mul1 p.1 hy.1 hy.2
  have a3 := ak_mul1 p.2 hy.1 hy.2
  rw [Int.mul_comm q.1, Int.mul_comm q.2, Int.mul_comm y.toInt] at a2 a3
  have b1 := ak_mn_le (ak_mn (p.1 * q.1) (p.1 * q.2)) (ak_mn (p.2 * q.1) (p.2 * q.2))
  have b2 := ak_mx_ge (ak_mx (p.1 * q.1) (p.1 * q.2)) (ak_mx (p.2 * q.1) (p.2 * q.2))
  have c1 : ak_mn (p.1 * y.toInt) (p.2 * y.toInt) = p.1 * y.toInt ∨ ak_mn (p.1 * y.toInt) (p.2 * y.toInt) = p.2 * y.toInt := by
    unfold ak_mn
    split
    · exact Or.inl rfl
    · exact Or.inr rfl
  have c2 : ak_mx (p.1 * y.toInt) (p.2 * y.toInt) = p.1 * y.toInt ∨ ak_mx (p.1 * y.toInt) (p.2 * y.toInt) = p.2 * y.toInt := by
    unfold ak_mx
    split
    · exact Or.inr rfl
    · exact Or.inl rfl
  constructor
  · rcases c1 with c1 | c1 <;> rw [c1] at a1 <;> omega
  · rcases c2 with c2 | c2 <;> rw [c2] at a1 <;> omega
theorem ak_fmul_ok {p q : Int × Int} {x y : Int32} (hx : ak_win p x) (hy : ak_win q y) : ak_win (ak_fmul p q) (x * y) := by
  have k := ak_fmul_in hx hy
  refine ak_win_cl fun h1 h2 => ?_
  rw [Int32.toInt_mul, ak_bm (by omega) (by omega)]
  exact k
theorem ak_nn_of {x : Int32} (h : 0 ≤ x.toInt) : x.toInt = (x.toBitVec.toNat : Int) ∧ x.toBitVec.toNat < 2 ^ 31 := by
  have e : x.toInt = x.toBitVec.toInt := rfl
  have h0 := h
  rw [e, BitVec.toInt_eq_toNat_cond] at h0
  have e1 : x.toInt = (x.toBitVec.toNat : Int) := by
    rw [e, BitVec.toInt_eq_toNat_cond]
    by_cases hc : 2 * x.toBitVec.toNat < 2 ^ 32
    · rw [if_pos hc]
    · rw [if_neg hc] at h0; omega
  have := x.toInt_lt
  exact ⟨e1, by omega⟩
theorem ak_nat_of {x : Int32} {n : Nat} (h : x.toBitVec.toNat = n) (hn : n < 2 ^ 31) : x.toInt = (n : Int) := by
  have e : x.toInt = x.toBitVec.toInt := rfl
  rw [e, BitVec.toInt_eq_toNat_cond, h, if_pos (by omega)]
theorem ak_and_r {x y : Int32} (h : 0 ≤ y.toInt) : 0 ≤ (x &&& y).toInt ∧ (x &&& y).toInt ≤ y.toInt := by
  obtain ⟨e1, e2⟩ := ak_nn_of h
  have hl : x.toBitVec.toNat &&& y.toBitVec.toNat ≤ y.toBitVec.toNat := Nat.and_le_right
  have e3 : (x &&& y).toBitVec.toNat = x.toBitVec.toNat &&& y.toBitVec.toNat := by
    rw [Int32.toBitVec_and, BitVec.toNat_and]
  have e4 := ak_nat_of e3 (by omega)
  omega
theorem ak_fand_ok {p q : Int × Int} {x y : Int32} (hx : ak_win p x) (hy : ak_win q y) : ak_win (ak_fand p q) (x &&& y) := by
  unfold ak_win at hx hy
  unfold ak_fand
  split
  · rename_i h1
    have a := ak_and_r (x := y) (y := x) (by omega)
    rw [Int32.and_comm] at a
    split
    · have b := ak_and_r (x := x) (y := y) (by omega)
      have hm : ak_mn p.2 q.2 = p.2 ∨ ak_mn p.2 q.2 = q.2 := by
        unfold ak_mn
        split
        · exact Or.inl rfl
        · exact Or.inr rfl
      unfold ak_win
      dsimp only
      rcases hm with hm | hm <;> rw [hm] <;> omega
    · unfold ak_win
      dsimp only
      omega
  · split
    · have b := ak_and_r (x := x) (y := y) (by omega)
      unfold ak_win
      dsimp only
      omega
    · exact ak_win_full _
theorem ak_shr_ok (k : Nat) (hk : k < 32) (x y : Int32) (hy : y.toInt = (k : Int)) : (x >>> (y &&& 31)).toInt = x.toInt / 2 ^ k := by
  have e : y = Int32.ofNat k := by
    apply Int32.toInt_inj.mp
    rw [hy, toInt_of rfl (by omega)]
  subst e
  have q : ∀ k : Fin 32, (((Int32.ofNat k.val) &&& 31 : Int32).toBitVec.smod 32).toNat = k.val := by decide +kernel
  have e : (x >>> (Int32.ofNat k &&& 31)).toInt = (x.toBitVec.sshiftRight' ((Int32.ofNat k &&& 31).toBitVec.smod 32)).toInt := rfl
  rw [e, BitVec.toInt_sshiftRight', q ⟨k, hk⟩, Int.shiftRight_eq_div_pow]
  rfl
theorem ak_fshr_ok {p q : Int × Int} {x y : Int32} (hx : ak_win p x) (hy : ak_win q y) : ak_win (ak_fshr p q) (x >>> (y &&& 31)) := by
  unfold ak_fshr
  split
  · rename_i h
    unfold ak_win at hx hy ⊢
    have hk : y.toInt = (q.1.toNat : Int) := by omega
    rw [ak_shr_ok q.1.toNat (by omega) x y hk]
    have h2 : (0 : Int) ≤ 2 ^ q.1.toNat := Int.le_of_lt (Int.pow_pos (by omega))
    exact ⟨Int.ediv_le_ediv (Int.pow_pos (by omega)) hx.1, Int.ediv_le_ediv (Int.pow_pos (by omega)) hx.2⟩
  · exact ak_win_full _
theorem ak_div_nn {x y : Int32} (hx : 0 ≤ x.toInt) (hy : 1 ≤ y.toInt) : (x / y).toInt = x.toInt / y.toInt := by
  have hr := ak_rng x
  have g1 : x.toInt / y.toInt ≤ x.toInt := Int.ediv_le_self _ hx
  have g2 : 0 ≤ x.toInt / y.toInt := Int.ediv_nonneg hx (by omega)
  rw [Int32.toInt_div, Int.tdiv_eq_ediv_of_nonneg hx]
  exact ak_bm (by omega) (by omega)
theorem ak_fdiv_ok {p q : Int × Int} {x y : Int32} (hx : ak_win p x) (hy : ak_win q y) (h1 : 1 ≤ q.1) : ak_win (ak_fdiv p q) (x / y) := by
  unfold ak_fdiv
  split
  · unfold ak_win at hx hy ⊢
    dsimp only
    rw [ak_div_nn (by omega) (by omega)]
    exact ⟨Int.ediv_nonneg (by omega) (by omega), Int.le_trans (Int.ediv_le_self _ (by omega)) hx.2⟩
  · exact ak_win_full _
theorem ak_rem_nn {x y : Int32} (hx : 0 ≤ x.toInt) (hy : 1 ≤ y.toInt) : (x - x / y * y).toInt = x.toInt % y.toInt := by
  have hr := ak_rng x
  have g1 : x.toInt / y.toInt * y.toInt ≤ x.toInt := Int.ediv_mul_le _ (by omega)
  have g2 : 0 ≤ x.toInt / y.toInt * y.toInt := Int.mul_nonneg (Int.ediv_nonneg hx (by omega)) (by omega)
  have e1 : (x / y * y).toInt = x.toInt / y.toInt * y.toInt := by
    rw [Int32.toInt_mul, ak_div_nn hx hy]
    exact ak_bm (by omega) (by omega)
  rw [Int32.toInt_sub, e1, ak_bm (by omega) (by omega), Int.emod_def, Int.mul_comm y.toInt]
theorem ak_frem_ok {p q : Int × Int} {x y : Int32} (hx : ak_win p x) (hy : ak_win q y) (h1 : 1 ≤ q.1) : ak_win (ak_frem p q) (x - x / y * y) := by
  unfold ak_frem
  split
  · unfold ak_win at hx hy ⊢
    dsimp only
    rw [ak_rem_nn (by omega) (by omega)]
    have g1 := Int.emod_nonneg x.toInt (show y.toInt ≠ 0 by omega)
    have g2 := Int.emod_lt_of_pos x.toInt (show 0 < y.toInt by omega)
    have g4 : 0 ≤ y.toInt * (x.toInt / y.toInt) := Int.mul_nonneg (by omega) (Int.ediv_nonneg (by omega) (by omega))
    have g5 := Int.emod_def x.toInt y.toInt
    have g3 : x.toInt % y.toInt ≤ x.toInt := by omega
    have hm : ak_mn p.2 (q.2 - 1) = p.2 ∨ ak_mn p.2 (q.2 - 1) = q.2 - 1 := by
      unfold ak_mn
      split
      · exact Or.inl rfl
      · exact Or.inr rfl
    rcases hm with hm | hm <;> rw [hm] <;> omega
  · exact ak_win_full _
theorem ak_i2c_ok (x : Int32) : ak_win (0, 65535) (x.toUInt32 % 65536).toInt32 := by
  have e3 : (x.toUInt32 % 65536).toInt32.toBitVec.toNat = x.toUInt32.toNat % 65536 := by
    show (x.toUInt32 % 65536).toNat = _
    rw [UInt32.toNat_mod]
    rfl
  have hl : x.toUInt32.toNat % 65536 < 65536 := Nat.mod_lt _ (by decide)
  have e4 := ak_nat_of e3 (by omega)
  unfold ak_win
  dsimp only
  omega
theorem ak_i2b_ok (x : Int32) : ak_win (-128, 127) x.toInt8.toInt32 := by
  have h1 := x.toInt8.le_toInt
  have h2 := x.toInt8.toInt_lt
  have e : x.toInt8.toInt32.toInt = x.toInt8.toInt := Int8.toInt_toInt32 _
  unfold ak_win
  dsimp only
  rw [e]
  have h1 : (-128 : Int) ≤ x.toInt8.toInt := by simpa using h1
  have h2 : x.toInt8.toInt < 128 := by simpa using h2
  omega
