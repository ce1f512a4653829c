/-! BITS READ AND WRITTEN (printed by wip/p2/ref/r18.py) -/
section ARA18
variable {tb : aj_T} {s : List Nat} {h : aj_H} {S S' S1 S2 : aj_S} {d n : Nat} {g g' : aw_gh} {F A : List Nat} {G : aj_S → Prop} {nm : Int64 → Prop} {fl : Bool} {la ho hu ht q t p : Nat}
theorem aw_m31 {w : Int32} {b : Nat} (hw : w.toInt = b) : (w &&& (Int8.ofInt 31).toInt32) = Int32.ofNat (b % 32) := by
  obtain ⟨e1, e2⟩ := ak_nn_of (x := w) (by omega)
  have e3 : w.toBitVec.toNat = b := by omega
  apply Int32.toBitVec_inj.mp
  apply BitVec.eq_of_toNat_eq
  rw [Int32.toBitVec_and, BitVec.toNat_and, e3]
  show b &&& 31 = _
  rw [show (31 : Nat) = 2 ^ 5 - 1 from rfl, Nat.and_two_pow_sub_one_eq_mod]
  have q : ∀ k : Fin 32, (Int32.ofNat k.val).toBitVec.toNat = k.val := by decide +kernel
  exact (q ⟨b % 32, by omega⟩).symm
theorem aw_oneV {w : Int32} {b : Nat} (hw : w.toInt = b) : (aj_oneV w).toBitVec = 1#32 <<< (b % 32) := by
  unfold aj_oneV
  rw [aw_m31 hw]
  have q : ∀ k : Fin 32, (Int32.ofInt 1 <<< (Int32.ofNat k.val &&& 31)).toBitVec = 1#32 <<< k.val := by decide +kernel
  exact q ⟨b % 32, by omega⟩
theorem aw_bitV1 {f : Nat → Int32} {a w : Int32} {b : Nat} (hw : w.toInt = b) : (aj_bitV f a w).toInt = 1 ↔ (f (aj_wordV a w).toNatClampNeg).toBitVec.getLsbD (b % 32) = true := by
  unfold aj_bitV aj_bitX
  rw [aw_m31 hw]
  generalize f (aj_wordV a w).toNatClampNeg = x
  have q : ∀ k : Fin 32, (((Int32.ofNat k.val).toUInt32 &&& Int32.toUInt32 31).toBitVec.umod 32).toNat = k.val := by decide +kernel
  have e : ((x.toUInt32 >>> ((Int32.ofNat (b % 32)).toUInt32 &&& Int32.toUInt32 31)).toInt32 &&& Int32.ofInt 1).toBitVec = (x.toBitVec >>> (b % 32)) &&& 1#32 := by
    have q1 := q ⟨b % 32, by omega⟩
    have q1 : (((Int32.ofNat (b % 32)).toUInt32 &&& Int32.toUInt32 31).toBitVec.umod 32).toNat = b % 32 := q1
    have z : ((x.toUInt32 >>> ((Int32.ofNat (b % 32)).toUInt32 &&& Int32.toUInt32 31)).toInt32 &&& Int32.ofInt 1).toBitVec = (x.toBitVec >>> (((Int32.ofNat (b % 32)).toUInt32 &&& Int32.toUInt32 31).toBitVec.umod 32).toNat) &&& 1#32 := rfl
    rw [z, q1]
  have e2 : (x.toBitVec >>> (b % 32)) &&& 1#32 = if x.toBitVec.getLsbD (b % 32) = true then 1#32 else 0#32 := by
    rw [BitVec.and_one_eq_setWidth_ofBool_getLsbD, BitVec.getLsbD_ushiftRight, Nat.add_zero]
    cases x.toBitVec.getLsbD (b % 32) <;> rfl
  by_cases c : x.toBitVec.getLsbD (b % 32) = true
  · rw [if_pos c] at e2
    rw [if_pos (Int32.toBitVec_inj.mp ((e.trans e2).trans (show 1#32 = (Int32.ofInt 1).toBitVec from rfl)))]
    exact ⟨fun _ => c, fun _ => rfl⟩
  · rw [if_neg c] at e2
    rw [if_neg (fun z => by rw [e2, z] at e; exact absurd e (by decide))]
    exact ⟨fun z => absurd z (by decide), fun z => absurd z c⟩
theorem aw_one_bit {k j : Nat} (hj : j < 32) : (1#32 <<< k).getLsbD j = decide (j = k) := by
  rw [BitVec.getLsbD_shiftLeft]
  by_cases c : j = k
  · subst c
    simp [hj]
  · by_cases c2 : j < k
    · simp [c, c2]
    · have : j - k ≠ 0 := by omega
      simp [c, hj, BitVec.getLsbD_one, this]
theorem aw_putX1 {f : Nat → Int32} {a w y : Int32} {b j : Nat} (hw : w.toInt = b) (hj : j < 32) : (aj_putX f a w y).toBitVec.getLsbD j = true ↔ (if j = b % 32 then y ≠ 0 else (f (aj_wordV a w).toNatClampNeg).toBitVec.getLsbD j = true) := by
  unfold aj_putX
  generalize f (aj_wordV a w).toNatClampNeg = x
  have hm : (Int32.ofInt (-1)).toBitVec.getLsbD j = true := by
    have : ∀ k : Fin 32, (Int32.ofInt (-1)).toBitVec.getLsbD k.val = true := by decide +kernel
    exact this ⟨j, hj⟩
  by_cases c : y = 0
  · rw [if_pos c, Int32.toBitVec_and, Int32.toBitVec_xor, BitVec.getLsbD_and, BitVec.getLsbD_xor, aw_oneV hw, aw_one_bit hj, hm]
    by_cases c2 : j = b % 32
    · simp [c2, c]
    · simp [c2]
  · rw [if_neg c, Int32.toBitVec_or, BitVec.getLsbD_or, aw_oneV hw, aw_one_bit hj]
    by_cases c2 : j = b % 32
    · simp [c2, c]
    · simp [c2]
theorem aw_word_nat {a w : Nat} (ha : a ≤ 100000) (hw : w ≤ 1023) : (aj_wordV (nI a) (nI w)).toNatClampNeg = a + w / 32 := by
  have e := ar_word (aw_nIi (a := a) (by omega)) (aw_nIi (a := w) (by omega)) (by omega) (by omega)
  show (aj_wordV (nI a) (nI w)).toInt.toNat = _
  omega
/-- a bit behind a write in the same row -/
theorem aw_bit_put {f : Nat → Int32} {a w u : Nat} {y : Int32} (ha : a ≤ 100000) (hw : w ≤ 1023) (hu : u ≤ 1023) : (aj_bitV (upd f (a + w / 32) (aj_putX f (nI a) (nI w) y)) (nI a) (nI u)).toInt = 1 ↔ (if u = w then y ≠ 0 else (aj_bitV f (nI a) (nI u)).toInt = 1) := by
  rw [aw_bitV1 (aw_nIi (a := u) (by omega)), aw_bitV1 (aw_nIi (a := u) (by omega)), aw_word_nat ha hu]
  unfold upd
  by_cases c : a + u / 32 = a + w / 32
  · rw [if_pos c, aw_putX1 (aw_nIi (a := w) (by omega)) (by omega), aw_word_nat ha hw, c]
    by_cases c2 : u = w
    · rw [if_pos (by omega), if_pos c2]
    · rw [if_neg (by omega), if_neg c2]
  · rw [if_neg c, if_neg (by omega)]
end ARA18
