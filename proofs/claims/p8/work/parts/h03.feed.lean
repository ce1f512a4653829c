/-! THE TAPE: alike on both sides -/
def lw_tz (p : Int32) (s : Nat) : BitVec 8 := p.toBitVec.extractLsb' s 8
def lw_cbt (p y : Int32) : Int32 := aj_nar 3 (((((p >>> (y &&& 31)) &&& ((Int16.ofInt 255).toInt32))).toUInt32 % 65536).toInt32)
def lw_rb (p y : Int32) : Int32 := aj_nar 4 (((((p).toUInt32 >>> (((((Int8.ofInt 8).toInt32) * y)).toUInt32 &&& Int32.toUInt32 31)).toInt32)).toInt8.toInt32)
section LWH3
variable {X X' X0 Y Y' : fx_X} {v w p p1 p2 p3 p4 p5 y y2 : Int32} {u : Unit} {n n' k N m s : Nat} {f g f' g' : Nat → Int32}
/-- a byte as a char, as a byte -/
theorem md_by_one {x y : Int32} (z : BitVec 8) (hx : x.toInt = (z.toNat : Int)) (hy : y.toInt = z.toInt) : x = y ∨ (y.toInt < 0 ∧ 128 ≤ x.toInt) := by
  have hz := z.isLt
  by_cases c : 2 * z.toNat < 2 ^ 8
  · left
    apply Int32.toInt_inj.mp
    rw [hx, hy, BitVec.toInt_eq_toNat_cond, if_pos c]
  · right
    rw [hx, hy, BitVec.toInt_eq_toNat_cond, if_neg c]
    omega
theorem lw_key3 : ∀ k : Fin 256, (aj_nar 3 ((Int32.ofInt (k.val : Int)).toUInt32 % 65536).toInt32).toInt = (k.val : Int) := by decide +kernel
theorem lw_key4 : ∀ k : Fin 256, (aj_nar 4 (Int8.ofBitVec (BitVec.ofNat 8 k.val)).toInt32).toInt = (BitVec.ofNat 8 k.val).toInt := by decide +kernel
theorem lw_key255 : ∀ i : Fin 32, fx_ib (Int16.ofInt 255).toInt32 i.val = decide (i.val < 8) := by decide
theorem lw_ib_ofNat {k : Nat} (hk : k < 256) {i : Nat} (hi : i < 32) : fx_ib (Int32.ofInt (k : Int)) i = (BitVec.ofNat 8 k).getLsbD i := by
  have key : ∀ (k : Fin 256) (i : Fin 32), fx_ib (Int32.ofInt (k.val : Int)) i.val = (BitVec.ofNat 8 k.val).getLsbD i.val := by decide +kernel
  exact key ⟨k, hk⟩ ⟨i, hi⟩
theorem lw_tz_of : BitVec.ofNat 8 (lw_tz p s).toNat = lw_tz p s := by
  apply BitVec.eq_of_toNat_eq
  rw [BitVec.toNat_ofNat]
  exact Nat.mod_eq_of_lt (lw_tz p s).isLt
theorem lw_cbt_v (hy : y.toInt = (s : Int)) (h24 : s ≤ 24) : (lw_cbt p y).toInt = ((lw_tz p s).toNat : Int) := by
  have hz := (lw_tz p s).isLt
  have e : ((p >>> (y &&& 31)) &&& ((Int16.ofInt 255).toInt32)) = Int32.ofInt ((lw_tz p s).toNat : Int) := by
    apply fx_ib_ext
    intro i hi
    rw [lw_ib_ofNat hz hi, lw_tz_of, fx_ib_and, lw_key255 ⟨i, hi⟩]
    show _ = (p.toBitVec.extractLsb' s 8).getLsbD i
    rw [BitVec.getLsbD_extractLsb']
    by_cases c : i < 8
    · rw [fx_ib_shr (fx_sv hy (by omega)) (by omega) (by omega), decide_eq_true c, Bool.and_true, Bool.true_and, Nat.add_comm i s]
      rfl
    · rw [decide_eq_false c, Bool.and_false, Bool.false_and]
  unfold lw_cbt
  rw [e]
  exact lw_key3 ⟨_, hz⟩
theorem lw_rb_w (hs : s = 24 ∨ s = 16 ∨ s = 8 ∨ s = 0) (hy : ((Int8.ofInt 8).toInt32 * y) = Int32.ofInt (s : Int)) : ((p.toUInt32 >>> (((Int8.ofInt 8).toInt32 * y).toUInt32 &&& Int32.toUInt32 31)).toInt32).toInt8 = Int8.ofBitVec (lw_tz p s) := by
  rw [hy]
  have e : ((p.toUInt32 >>> ((Int32.ofInt (s : Int)).toUInt32 &&& Int32.toUInt32 31)).toInt32).toBitVec = p.toBitVec >>> s := by
    show (p.toUInt32 >>> ((Int32.ofInt (s : Int)).toUInt32 &&& Int32.toUInt32 31)).toBitVec = _
    rw [UInt32.toBitVec_shiftRight]
    rcases hs with rfl | rfl | rfl | rfl <;> rfl
  apply Int8.toBitVec_inj.mp
  apply BitVec.eq_of_getLsbD_eq
  intro i hi
  show (((p.toUInt32 >>> ((Int32.ofInt (s : Int)).toUInt32 &&& Int32.toUInt32 31)).toInt32).toBitVec.signExtend 8).getLsbD i = (p.toBitVec.extractLsb' s 8).getLsbD i
  rw [e, BitVec.getLsbD_signExtend, BitVec.getLsbD_extractLsb', if_pos (show i < 32 by omega), BitVec.getLsbD_ushiftRight]
theorem lw_rb_v (hs : s = 24 ∨ s = 16 ∨ s = 8 ∨ s = 0) (hy : ((Int8.ofInt 8).toInt32 * y) = Int32.ofInt (s : Int)) : (lw_rb p y).toInt = (lw_tz p s).toInt := by
  unfold lw_rb
  rw [lw_rb_w hs hy]
  have := lw_key4 ⟨_, (lw_tz p s).isLt⟩
  rw [show BitVec.ofNat 8 (⟨(lw_tz p s).toNat, (lw_tz p s).isLt⟩ : Fin 256).val = lw_tz p s from lw_tz_of] at this
  exact this
/-- one byte put, of the class -/
theorem cx_17s (hN : (X.1 52 1).toInt = (N : Int)) (h4 : N < 4000) (hy : 0 ≤ y2.toInt) (g : gxF_17 p n 3 [y2] [] [] X u X') : ∃ (n' : Nat) (X1 : fx_X), (X1.1 52 1).toInt = ((N + 1 : Nat) : Int) ∧ X1.1 53 N = lw_cbt p y2 ∧ (∀ i, i ≠ N → X1.1 53 i = X.1 53 i) ∧ gxF_17 p n' 3 [y2 + Int32.ofInt (-8)] [] [] X1 u X' := by
  cases n with
  | zero => exact g.elim
  | succ n =>
    replace g := gxO_17_3 g
    unfold gxT_17_3 at g
    rw [if_neg (by omega), if_pos (by omega), fx_in hN] at g
    obtain ⟨-, X10, e10, X11, e11, x12, e12, g⟩ := g
    refine ⟨n, X11, ?_, ?_, fun i hi => ?_, by rw [← e12]; exact g⟩
    · rw [e11, fx_rIe, e10, fx_rIn (by decide)]
      exact cx_in1 hN (by omega)
    · rw [e11, fx_rIn (by decide), e10, fx_rIe]
      rfl
    · rw [e11, fx_rIn (by decide), e10, fx_rI, if_neg (fun z => hi z.2)]
theorem cx_17 (hN : (X.1 52 1).toInt = (N : Int)) (h4 : N + 4 ≤ 4000) (g : gx_17 p X u X') : (X'.1 52 1).toInt = ((N + 4 : Nat) : Int) ∧ (∀ i, i < N → X'.1 53 i = X.1 53 i) ∧ ∀ j, j < 4 → (X'.1 53 (N + j)).toInt = ((lw_tz p (24 - 8 * j)).toNat : Int) := by
  obtain ⟨n, g⟩ := g
  obtain ⟨n1, X1, a1, a2, a3, g⟩ := cx_17s hN (by omega) (by decide) g
  rw [show (Int8.ofInt 24).toInt32 + Int32.ofInt (-8) = Int32.ofInt 16 by decide] at g
  obtain ⟨n2, X2, b1, b2, b3, g⟩ := cx_17s a1 (by omega) (by decide) g
  rw [show Int32.ofInt 16 + Int32.ofInt (-8) = Int32.ofInt 8 by decide] at g
  obtain ⟨n3, X3, c1, c2, c3, g⟩ := cx_17s b1 (by omega) (by decide) g
  rw [show Int32.ofInt 8 + Int32.ofInt (-8) = Int32.ofInt 0 by decide] at g
  obtain ⟨n4, X4, d1, d2, d3, g⟩ := cx_17s c1 (by omega) (by decide) g
  rw [show Int32.ofInt 0 + Int32.ofInt (-8) = Int32.ofInt (-8) by decide] at g
  cases n4 with
  | zero => exact g.elim
  | succ n4 =>
    replace g := gxO_17_3 g
    unfold gxT_17_3 at g
    rw [if_pos (by decide)] at g
    have g : X' = X4 := g
    subst g
    refine ⟨d1, fun i hi => by rw [d3 i (by omega), c3 i (by omega), b3 i (by omega), a3 i (by omega)], fun j hj => ?_⟩
    have hj : j = 0 ∨ j = 1 ∨ j = 2 ∨ j = 3 := by omega
    rcases hj with rfl | rfl | rfl | rfl
    · rw [Nat.add_zero, d3 N (by omega), c3 N (by omega), b3 N (by omega), a2]
      exact lw_cbt_v (s := 24) (by decide) (by decide)
    · rw [d3 (N + 1) (by omega), c3 (N + 1) (by omega), b2]
      exact lw_cbt_v (s := 16) (by decide) (by decide)
    · rw [show N + 2 = N + 1 + 1 by omega, d3 _ (by omega), c2]
      exact lw_cbt_v (s := 8) (by decide) (by decide)
    · rw [show N + 3 = N + 1 + 1 + 1 by omega, d2]
      exact lw_cbt_v (s := 0) (by decide) (by decide)
/-- one byte put, of the reference -/
theorem rx_201s (hN : (X.1 117 23).toInt = (N : Int)) (h4 : N < 4000) (hy : 0 ≤ y2.toInt) (g : gxF_201 p n 2 [y2] [] [] X u X') : ∃ (n' : Nat) (X1 : fx_X), (X1.1 117 23).toInt = ((N + 1 : Nat) : Int) ∧ X1.1 138 N = lw_rb p y2 ∧ (∀ i, i ≠ N → X1.1 138 i = X.1 138 i) ∧ gxF_201 p n' 2 [y2 + Int32.ofInt (-1)] [] [] X1 u X' := by
  cases n with
  | zero => exact g.elim
  | succ n =>
    replace g := gxO_201_2 g
    unfold gxT_201_2 at g
    rw [if_neg (by omega), fx_in hN] at g
    obtain ⟨-, X10, e10, X11, e11, x12, e12, g⟩ := g
    refine ⟨n, X11, ?_, ?_, fun i hi => ?_, by rw [← e12]; exact g⟩
    · rw [e11, fx_rIe, e10, fx_rIn (by decide)]
      exact cx_in1 hN (by omega)
    · rw [e11, fx_rIn (by decide), e10, fx_rIe]
      rfl
    · rw [e11, fx_rIn (by decide), e10, fx_rI, if_neg (fun z => hi z.2)]
theorem rx_201 (hN : (X.1 117 23).toInt = (N : Int)) (h4 : N + 4 ≤ 4000) (g : gx_201 p X u X') : (X'.1 117 23).toInt = ((N + 4 : Nat) : Int) ∧ (∀ i, i < N → X'.1 138 i = X.1 138 i) ∧ ∀ j, j < 4 → (X'.1 138 (N + j)).toInt = (lw_tz p (24 - 8 * j)).toInt := by
  obtain ⟨n, g⟩ := g
  obtain ⟨n1, X1, a1, a2, a3, g⟩ := rx_201s hN (by omega) (by decide) g
  rw [show Int32.ofInt 3 + Int32.ofInt (-1) = Int32.ofInt 2 by decide] at g
  obtain ⟨n2, X2, b1, b2, b3, g⟩ := rx_201s a1 (by omega) (by decide) g
  rw [show Int32.ofInt 2 + Int32.ofInt (-1) = Int32.ofInt 1 by decide] at g
  obtain ⟨n3, X3, c1, c2, c3, g⟩ := rx_201s b1 (by omega) (by decide) g
  rw [show Int32.ofInt 1 + Int32.ofInt (-1) = Int32.ofInt 0 by decide] at g
  obtain ⟨n4, X4, d1, d2, d3, g⟩ := rx_201s c1 (by omega) (by decide) g
  rw [show Int32.ofInt 0 + Int32.ofInt (-1) = Int32.ofInt (-1) by decide] at g
  cases n4 with
  | zero => exact g.elim
  | succ n4 =>
    replace g := gxO_201_2 g
    unfold gxT_201_2 at g
    rw [if_pos (by decide)] at g
    have g : X' = X4 := g
    subst g
    refine ⟨d1, fun i hi => by rw [d3 i (by omega), c3 i (by omega), b3 i (by omega), a3 i (by omega)], fun j hj => ?_⟩
    have hj : j = 0 ∨ j = 1 ∨ j = 2 ∨ j = 3 := by omega
    rcases hj with rfl | rfl | rfl | rfl
    · rw [Nat.add_zero, d3 N (by omega), c3 N (by omega), b3 N (by omega), a2]
      exact lw_rb_v (s := 24) (by decide) (by decide)
    · rw [d3 (N + 1) (by omega), c3 (N + 1) (by omega), b2]
      exact lw_rb_v (s := 16) (by decide) (by decide)
    · rw [show N + 2 = N + 1 + 1 by omega, d3 _ (by omega), c2]
      exact lw_rb_v (s := 8) (by decide) (by decide)
    · rw [show N + 3 = N + 1 + 1 + 1 by omega, d2]
      exact lw_rb_v (s := 0) (by decide) (by decide)
/-- four bytes more, alike -/
theorem md_by_4 (h0 : md_by f g N) (hf : ∀ i, i < N → f' i = f i) (hg : ∀ i, i < N → g' i = g i) (hf4 : ∀ j, j < 4 → (f' (N + j)).toInt = ((lw_tz p (24 - 8 * j)).toNat : Int)) (hg4 : ∀ j, j < 4 → (g' (N + j)).toInt = (lw_tz p (24 - 8 * j)).toInt) : md_by f' g' (N + 4) := by
  intro i hi
  by_cases c : i < N
  · rw [hf i c, hg i c]
    exact h0 i c
  · obtain ⟨j, rfl⟩ : ∃ j, i = N + j := ⟨i - N, by omega⟩
    exact md_by_one _ (hf4 j (by omega)) (hg4 j (by omega))
theorem xx_feed (hN : (X.1 52 1).toInt = (N : Int)) (hN2 : (Y.1 117 23).toInt = (N : Int)) (h4 : N ≤ 4000) (hb : md_by (X.1 53) (Y.1 138) N) (g : gx_16 p1 p2 p3 p4 p5 X v X') (g2 : gx_200 p1 p2 p3 p4 p5 Y w Y') : ∃ N' : Nat, (X'.1 52 1).toInt = (N' : Int) ∧ (Y'.1 117 23).toInt = (N' : Int) ∧ md_by (X'.1 53) (Y'.1 138) N' := by
  have e20 : (Y.1 117 23 + (Int8.ofInt 20).toInt32).toInt = (N : Int) + 20 := by
    have e : ((Int8.ofInt 20).toInt32).toInt = 20 := rfl
    rw [fx_add (by omega) (by omega), hN2, e]
  rcases fy_ifd g with ⟨c, g⟩ | ⟨c, g⟩
  · unfold gx_200 at g2
    rw [if_pos (by rw [e20]; omega)] at g2
    rw [g.2, g2.2]
    exact ⟨N, hN, hN2, hb⟩
  · unfold gx_200 at g2
    rw [if_neg (by rw [e20]; omega)] at g2
    obtain ⟨u1, X1, r1, u2, X2, r2, u3, X3, r3, u4, X4, r4, u5, X5, r5, -, e⟩ := g
    obtain ⟨t1, Y1, s1, t2, Y2, s2, t3, Y3, s3, t4, Y4, s4, t5, Y5, s5, -, e'⟩ := g2
    obtain ⟨a1, a2, a3⟩ := cx_17 hN (by omega) r1
    obtain ⟨b1, b2, b3⟩ := cx_17 a1 (by omega) r2
    obtain ⟨c1, c2, c3⟩ := cx_17 b1 (by omega) r3
    obtain ⟨d1, d2, d3⟩ := cx_17 c1 (by omega) r4
    obtain ⟨e1, e2, e3⟩ := cx_17 d1 (by omega) r5
    obtain ⟨f1, f2, f3⟩ := rx_201 hN2 (by omega) s1
    obtain ⟨h1, h2, h3⟩ := rx_201 f1 (by omega) s2
    obtain ⟨i1, i2, i3⟩ := rx_201 h1 (by omega) s3
    obtain ⟨j1, j2, j3⟩ := rx_201 i1 (by omega) s4
    obtain ⟨k1, k2, k3⟩ := rx_201 j1 (by omega) s5
    rw [e, e']
    exact ⟨_, e1, k1, md_by_4 (md_by_4 (md_by_4 (md_by_4 (md_by_4 hb a2 f2 a3 f3) b2 h2 b3 h3) c2 i2 c3 i3) d2 j2 d3 j3) e2 k2 e3 k3⟩
theorem md_by_le (h : md_by f g N) (hn : n ≤ N) : md_by f g n := fun i hi => h i (by omega)
theorem xx_back (hN : (X.1 52 1).toInt = (N : Int)) (hN2 : (Y.1 117 23).toInt = (N : Int)) (h4 : N ≤ 4000) (hb : md_by (X.1 53) (Y.1 138) N) (g : gx_18 p1 X v X') (g2 : gx_202 p1 Y w Y') : ∃ N' : Nat, (X'.1 52 1).toInt = (N' : Int) ∧ (Y'.1 117 23).toInt = (N' : Int) ∧ md_by (X'.1 53) (Y'.1 138) N' := by
  rcases fy_ifd g with ⟨c, g⟩ | ⟨c, g⟩
  · unfold gx_202 at g2
    rw [if_pos c] at g2
    rw [g.2, g2.2]
    exact ⟨N, hN, hN2, hb⟩
  · unfold gx_202 at g2
    rw [if_neg c] at g2
    rcases fy_ifd g with ⟨c2, g⟩ | ⟨c2, g⟩
    · rw [if_pos (by omega)] at g2
      rw [g.2, g2.2]
      exact ⟨N, hN, hN2, hb⟩
    · rw [if_neg (by omega)] at g2
      obtain ⟨X4, e4, -, e⟩ := g
      obtain ⟨Y4, f4, -, e'⟩ := g2
      rw [e, e', e4, f4]
      have hp : p1.toInt = ((p1.toInt.toNat : Nat) : Int) := by omega
      refine ⟨N - p1.toInt.toNat, ?_, ?_, ?_⟩
      · rw [fx_rIe, fx_sub (by omega) (by omega), hN]; omega
      · rw [fx_rIe, fx_sub (by omega) (by omega), hN2]; omega
      · rw [fx_rIn (by decide), fx_rIn (by decide)]
        exact md_by_le hb (by omega)
end LWH3
