/-! THE REFERENCE: bits of rows, values in a WORLD -/
def fx_bt (f : Nat → Int32) (a w : Nat) : Bool := fx_ib (f (a + w / 32)) (w % 32)
/-- worlds of the whole text to one of those told so far -/
def md_m (P : md_P) (U : md_U) : Nat := rp_W P / md_all U
def rx_V (P : md_P) (X : fx_X) (U : md_U) : Prop := rp_b P = true → rp_W P = md_all U * md_m P U ∧ (rp_W P ≤ 1024 ∧ 1 ≤ rp_W P) ∧ U.length ≤ rp_n P ∧ ∀ w u, w < rp_W P → u < U.length → X.1 123 ((8 * rp_h P + u) * 1024 + w / md_m P U) = rp_v P w u
/-- truths not used yet, the latest first -/
def rx_C (P : md_P) (X : fx_X) (m : Nat) : List (Nat → Bool) → Prop
  | [] => True
  | x :: tr => (∀ w, w < rp_W P → fx_bt (X.1 137) (32 * tr.length) (w / m) = x w) ∧ rx_C P X m tr
section DD4
variable {P : md_P} {X X' X1 : fx_X} {v w p p1 p2 p3 : Int32} {u : Unit} {r r' a b k m i : Nat} {U : md_U} {F L : List (Nat × Nat)} {A : List Nat} {x y : Int32}
theorem fx_shr5 (h : p2.toInt = (b : Int)) : (p2 >>> ((Int32.ofInt 5) &&& 31)).toInt = ((b / 32 : Nat) : Int) := by
  have hs := fx_sv (y := Int32.ofInt 5) (k := 5) rfl (by decide)
  show (p2.toBitVec.sshiftRight' (((Int32.ofInt 5) &&& 31).toBitVec.smod 32)).toInt = _
  rw [hs, BitVec.sshiftRight_eq', BitVec.toInt_sshiftRight]
  show p2.toInt >>> 5 = _
  rw [h, Int.shiftRight_eq_div_pow]
  omega
theorem fx_m31 (h : p2.toInt = (b : Int)) : (p2 &&& ((Int8.ofInt 31).toInt32)) = Int32.ofInt ((b % 32 : Nat) : Int) := by
  have e : p2.toBitVec.toNat = b := by
    have h1 : p2.toBitVec.toInt = (b : Int) := h
    have h2 := BitVec.toInt_eq_toNat_cond (x := p2.toBitVec)
    have h3 := p2.toBitVec.isLt
    rw [h1] at h2
    split at h2 <;> omega
  apply Int32.toBitVec_inj.mp
  apply BitVec.eq_of_toNat_eq
  rw [Int32.toBitVec_and, BitVec.toNat_and, e]
  show b &&& 31 = _
  rw [show (31 : Nat) = 2 ^ 5 - 1 from rfl, Nat.and_two_pow_sub_one_eq_mod]
  have q : ∀ k : Fin 32, (Int32.ofInt ((k.val : Nat) : Int)).toBitVec.toNat = k.val := by decide +kernel
  exact (q ⟨b % 32, by omega⟩).symm
theorem fx_word (h1 : p1.toInt = (a : Int)) (h2 : p2.toInt = (b : Int)) (ha : a ≤ 1000000) (hb : b ≤ 1000000) : (p1 + (p2 >>> ((Int32.ofInt 5) &&& 31))).toInt = ((a + b / 32 : Nat) : Int) := by
  have h5 := fx_shr5 h2
  rw [fx_add (by omega) (by omega), h1, h5]
  omega
theorem fx_ub (h2 : p2.toInt = (b : Int)) : (((x.toUInt32 >>> (((p2 &&& ((Int8.ofInt 31).toInt32))).toUInt32 &&& Int32.toUInt32 31)).toInt32) &&& (Int32.ofInt 1)).toInt = 1 ↔ fx_ib x (b % 32) = true := by
  rw [fx_m31 h2]
  have q : ∀ k : Fin 32, (((Int32.ofInt ((k.val : Nat) : Int)).toUInt32 &&& Int32.toUInt32 31).toBitVec.umod 32).toNat = k.val := by decide +kernel
  have q1 : (((Int32.ofInt ((b % 32 : Nat) : Int)).toUInt32 &&& Int32.toUInt32 31).toBitVec.umod 32).toNat = b % 32 := q ⟨b % 32, by omega⟩
  have e : ((x.toUInt32 >>> ((Int32.ofInt ((b % 32 : Nat) : Int)).toUInt32 &&& Int32.toUInt32 31)).toInt32 &&& Int32.ofInt 1).toBitVec = (x.toBitVec >>> (b % 32)) &&& 1#32 := by
    have z : ((x.toUInt32 >>> ((Int32.ofInt ((b % 32 : Nat) : Int)).toUInt32 &&& Int32.toUInt32 31)).toInt32 &&& Int32.ofInt 1).toBitVec = (x.toBitVec >>> (((Int32.ofInt ((b % 32 : Nat) : Int)).toUInt32 &&& Int32.toUInt32 31).toBitVec.umod 32).toNat) &&& 1#32 := rfl
    rw [z, q1]
  have e2 : (x.toBitVec >>> (b % 32)) &&& 1#32 = if x.toBitVec.getLsbD (b % 32) = true then 1#32 else 0#32 := by
    rw [BitVec.and_one_eq_setWidth_ofBool_getLsbD, BitVec.getLsbD_ushiftRight, Nat.add_zero]
    cases x.toBitVec.getLsbD (b % 32) <;> rfl
  unfold fx_ib
  by_cases c : x.toBitVec.getLsbD (b % 32) = true
  · rw [if_pos c] at e2
    rw [Int32.toBitVec_inj.mp ((e.trans e2).trans (show 1#32 = (Int32.ofInt 1).toBitVec from rfl))]
    exact ⟨fun _ => c, fun _ => rfl⟩
  · rw [if_neg c] at e2
    rw [Int32.toBitVec_inj.mp ((e.trans e2).trans (show 0#32 = (Int32.ofInt 0).toBitVec from rfl))]
    exact ⟨fun z => absurd z (by decide), fun z => absurd z c⟩
theorem rx_227 (h1 : p1.toInt = (a : Int)) (h2 : p2.toInt = (b : Int)) (ha : a ≤ 1000000) (hb : b ≤ 1000000) (g : gx_227 r p1 p2 X v X') : X' = X ∧ v = (if fx_bt (X.1 r) a b = true then Int32.ofInt 1 else Int32.ofInt 0) := by
  unfold gx_227 at g
  rw [fx_in (fx_word h1 h2 ha hb)] at g
  replace g := g.2
  unfold fx_bt
  rcases fy_ifd g with ⟨c, g⟩ | ⟨c, g⟩
  · rw [if_pos ((fx_ub h2).mp c)]
    exact ⟨g.2, g.1⟩
  · rw [if_neg (fun z => c ((fx_ub h2).mpr z))]
    exact ⟨g.2, g.1⟩
/-- a bit written -/
def rx_wb (r k b : Nat) (t : Bool) (X X' : fx_X) : Prop := X'.2 = X.2 ∧ (∀ q i, q ≠ r → X'.1 q i = X.1 q i) ∧ ∀ k' b', b' < 1024 → fx_bt (X'.1 r) (32 * k') b' = if k' = k ∧ b' = b then t else fx_bt (X.1 r) (32 * k') b'
theorem rx_228 (h1 : p1.toInt = ((32 * k : Nat) : Int)) (h2 : p2.toInt = (b : Int)) (hk : k ≤ 30000) (hb : b < 1024) (g : gx_228 r p1 p2 p3 X u X') : rx_wb r k b (p3.toInt != 0) X X' ∧ ∀ i, i ≠ 32 * k + b / 32 → X'.1 r i = X.1 r i := by
  obtain ⟨x2, e2, x4, e4, g⟩ := g
  have h4 : x4.toInt = ((32 * k + b / 32 : Nat) : Int) := by rw [e4]; exact fx_word h1 h2 (by omega) (by omega)
  have hone : ∀ i, i < 32 → fx_ib x2 i = decide (i = b % 32) := fun i hi => by
    rw [e2, fx_m31 h2, fx_ib_shl (fx_sv (y := Int32.ofInt ((b % 32 : Nat) : Int)) (k := b % 32) (fx_ofI (by omega) (by omega)) (by omega)) (by omega) hi, fx_ib_1]
    by_cases z : i = b % 32
    · subst z; simp
    · by_cases z2 : b % 32 ≤ i
      · have : ¬ i - b % 32 = 0 := by omega
        simp [z, this]
      · simp [z, z2]
  have key : ∀ Y : Int32, (∀ i, i < 32 → fx_ib Y i = if i = b % 32 then (p3.toInt != 0) else fx_ib (X.1 r (32 * k + b / 32)) i) → X' = fx_wI X r (32 * k + b / 32) Y → rx_wb r k b (p3.toInt != 0) X X' ∧ ∀ i, i ≠ 32 * k + b / 32 → X'.1 r i = X.1 r i := by
    intro Y hY e
    subst e
    refine ⟨⟨rfl, fun q i hq => by rw [fx_rIn hq], fun k' b' hb' => ?_⟩, fun i hi => by rw [fx_rIk hi]⟩
    unfold fx_bt
    by_cases z : 32 * k' + b' / 32 = 32 * k + b / 32
    · rw [z, fx_rIe, hY _ (by omega)]
      by_cases z2 : b' % 32 = b % 32
      · rw [if_pos z2, if_pos ⟨by omega, by omega⟩]
      · rw [if_neg z2, if_neg (fun y => z2 (by rw [y.2]))]
    · rw [fx_rIk z, if_neg (fun y => z (by rw [y.1, y.2]))]
  rw [fx_in h4] at g
  rcases fy_ifd g with ⟨c, g⟩ | ⟨c, g⟩
  · obtain ⟨-, -, X9, e9, g⟩ := g
    subst e9
    refine key _ (fun i hi => ?_) g
    rw [fx_ib_and, fx_ib_xor, hone i hi, fx_ib_m1 hi]
    by_cases z : i = b % 32
    · rw [if_pos z]; simp [z, c]
    · rw [if_neg z]; simp [z]
  · obtain ⟨-, -, X9, e9, g⟩ := g
    subst e9
    refine key _ (fun i hi => ?_) g
    rw [fx_ib_or, hone i hi]
    by_cases z : i = b % 32
    · rw [if_pos z]; simp [z, c]
    · rw [if_neg z]; simp [z]
theorem rx_242 {rl : Int} (h : rx_rl p.toInt rl) (g : gx_242 p x y X v X') : X' = X ∧ v = (if md_cmp rl x y = true then Int32.ofInt 1 else Int32.ofInt 0) := by
  unfold gx_242 at g
  rcases h with ⟨h1, h2⟩ | ⟨h1, h2⟩ | ⟨h1, h2⟩ | ⟨h1, h2⟩
  · rw [if_pos h1] at g
    subst h2
    rw [show md_cmp 61 x y = (x == y) from rfl]
    rcases fy_ifd g with ⟨c, g⟩ | ⟨c, g⟩
    · rw [if_pos (beq_iff_eq.mpr (fx_inj c))]; exact ⟨g.2, g.1⟩
    · rw [if_neg (fun z => c (by rw [beq_iff_eq.mp z]))]; exact ⟨g.2, g.1⟩
  · rw [if_neg (by omega), if_pos h1] at g
    subst h2
    rw [show md_cmp 6 x y = (x != y) from rfl]
    rcases fy_ifd g with ⟨c, g⟩ | ⟨c, g⟩
    · rw [if_neg (fun z => bne_iff_ne.mp z (fx_inj c))]; exact ⟨g.2, g.1⟩
    · rw [if_pos (bne_iff_ne.mpr (fun z => c (by rw [z])))]; exact ⟨g.2, g.1⟩
  · rw [if_neg (by omega), if_neg (by omega), if_pos h1] at g
    subst h2
    rw [show md_cmp 60 x y = decide (x.toInt < y.toInt) from rfl]
    rcases fy_ifd g with ⟨c, g⟩ | ⟨c, g⟩
    · rw [if_pos (decide_eq_true c)]; exact ⟨g.2, g.1⟩
    · rw [if_neg (fun z => c (of_decide_eq_true z))]; exact ⟨g.2, g.1⟩
  · rw [if_neg (by omega), if_neg (by omega), if_neg (by omega)] at g
    subst h2
    rw [show md_cmp 7 x y = decide (x.toInt ≤ y.toInt) from rfl]
    rcases fy_ifd g with ⟨c, g⟩ | ⟨c, g⟩
    · rw [if_neg (fun z => by have := of_decide_eq_true z; omega)]; exact ⟨g.2, g.1⟩
    · rw [if_pos (decide_eq_true (by omega))]; exact ⟨g.2, g.1⟩
theorem rx_V_fr (h : rx_V P X U) (hf : fy F L A X X') (hA : 123 ∉ A) (hF : ∀ q, q ∈ F → q.1 ≠ 123) : rx_V P X' U := by
  unfold rx_V
  rw [fy_ra hf hA hF]
  exact h
theorem rx_C_fr {tr : List (Nat → Bool)} (h : rx_C P X m tr) (e : X'.1 137 = X.1 137) : rx_C P X' m tr := by
  induction tr with
  | nil => exact True.intro
  | cons x tr ih =>
    refine ⟨?_, ih h.2⟩
    rw [e]
    exact h.1
theorem rx_C_low {tr : List (Nat → Bool)} (h : rx_C P X m tr) (e : ∀ k b, k < tr.length → b < 1024 → fx_bt (X'.1 137) (32 * k) b = fx_bt (X.1 137) (32 * k) b) (hm : ∀ w, w < rp_W P → w / m < 1024) : rx_C P X' m tr := by
  induction tr with
  | nil => exact True.intro
  | cons x tr ih =>
    refine ⟨fun w hw => ?_, ih h.2 (fun k b hk hb => e k b (by show k < tr.length + 1; omega) hb)⟩
    rw [e _ _ (by show tr.length < tr.length + 1; omega) (hm w hw)]
    exact h.1 w hw
theorem rx_V_m (h : rx_V P X U) (hb : rp_b P = true) : 1 ≤ md_m P U ∧ (∀ w, w < rp_W P → w / md_m P U < md_all U ∧ w / md_m P U < 1024) ∧ md_all U * md_m P U = rp_W P := by
  obtain ⟨h1, h2, -⟩ := h hb
  have h3 : 1 ≤ md_m P U := by
    rcases Nat.eq_zero_or_pos (md_m P U) with z | z
    · rw [z, Nat.mul_zero] at h1; omega
    · exact z
  refine ⟨h3, fun w hw => ?_, h1.symm⟩
  have h4 : w / md_m P U < md_all U := by
    rw [Nat.div_lt_iff_lt_mul h3]
    omega
  refine ⟨h4, ?_⟩
  have : w / md_m P U ≤ w := Nat.div_le_self _ _
  omega
end DD4
