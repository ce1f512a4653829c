/-! THE CLASS'S CHECKER: bits of a map, join, load -/
section FXB
variable {x y w sv : Int32} {n e m k : Nat}
theorem fx_shf (hs : sv.toBitVec.smod 32 = BitVec.ofNat 32 n) (hn : n < 32) (hx : x.toInt = (e : Int)) (he : e * 2 ^ n < 2147483648) : (x <<< sv).toInt = ((e * 2 ^ n : Nat) : Int) := by
  have e1 : x <<< sv = Int32.ofBitVec (x.toBitVec <<< (sv.toBitVec.smod 32)) := rfl
  rw [e1, hs]
  refine fx_ofb ?_ he
  rw [BitVec.shiftLeft_eq', BitVec.toNat_shiftLeft, fx_nat hx]
  have e2 : (BitVec.ofNat 32 n).toNat = n := by rw [BitVec.toNat_ofNat]; exact Nat.mod_eq_of_lt (by omega)
  rw [e2, Nat.shiftLeft_eq, Nat.mod_eq_of_lt (by omega)]
theorem fx_shr (hs : sv.toBitVec.smod 32 = BitVec.ofNat 32 n) (hn : n < 32) (hx : x.toInt = (m : Int)) : (x >>> sv).toInt = ((m / 2 ^ n : Nat) : Int) := by
  have e1 : (x >>> sv).toInt = (x.toBitVec.sshiftRight' (sv.toBitVec.smod 32)).toInt := rfl
  have e2 : (BitVec.ofNat 32 n).toNat = n := by rw [BitVec.toNat_ofNat]; exact Nat.mod_eq_of_lt (by omega)
  have e3 : x.toBitVec.toInt = (m : Int) := hx
  rw [e1, hs, BitVec.toInt_sshiftRight', Int.shiftRight_eq_div_pow, e2, e3]
  rfl
theorem fx_or (hx : x.toInt = (m : Int)) (hy : y.toInt = ((e * 2 ^ k : Nat) : Int)) (hm : m < 2 ^ k) (hb : m + e * 2 ^ k < 2147483648) : (x ||| y).toInt = ((m + e * 2 ^ k : Nat) : Int) := by
  have e1 : x ||| y = Int32.ofBitVec (x.toBitVec ||| y.toBitVec) := rfl
  rw [e1]
  refine fx_ofb ?_ hb
  rw [BitVec.toNat_or, fx_nat hx, fx_nat hy, Nat.or_comm, ← Nat.shiftLeft_eq, ← Nat.shiftLeft_add_eq_or_of_lt hm, Nat.shiftLeft_eq]
  omega
theorem fx_and7 (hx : x.toInt = (m : Int)) : (x &&& ((Int8.ofInt 7).toInt32)).toInt = ((m % 8 : Nat) : Int) := by
  have e1 : x &&& ((Int8.ofInt 7).toInt32) = Int32.ofBitVec (x.toBitVec &&& ((Int8.ofInt 7).toInt32).toBitVec) := rfl
  have e2 : ((Int8.ofInt 7).toInt32).toBitVec = 7#32 := by decide
  rw [e1, e2]
  refine fx_ofb ?_ (by omega)
  rw [BitVec.toNat_and, fx_nat hx]
  have e3 : (7#32).toNat = 2 ^ 3 - 1 := rfl
  rw [e3, Nat.and_two_pow_sub_one_eq_mod]
theorem fx_3k (hy : y.toInt = (k : Int)) (hk : k ≤ 6) : (((Int32.ofInt 3) * y) &&& 31).toBitVec.smod 32 = BitVec.ofNat 32 (3 * k) := by
  have e : y = Int32.ofInt (k : Int) := fx_inj (by rw [hy, fx_ofI (by omega) (by omega)])
  subst e
  have : k = 0 ∨ k = 1 ∨ k = 2 ∨ k = 3 ∨ k = 4 ∨ k = 5 ∨ k = 6 := by omega
  rcases this with rfl | rfl | rfl | rfl | rfl | rfl | rfl <;> decide
end FXB
/-- a digit of the map -/
def md_dg (a : List Int64) (n : Int64) : Nat := if md_ix n a 0 < 0 then 7 else (md_ix n a 0).toNat
theorem md_8 (k : Nat) : 2 ^ (3 * k) = 8 ^ k := by rw [Nat.pow_mul]
theorem md_map_take {a : List Int64} : ∀ {b : List Int64} {c k : Nat} {n : Int64}, b[k]? = some n → md_map a (b.take (k + 1)) c = md_map a (b.take k) c + md_dg a n * 8 ^ (c + k)
  | [], _, _, _, h => by cases h
  | x :: b, c, 0, n, h => by
    cases h
    show md_dg a x * 8 ^ c + md_map a (b.take 0) (c + 1) = 0 + md_dg a x * 8 ^ (c + 0)
    show md_dg a x * 8 ^ c + 0 = 0 + md_dg a x * 8 ^ (c + 0)
    simp
  | x :: b, c, k + 1, n, h => by
    have ih := md_map_take (a := a) (b := b) (c := c + 1) (k := k) (n := n) h
    show md_dg a x * 8 ^ c + md_map a (b.take (k + 1)) (c + 1) = md_dg a x * 8 ^ c + md_map a (b.take k) (c + 1) + md_dg a n * 8 ^ (c + (k + 1))
    rw [ih, show c + 1 + k = c + (k + 1) by omega, Nat.add_assoc]
theorem md_dg_7 {a : List Int64} {n : Int64} (ha : a.length ≤ 6) : (md_ix n a 0 < 0 ∧ md_dg a n = 7) ∨ (¬ md_ix n a 0 < 0 ∧ md_dg a n < 6 ∧ md_ix n a 0 = (md_dg a n : Int) ∧ a[md_dg a n]? = some n) := by
  unfold md_dg
  by_cases h : md_ix n a 0 < 0
  · rw [if_pos h]; exact Or.inl ⟨h, rfl⟩
  · rw [if_neg h]
    obtain ⟨i, e1, e2, -⟩ := md_ix_at h
    have := (List.getElem?_eq_some_iff.mp e2).1
    refine Or.inr ⟨h, by omega, by omega, ?_⟩
    rw [e1, Nat.zero_add]
    exact e2
theorem md_map_lt {a : List Int64} (ha : a.length ≤ 6) : ∀ {b : List Int64} (k : Nat), k ≤ b.length → md_map a (b.take k) 0 < 8 ^ k
  | b, 0, _ => by show 0 < 1; decide
  | b, k + 1, h => by
    obtain ⟨n, hn⟩ : ∃ n, b[k]? = some n := ⟨b[k]'(by omega), List.getElem?_eq_getElem (by omega)⟩
    have ih := md_map_lt ha (b := b) k (by omega)
    rw [md_map_take hn, Nat.zero_add, Nat.pow_succ]
    have h7 : md_dg a n ≤ 7 := by rcases md_dg_7 (n := n) ha with z | z <;> omega
    have : md_dg a n * 8 ^ k ≤ 7 * 8 ^ k := Nat.mul_le_mul_right _ h7
    omega
theorem md_map_dg {a : List Int64} (ha : a.length ≤ 6) {b : List Int64} {k : Nat} {n : Int64} (hn : b[k]? = some n) : md_map a b 0 / 8 ^ k % 8 = md_dg a n := by
  have hk := (List.getElem?_eq_some_iff.mp hn).1
  have h7 : md_dg a n ≤ 7 := by rcases md_dg_7 (n := n) ha with z | z <;> omega
  have key : ∀ j, k + 1 + j ≤ b.length → md_map a (b.take (k + 1 + j)) 0 / 8 ^ k % 8 = md_dg a n := by
    intro j
    induction j with
    | zero =>
      intro _
      have hl := md_map_lt ha (b := b) k (by omega)
      rw [show k + 1 + 0 = k + 1 by omega, md_map_take hn, Nat.zero_add, Nat.add_mul_div_right _ _ (Nat.pow_pos (by decide)), Nat.div_eq_of_lt hl, Nat.zero_add]
      exact Nat.mod_eq_of_lt (by omega)
    | succ j ih =>
      intro hj
      obtain ⟨n', hn'⟩ : ∃ n', b[k + 1 + j]? = some n' := ⟨b[k + 1 + j]'(by omega), List.getElem?_eq_getElem (by omega)⟩
      rw [show k + 1 + (j + 1) = k + 1 + j + 1 by omega, md_map_take hn', Nat.zero_add]
      have e : 8 ^ (k + 1 + j) = 8 * 8 ^ j * 8 ^ k := by
        rw [show k + 1 + j = 1 + j + k by omega, Nat.pow_add, Nat.pow_add]
      rw [e, ← Nat.mul_assoc, Nat.add_mul_div_right _ _ (Nat.pow_pos (by decide)), ← Nat.mul_assoc, Nat.mul_comm (md_dg a n') 8, Nat.mul_assoc 8, Nat.add_mul_mod_self_left]
      exact ih (by omega)
  have := key (b.length - (k + 1)) (by omega)
  rw [show k + 1 + (b.length - (k + 1)) = b.length by omega, List.take_length] at this
  exact this
theorem md_new_take {a b : List Int64} {k : Nat} {n : Int64} (hn : b[k]? = some n) : md_new a (b.take (k + 1)) = md_new a (b.take k) ++ (if md_ix n a 0 < 0 then [n] else []) := by
  unfold md_new
  rw [List.take_add_one, hn, List.filter_append]
  congr 1
  show List.filter _ [n] = _
  by_cases h : md_ix n a 0 < 0
  · rw [if_pos h]; simp [h]
  · rw [if_neg h]; simp [h]
theorem md_new_le {a b : List Int64} {k : Nat} : (md_new a (b.take k)).length ≤ (md_new a b).length := by
  have e : md_new a b = md_new a (b.take k) ++ md_new a (b.drop k) := by
    unfold md_new
    rw [← List.filter_append, List.take_append_drop]
  rw [e, List.length_append]
  omega
theorem md_new_le2 {a b : List Int64} : (md_new a b).length ≤ b.length := List.length_filter_le _ _
section CX17
variable {X X' X1 X2 : fx_X} {T : md_T} {v p p0 p1 p2 : Int32} {w q : Int64} {u : Unit} {sr i k d near lead : Nat} {U : md_U} {TB : md_TB} {sk : List (List Int64)} {pk cs a b : List Int64} {hz : Prop}
/-- the second loop of join -/
theorem cx_73b (ha : a.length ≤ 6) (hb : b.length ≤ 6) (h66 : a.length + (md_new a b).length ≤ 6) (hd : d + 1 < 20) (hi : i < 2500) (hp : p1.toInt = (i : Int)) {y2 y3 y5 : Int32} (h2 : y2.toInt = (d : Int)) (h3 : y3.toInt = ((d + 1 : Nat) : Int)) (h5 : y5.toInt = (md_map a b 0 : Int)) : ∀ (n k : Nat) (y6 : Int32) (X : fx_X), y6.toInt = (k : Int) → k ≤ b.length → cx_l1 X d (a ++ md_new a (b.take k)) → cx_l1 X (d + 1) b → gxF_73 p1 n 109 [y2, y3, y5, y6] [] [] X u X' → cx_l1 X' d (a ++ md_new a b) ∧ cx_lo X X' d ∧ X'.1 86 i = y5 ∧ (∀ j, j ≠ i → X'.1 86 j = X.1 86 j) ∧ X'.1 82 5 = X.1 82 5 ∧ X'.1 91 5 = X.1 91 5 := by
  intro n
  induction n with
  | zero => intro k y6 X _ _ _ _ g; exact g.elim
  | succ n ih =>
    intro k y6 X hk hkl hl hr g
    replace g := gxO_73_109 g
    obtain ⟨w47, X46, r1, g⟩ := g
    obtain ⟨rfl, e1⟩ := cx_69 hr hd h3 r1
    by_cases z : k < b.length
    · rw [if_pos (by omega)] at g
      obtain ⟨n', hn'⟩ : ∃ n', b[k]? = some n' := ⟨b[k], List.getElem?_eq_getElem z⟩
      have hdg : ((y5 >>> (((Int32.ofInt 3) * y6) &&& 31)) &&& ((Int8.ofInt 7).toInt32)).toInt = (md_dg a n' : Int) := by
        rw [fx_and7 (fx_shr (fx_3k hk (by omega)) (by omega) h5), md_8, md_map_dg ha hn']
      rw [hdg] at g
      rcases md_dg_7 (n := n') ha with ⟨q1, q2⟩ | ⟨q1, q2, -⟩
      · rw [if_pos (by omega)] at g
        obtain ⟨w56, X55, r2, w58, X57, r3, x59, rfl, g⟩ := g
        obtain ⟨rfl, rfl⟩ := cx_70 hr hd hb h3 hk hn' r2
        have hlt : (a ++ md_new a (b.take k)).length < 6 := by
          rw [List.length_append]
          have e2 := md_new_take (a := a) hn'
          rw [if_pos q1] at e2
          have e3 := md_new_le (a := a) (b := b) (k := k + 1)
          rw [e2, List.length_append] at e3
          have : ([w56] : List Int64).length = 1 := rfl
          omega
        obtain ⟨m1, m2⟩ := cx_67 hl (by omega) hlt h2 r3
        have hf := gf_67 r3
        obtain ⟨t1, t2, t3, t4, t5, t6⟩ := ih (k + 1) _ X57 (cx_inc hk (by omega)) (by omega) (by rw [md_new_take hn', if_pos q1, ← List.append_assoc]; exact m1) (cx_l1_lo m2 (by omega) hb hr) g
        exact ⟨t1, cx_lo_tr m2 t2, t3, fun j hj => by rw [t4 j hj, fy_ra hf (by decide) (by decide)], by rw [t5, hf.2.2 82 5 (by decide) (by decide)], by rw [t6, hf.2.2 91 5 (by decide) (by decide)]⟩
      · rw [if_neg (by omega)] at g
        obtain ⟨x53, rfl, g⟩ := g
        exact ih (k + 1) _ X (cx_inc hk (by omega)) (by omega) (by rw [md_new_take hn', if_neg q1, List.append_nil]; exact hl) hr g
    · rw [if_neg (by omega)] at g
      have e : k = b.length := by omega
      rw [e, List.take_length] at hl
      obtain ⟨w51, X50, r2, rfl⟩ := g
      have e2 := cx_41 hp hi r2
      rw [e2]
      refine ⟨⟨by rw [fx_rIn (by decide)]; exact hl.1, hl.2⟩, fun j hj => ⟨by rw [fx_rIn (by decide)], fun c hc => rfl⟩, by rw [fx_rIe], fun j hj => by rw [fx_rIk hj], by rw [fx_rIn (by decide)], by rw [fx_rIn (by decide)]⟩
theorem cx_73a (ha : a.length ≤ 6) (hb : b.length ≤ 6) (hd : d + 1 < 20) (hi : i < 2500) (hp : p1.toInt = (i : Int)) {y2 y3 : Int32} (h2 : y2.toInt = (d : Int)) (h3 : y3.toInt = ((d + 1 : Nat) : Int)) (hl : cx_l1 X d a) (hr : cx_l1 X (d + 1) b) : ∀ (n k : Nat) (y4 y5 y6 : Int32), y6.toInt = (k : Int) → k ≤ b.length → y4.toInt = ((a.length + (md_new a (b.take k)).length : Nat) : Int) → y5.toInt = (md_map a (b.take k) 0 : Int) → gxF_73 p1 n 25 [y2, y3, y4, y5, y6] [] [] X u X' → (6 < a.length + (md_new a b).length ∧ (X'.1 82 5).toInt ≠ 0) ∨ (¬ 6 < a.length + (md_new a b).length ∧ cx_l1 X' d (a ++ md_new a b) ∧ cx_lo X X' d ∧ (X'.1 86 i).toInt = (md_map a b 0 : Int) ∧ (∀ j, j ≠ i → X'.1 86 j = X.1 86 j) ∧ X'.1 82 5 = X.1 82 5 ∧ X'.1 91 5 = X.1 91 5) := by
  intro n
  induction n with
  | zero => intro k y4 y5 y6 _ _ _ _ g; exact g.elim
  | succ n ih =>
    intro k y4 y5 y6 hk hkl h4 h5 g
    replace g := gxO_73_25 g
    obtain ⟨w12, X11, r1, g⟩ := g
    obtain ⟨rfl, e1⟩ := cx_69 hr hd h3 r1
    by_cases z : k < b.length
    · rw [if_pos (by omega)] at g
      obtain ⟨n', hn'⟩ : ∃ n', b[k]? = some n' := ⟨b[k], List.getElem?_eq_getElem z⟩
      obtain ⟨w19, X18, r2, w21, X20, r3, g⟩ := g
      obtain ⟨rfl, rfl⟩ := cx_70 hr hd hb h3 hk hn' r2
      obtain ⟨rfl, e3⟩ := cx_74 hl (by omega) ha h2 r3
      have hlt := md_map_lt ha (b := b) k (by omega)
      have h8 : 8 ^ k ≤ 8 ^ 5 := Nat.pow_le_pow_right (by decide) (by omega)
      have h85 : 8 ^ 5 = 32768 := by decide
      have hmt := md_map_take (a := a) (c := 0) hn'
      rw [Nat.zero_add] at hmt
      have hnt := md_new_take (a := a) hn'
      have hnl := md_new_le2 (a := a) (b := b.take k)
      rw [List.length_take] at hnl
      rcases md_dg_7 (n := w19) ha with ⟨q1, q2⟩ | ⟨q1, q2, q3, -⟩
      · rw [if_pos (by omega)] at g
        obtain ⟨x35, rfl, g⟩ := g
        rw [if_pos (by omega)] at g
        obtain ⟨x42, rfl, x44, rfl, g⟩ := g
        rw [if_pos q1] at hnt
        refine ih (k + 1) _ _ _ (cx_inc hk (by omega)) (by omega) ?_ ?_ g
        · rw [cx_inc h4 (by omega), hnt, List.length_append]; rfl
        · rw [hmt, q2]
          have e7 : ((Int8.ofInt 7).toInt32).toInt = ((7 : Nat) : Int) := by decide
          have := fx_or (k := 3 * k) h5 (fx_shf (fx_3k hk (by omega)) (by omega) e7 (by rw [md_8]; omega)) (by rw [md_8]; exact hlt) (by rw [md_8]; omega)
          rw [this, md_8]
      · rw [if_neg (by omega)] at g
        obtain ⟨x24, rfl, g⟩ := g
        rw [if_neg (by omega)] at g
        obtain ⟨x27, rfl, x29, rfl, g⟩ := g
        rw [if_neg q1, List.append_nil] at hnt
        refine ih (k + 1) _ _ _ (cx_inc hk (by omega)) (by omega) ?_ ?_ g
        · have e0 : (Int32.ofInt 0).toInt = 0 := rfl
          rw [fx_add (by rw [h4, e0]; omega) (by rw [h4, e0]; omega), h4, e0, hnt]
          omega
        · rw [hmt]
          have := fx_or (k := 3 * k) h5 (fx_shf (e := md_dg a w19) (fx_3k hk (by omega)) (by omega) (by rw [e3, q3]) (by
            rw [md_8]
            have : md_dg a w19 * 8 ^ k ≤ 6 * 8 ^ k := Nat.mul_le_mul_right _ (by omega)
            omega)) (by rw [md_8]; exact hlt) (by
            rw [md_8]
            have : md_dg a w19 * 8 ^ k ≤ 6 * 8 ^ k := Nat.mul_le_mul_right _ (by omega)
            omega)
          rw [this, md_8]
    · rw [if_neg (by omega)] at g
      have e : k = b.length := by omega
      rw [e, List.take_length] at h4 h5
      rcases fy_ifd g with ⟨c, g⟩ | ⟨c, g⟩
      · left
        obtain ⟨w17, X16, r2, rfl⟩ := g
        refine ⟨by omega, ?_⟩
        obtain ⟨_, _, _, _, _, _, _, _, r3, rfl⟩ := r2
        exact (cx_44 (by decide) r3).1
      · right
        refine ⟨by omega, ?_⟩
        obtain ⟨t1, t2, t3, t4, t5, t6⟩ := cx_73b ha hb (by omega) hd hi hp h2 h3 h5 n 0 _ X rfl (Nat.zero_le _) (by show cx_l1 X d (a ++ []); rw [List.append_nil]; exact hl) hr g
        exact ⟨t1, t2, by rw [t3]; exact h5, t4, t5, t6⟩
/-- the loop of load -/
theorem cx_59l {t : Nat} {x : Int64 × Bool × List Int64} {y2 : Int32} {y3 : Nat} (ht : t < 10) (h6 : x.2.2.length ≤ 6) (hs : sr = 54 ∨ sr = 66) (hd : d < 20) (h2 : y2.toInt = (t : Int)) (h3 : y3 = 102 ∨ 150 ≤ y3) : ∀ (n k : Nat) (y4 : Int32) (X : fx_X), y4.toInt = (k : Int) → k ≤ x.2.2.length → X.2.2.1 91 2 = some sr → (∀ c n, x.2.2[c]? = some n → X.2.1 (sr + 10) (6 * t + c) = n) → (X.1 y3 3).toInt = (x.2.2.length : Int) → (X.1 91 5).toInt = (d : Int) → cx_l1 X d (x.2.2.take k) → gxF_59 p1 n 54 [y2, y4] [] [y3] X u X' → cx_l1 X' d x.2.2 ∧ cx_lo X X' d ∧ (X'.1 91 5).toInt = ((d + 1 : Nat) : Int) ∧ fy [(91, 5)] [] [92, 93] X X' := by
  intro n
  induction n with
  | zero => intro k y4 X _ _ _ _ _ _ _ g; exact g.elim
  | succ n ih =>
    intro k y4 X hk hkl hb hT hw hdp hl g
    replace g := gxO_59_54 g
    unfold gxT_59_54 at g
    by_cases z : k < x.2.2.length
    · rw [if_pos (by omega)] at g
      obtain ⟨b28, e28, w30, X29, r1, w32, X31, r2, x33, rfl, g⟩ := g
      rw [hb] at e28
      cases e28
      obtain ⟨n', hn'⟩ : ∃ n', x.2.2[k]? = some n' := ⟨x.2.2[k], List.getElem?_eq_getElem z⟩
      obtain ⟨rfl, rfl⟩ := cx_66 hT ht h6 h2 hk hn' r1
      obtain ⟨m1, m2⟩ := cx_67 hl hd (by rw [List.length_take]; omega) hdp r2
      have hf := gf_67 r2
      have e4 : x.2.2.take (k + 1) = x.2.2.take k ++ [w30] := by rw [List.take_add_one, hn']; rfl
      obtain ⟨t1, t2, t3, t4⟩ := ih (k + 1) _ X31 (cx_inc hk (by omega)) (by omega) (by rw [hf.1]; exact hb) (fun c n hc => by rw [fy_rl hf (by simp; omega) (by simp)]; exact hT c n hc) (by rw [fy_ra hf (by simp; omega) (by simp)]; exact hw) (by rw [hf.2.2 91 5 (by decide) (by decide)]; exact hdp) (by rw [e4]; exact m1) g
      exact ⟨t1, cx_lo_tr m2 t2, t3, fy_tr (fy_sub hf (by decide) (by decide) (by decide)) t4⟩
    · rw [if_neg (by omega)] at g
      obtain ⟨X26, rfl, rfl⟩ := g
      rw [List.take_of_length_le (by omega)] at hl
      refine ⟨⟨by rw [fx_rIn (by decide)]; exact hl.1, hl.2⟩, fun j hj => ⟨by rw [fx_rIn (by decide)], fun c hc => rfl⟩, by rw [fx_rIe]; exact cx_inc hdp (by omega), fy_f fy_rf (by decide)⟩
end CX17
