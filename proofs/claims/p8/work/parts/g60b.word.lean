/-! WORDS OF TOKENS; CALLS THAT MAKE NO CELLS -/
def cw_wok (w : Int64) : Prop := w.toBitVec.getLsbD 7 = false ∧ w.toBitVec.getLsbD 15 = false ∧ w.toBitVec.getLsbD 23 = false ∧ w.toBitVec.getLsbD 31 = false
theorem cw_wok0 : cw_wok 0 := by
  unfold cw_wok
  decide
theorem cw_bits (n : Nat) (h : n < 128) (j : Nat) (hj : 7 ≤ j) : (BitVec.ofNat 64 n).getLsbD j = false := by
  rw [BitVec.getLsbD_ofNat]
  have : n.testBit j = false := Nat.testBit_lt_two_pow (Nat.lt_of_lt_of_le h (show 128 ≤ 2 ^ j from Nat.pow_le_pow_right (n := 2) (i := 7) (by decide) hj))
  rw [this, Bool.and_false]
theorem cw_wok_s {w : Int64} {c : Int32} (hw : cw_wok w) (h1 : 0 ≤ c.toInt) (h2 : c.toInt < 128) : cw_wok ((w <<< (((Int8.ofInt 8).toInt32).toInt64 &&& 63)) ||| c.toInt64) := by
  have e1 : ((Int8.ofInt 8).toInt32).toInt64 &&& 63 = 8 := by decide
  rw [e1]
  have e2 : (w <<< (8 : Int64)).toBitVec = w.toBitVec <<< 8 := rfl
  have e3 : c.toInt64.toBitVec = BitVec.ofNat 64 c.toInt.toNat := by
    apply BitVec.eq_of_toInt_eq
    rw [← Int64.toInt.eq_1, Int32.toInt_toInt64]
    have hm : c.toInt.toNat % 2 ^ 64 = c.toInt.toNat := Nat.mod_eq_of_lt (by omega)
    rw [BitVec.toInt_eq_toNat_of_lt (by rw [BitVec.toNat_ofNat, hm]; omega), BitVec.toNat_ofNat, hm]
    omega
  obtain ⟨q1, q2, q3, q4⟩ := hw
  unfold cw_wok
  rw [Int64.toBitVec_or, e2, e3]
  have hn : c.toInt.toNat < 128 := by omega
  refine ⟨?_, ?_, ?_, ?_⟩ <;> rw [BitVec.getLsbD_or, BitVec.getLsbD_shiftLeft, cw_bits _ hn _ (by decide)] <;> simp <;> assumption
theorem cw_wok_r {w : Int64} (hw : cw_wok w) : 0 ≤ w.toInt32.toInt ∧ w.toInt32.toInt ≤ 2139095039 := by
  obtain ⟨-, -, q3, q4⟩ := hw
  have e : w.toInt32.toBitVec = w.toBitVec.signExtend 32 := rfl
  have hm : w.toInt32.toBitVec.getLsbD 31 = false := by
    rw [e, BitVec.getLsbD_signExtend, if_pos (by decide), q4, Bool.and_false]
  have h23 : w.toInt32.toBitVec.getLsbD 23 = false := by
    rw [e, BitVec.getLsbD_signExtend, if_pos (by decide), q3, Bool.and_false]
  have hlt := w.toInt32.toBitVec.isLt
  rw [← BitVec.testBit_toNat, Nat.testBit_eq_decide_div_mod_eq, decide_eq_false_iff_not] at hm h23
  generalize hx : w.toInt32.toBitVec.toNat = x at *
  have ei : w.toInt32.toInt = (x : Int) := by
    show w.toInt32.toBitVec.toInt = _
    rw [BitVec.toInt_eq_toNat_of_lt (by rw [hx]; omega), hx]
  rw [ei]
  omega
theorem cw_num_r {w : Int64} (h1 : 0 ≤ w.toInt) (h2 : w.toInt ≤ 9999) : 0 ≤ w.toInt32.toInt ∧ w.toInt32.toInt ≤ 2139095039 := by
  rw [Int64.toInt_toInt32, Int.bmod_eq_of_le (by omega) (by omega)]
  omega
theorem cw_num_s {w t : Int64} {c z : Int32} (ht : t.toInt = 10) (h1 : 0 ≤ w.toInt) (h2 : w.toInt ≤ 999) (hz : z.toInt = c.toInt - 48) (h3 : 48 ≤ c.toInt) (h4 : c.toInt ≤ 57) : (w * t + z.toInt64).toInt = w.toInt * 10 + (c.toInt - 48) := by
  rw [Int64.toInt_add, Int64.toInt_mul, Int32.toInt_toInt64, ht, hz, Int.bmod_eq_of_le (n := w.toInt * 10) (by omega) (by omega), Int.bmod_eq_of_le (by omega) (by omega)]
section CWK0
variable {T : ak_TT} {Φ : List Nat → Option Value → aj_H → Prop} {tb : aj_T} {d : Nat} {mm : aj_M} {con : ak_Con} {s : List Nat} {h : aj_H} {kc ks pc : Nat} {lv : aj_V} {st rest : List Value} {ct : List (Nat × Instr × Nat)} {i : Nat}
theorem cw_u0 {u : List Nat} (h0 : s ++ u = s) : u = [] := by
  have := congrArg List.length h0
  rw [List.length_append] at this
  exact List.length_eq_zero_iff.mp (by omega)
theorem cw_k0 (hct : aj_ctOK ct mm.2.1) {idx n : Nat} {w : Int} (htb : ak_tbOK T tb) (hT : ak_Ty T s h) (hd : aj_ct ct pc = some (.invokevirtual idx, 3)) {con' : ak_Con} (hl : aj_link mm.2.2.2.2.2.1 idx = some (2, con'.1, n, w)) (args : List Value) (hst : st = args ++ .ref (52 + i) :: rest) (hn : args.length = n) {t : Nat} (hs : s[i]? = some t) (ht : T.1[t]? = some (.inl w.toNat)) (hsum : aj_sum rest ≤ 8) {Φ' : List Nat → Option Value → aj_H → Prop} (hM : (∀ t ∈ con'.2.2.2.1.1, t ∈ con.2.2.2.1.1) ∧ ∀ q ∈ con'.2.2.2.1.2, q ∈ con.2.2.2.1.2) (hc : cw_K T (fun s' r h' => s' = s ∧ Φ' s' r h') tb d con' (.ref (52 + i) :: args.reverse) s h) (kk : ∀ (r : Option Value) (h1 : aj_H), ak_Ty T s h1 → Φ' s r h1 → ak_gR s con'.2.2.1 r → cw_W T Φ tb d mm con s h1 kc ks (pc + 3) lv (r.toList ++ rest)) : cw_W T Φ tb d mm con s h kc ks pc lv st := by
  refine cw_k (rest := rest) hct htb hT hd hl args hst hn ?_ hsum hM hc (fun u r h1 q1 q2 q3 _ => ?_)
  · obtain ⟨-, e, he, hc⟩ := hT.2 i t hs
    unfold ak_cOK at hc
    rw [ht] at hc
    obtain ⟨fs, rfl, -⟩ := hc
    exact ⟨fs, he⟩
  · have hu := cw_u0 q2.1
    subst hu
    rw [List.append_nil] at q1 q2 q3 ⊢
    exact kk r h1 q1 q2.2 q3
theorem cw_ks0 (hct : aj_ctOK ct mm.2.1) {idx n : Nat} {w : Int} (hT : ak_Ty T s h) (hd : aj_ct ct pc = some (.invokestatic idx, 3)) (hnat : aj_isNat mm.2.2.2.2.2.1 idx = false) {con' : ak_Con} (hl : aj_link mm.2.2.2.2.2.1 idx = some (6, con'.1, n, w)) (args : List Value) (hst : st = args ++ rest) (hn : args.length = n) (hsum : aj_sum rest ≤ 8) {Φ' : List Nat → Option Value → aj_H → Prop} (hM : (∀ t ∈ con'.2.2.2.1.1, t ∈ con.2.2.2.1.1) ∧ ∀ q ∈ con'.2.2.2.1.2, q ∈ con.2.2.2.1.2) (hc : cw_K T (fun s' r h' => s' = s ∧ Φ' s' r h') tb d con' args.reverse s h) (kk : ∀ (r : Option Value) (h1 : aj_H), ak_Ty T s h1 → Φ' s r h1 → ak_gR s con'.2.2.1 r → cw_W T Φ tb d mm con s h1 kc ks (pc + 3) lv (r.toList ++ rest)) : cw_W T Φ tb d mm con s h kc ks pc lv st := by
  refine cw_ks (rest := rest) hct hT hd hnat hl args hst hn hsum hM hc (fun u r h1 q1 q2 q3 _ => ?_)
  have hu := cw_u0 q2.1
  subst hu
  rw [List.append_nil] at q1 q2 q3 ⊢
  exact kk r h1 q1 q2.2 q3
end CWK0
theorem cw_num_f {x a : Int32} {w : Int64} (hk : x.toInt - a.toInt ≤ 4 → 0 ≤ w.toInt ∧ w.toInt < 10 ^ (x.toInt - a.toInt).toNat) (h1 : a.toInt ≤ x.toInt) (h2 : x.toInt - a.toInt ≤ 4) : 0 ≤ w.toInt32.toInt ∧ w.toInt32.toInt ≤ 2139095039 := by
  obtain ⟨k1, k2⟩ := hk h2
  have : (10 : Int) ^ (x.toInt - a.toInt).toNat ≤ 10 ^ 4 := by
    generalize hn : (x.toInt - a.toInt).toNat = n
    have : n ≤ 4 := by omega
    rcases (by omega : n = 0 ∨ n = 1 ∨ n = 2 ∨ n = 3 ∨ n = 4) with rfl | rfl | rfl | rfl | rfl <;> decide
  exact cw_num_r k1 (by omega)
theorem cw_num_l {x x' a c z : Int32} {w t : Int64} (hk : 0 ≤ w.toInt ∧ w.toInt < 10 ^ (x.toInt - a.toInt).toNat) (ht : t.toInt = 10) (hz : z.toInt = c.toInt - 48) (h1 : 48 ≤ c.toInt) (h2 : c.toInt ≤ 57) (h3 : a.toInt ≤ x.toInt) (h4 : x'.toInt = x.toInt + 1 ∧ x'.toInt - a.toInt ≤ 4) : 0 ≤ (w * t + z.toInt64).toInt ∧ (w * t + z.toInt64).toInt < 10 ^ (x'.toInt - a.toInt).toNat := by
  obtain ⟨k1, k2⟩ := hk
  have e1 : (x'.toInt - a.toInt).toNat = (x.toInt - a.toInt).toNat + 1 := by omega
  have e2 : (10 : Int) ^ (x'.toInt - a.toInt).toNat = 10 ^ (x.toInt - a.toInt).toNat * 10 := by rw [e1]; exact Int.pow_succ ..
  have e3 : (10 : Int) ^ (x.toInt - a.toInt).toNat ≤ 10 ^ 3 := by
    generalize hn : (x.toInt - a.toInt).toNat = n
    have : n ≤ 3 := by omega
    rcases (by omega : n = 0 ∨ n = 1 ∨ n = 2 ∨ n = 3) with rfl | rfl | rfl | rfl <;> decide
  rw [cw_num_s ht k1 (by omega) hz h1 h2, e2]
  omega
