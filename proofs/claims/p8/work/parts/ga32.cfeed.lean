/-! FEED AND BACK OF THE CLASS, THEIR ANSWERS (rows of p1, part 22, turned) -/
/-- an object's cell and an array's of the list h, the object with field k at v, the array with contents f -/
def aj_hp (h : aj_H) (oi ti ci kd n k : Nat) (fs : List Value) (v : Int32) (f : Nat → Int32) : aj_H := (h.set ti (.inl (kd, n, .inl f))).set oi (.inr (ci, fs.set k (.int v)))
theorem aj_hp_o {h : aj_H} {oi ti ci kd n k : Nat} {fs : List Value} {v : Int32} {f : Nat → Int32} (ho : oi < h.length) : (aj_hp h oi ti ci kd n k fs v f)[oi]? = some (.inr (ci, fs.set k (.int v))) := by
  simp [aj_hp, List.getElem?_set, ho]
theorem aj_hp_t {h : aj_H} {oi ti ci kd n k : Nat} {fs : List Value} {v : Int32} {f : Nat → Int32} (ht : ti < h.length) (hne : oi ≠ ti) : (aj_hp h oi ti ci kd n k fs v f)[ti]? = some (.inl (kd, n, .inl f)) := by
  simp [aj_hp, List.getElem?_set, ht, hne]
theorem aj_hp_so {h : aj_H} {oi ti ci kd n k : Nat} {fs : List Value} {v w : Int32} {f : Nat → Int32} : (aj_hp h oi ti ci kd n k fs v f).set oi (.inr (ci, (fs.set k (.int v)).set k (.int w))) = aj_hp h oi ti ci kd n k fs w f := by
  simp [aj_hp, List.set_set]
theorem aj_hp_st {h : aj_H} {oi ti ci kd n k : Nat} {fs : List Value} {v : Int32} {f g : Nat → Int32} (hne : oi ≠ ti) : (aj_hp h oi ti ci kd n k fs v f).set ti (.inl (kd, n, .inl g)) = aj_hp h oi ti ci kd n k fs v g := by
  unfold aj_hp
  rw [List.set_comm _ _ hne, List.set_set]
theorem aj_hp_len {h : aj_H} {oi ti ci kd n k : Nat} {fs : List Value} {v : Int32} {f : Nat → Int32} : (aj_hp h oi ti ci kd n k fs v f).length = h.length := by simp [aj_hp]
theorem aj_in_nI {b n : Nat} (h : b < n) (h2 : b < 2 ^ 31) : aj_in (nI b) n = true := by
  unfold aj_in
  rw [nI_clamp h2]
  have h3 := nI_pos h2
  simp [h3, h]
theorem aj_hp_id {h : aj_H} {oi ti ci kd n k : Nat} {fs : List Value} {v : Int32} {f : Nat → Int32} (ho : h[oi]? = some (.inr (ci, fs))) (ht : h[ti]? = some (.inl (kd, n, .inl f))) (hk : fs[k]? = some (.int v)) : aj_hp h oi ti ci kd n k fs v f = h := by
  have e1 : fs.set k (.int v) = fs := by
    apply List.ext_getElem?
    intro j
    rw [List.getElem?_set]
    by_cases hj : k = j
    · subst hj
      rw [if_pos rfl, if_pos (List.getElem?_eq_some_iff.mp hk).1, hk]
    · simp [hj]
  unfold aj_hp
  rw [e1]
  apply List.ext_getElem?
  intro j
  simp only [List.getElem?_set, List.length_set]
  have l1 := (List.getElem?_eq_some_iff.mp ho).1
  have l2 := (List.getElem?_eq_some_iff.mp ht).1
  by_cases h1 : oi = j
  · subst h1
    rw [if_pos rfl, if_pos l1, ho]
  · by_cases h2 : ti = j
    · subst h2
      rw [if_neg h1, if_pos rfl, if_pos l2, ht]
    · simp [h1, h2]
section AJFEED
variable {tb : aj_T} {call : Nat → List Value → aj_H → Nat → Nat → Option Value → aj_H → Prop} {h : aj_H} {mc ms : Nat} {r : Option Value} {hF : aj_H} {deep : Bool}
/-- what put stores, byteRow stores -/
def aj_chr (w s : Int32) : Int32 := aj_nar 3 (((w >>> (s &&& 31)) &&& (Int16.ofInt 255).toInt32).toUInt32 % 65536).toInt32
/-- one byte of put's loop -/
theorem aj_put1 (oi ti : Nat) (fs : List Value) (b : Nat) (f : Nat → Int32) (w s : Int32) (hs : aj_test .lt s 0 = false) (ho : oi < h.length) (ht : ti < h.length) (hne : oi ≠ ti) (hf0 : fs[0]? = some (.ref (tb.length + ti))) (hf1 : 1 < fs.length) (hb : b < 4000)
    (kk : aj_TF aj_rc aj_cls tb aj_m17 false deep call 3 [(2, .int (s + Int32.ofInt (-8))), (0, .ref (tb.length + oi)), (1, .int w)] [] (aj_hp h oi ti 10 3 4000 1 fs (nI (b + 1)) (upd f (nI b).toNatClampNeg (aj_chr w s))) 0 0 0 0 r hF) :
    aj_TF aj_rc aj_cls tb aj_m17 false deep call 3 [(2, .int s), (0, .ref (tb.length + oi)), (1, .int w)] [] (aj_hp h oi ti 10 3 4000 1 fs (nI b) f) 0 0 0 0 r hF := by
  have hk : 0 ≤ 0 ∧ 0 ≤ 0 := ⟨Nat.le_refl _, Nat.le_refl _⟩
  have e1 : ¬ tb.length + oi < tb.length := by omega
  have e2 : ¬ tb.length + ti < tb.length := by omega
  have eo : tb.length + oi - tb.length = oi := by omega
  have et : tb.length + ti - tb.length = ti := by omega
  have hobj : ∀ (v : Int32) (g : Nat → Int32), aj_obj tb (aj_hp h oi ti 10 3 4000 1 fs v g) (tb.length + oi) = some (10, fs.set 1 (.int v)) := fun v g => by
    unfold aj_obj
    rw [if_neg e1, eo, aj_hp_o ho]
  have harr : ∀ (v : Int32) (g : Nat → Int32), aj_arr tb (aj_hp h oi ti 10 3 4000 1 fs v g) (tb.length + ti) = some (3, 4000, .inl g) := fun v g => by
    unfold aj_arr
    rw [if_neg e2, et, aj_hp_t ht hne]
  have hv0 : ∀ v : Int32, (fs.set 1 (.int v))[0]? = some (.ref (tb.length + ti)) := fun v => by simp [List.getElem?_set, hf0]
  have hv1 : ∀ v : Int32, (fs.set 1 (.int v))[1]? = some (.int v) := fun v => by simp [List.getElem?_set, hf1]
  refine aj_tn aj_d17 hk rfl rfl ?_
  refine aj_tz (tgt := 52) aj_d17 hk rfl rfl (fun z => by rw [hs] at z; cases z) (fun _ => ?_)
  refine aj_tn aj_d17 hk rfl rfl ?_
  refine aj_tg aj_d17 hk rfl rfl (by decide) (hobj _ _) (hv1 _) ?_
  refine aj_tn aj_d17 hk rfl rfl ?_
  refine aj_tg aj_d17 hk rfl rfl (by decide) (hobj _ _) (hv0 _) ?_
  refine aj_tl aj_d17 hk rfl (harr _ _) (by decide) ?_
  refine aj_tc (tgt := 46) aj_d17 hk rfl rfl (fun z => ?_) (fun _ => ?_)
  · exfalso
    have z : decide ((Int32.ofNat 4000) ≤ nI b) = true := z
    exact nI_ge hb (by decide) (of_decide_eq_true z)
  refine aj_tn aj_d17 hk rfl rfl ?_
  refine aj_tg aj_d17 hk rfl rfl (by decide) (hobj _ _) (hv0 _) ?_
  refine aj_tn aj_d17 hk rfl rfl ?_
  refine aj_tg aj_d17 hk rfl rfl (by decide) (hobj _ _) (hv1 _) ?_
  refine aj_tn aj_d17 hk rfl rfl ?_
  refine aj_tn aj_d17 hk rfl rfl ?_
  refine aj_tn aj_d17 hk rfl rfl ?_
  refine aj_tn aj_d17 hk rfl rfl ?_
  refine aj_tn aj_d17 hk rfl rfl ?_
  refine aj_tn aj_d17 hk rfl rfl ?_
  refine aj_ts aj_d17 hk (Or.inr (Or.inl ⟨rfl, rfl⟩)) rfl e2 (by rw [et]; exact aj_hp_t ht hne) (aj_in_nI hb (by omega)) ?_
  rw [et, aj_hp_st hne]
  refine aj_tn aj_d17 hk rfl rfl ?_
  refine aj_tn aj_d17 hk rfl rfl ?_
  refine aj_tg aj_d17 hk rfl rfl (by decide) (hobj _ _) (hv1 _) ?_
  refine aj_tn aj_d17 hk rfl rfl ?_
  refine aj_tn aj_d17 hk rfl rfl ?_
  refine aj_tp (q := ("DimShelf", aj_T10, 14, aj_F10)) aj_d17 hk rfl rfl (by decide) (Or.inl rfl) (hobj _ _) rfl (by simpa using hf1) rfl ?_
  rw [eo, aj_hp_so]
  refine aj_tn aj_d17 hk rfl rfl ?_
  refine aj_tn aj_d17 hk rfl rfl ?_
  have e9 : (fun x y : Int32 => x + y) (nI b) (Int32.ofInt 1) = nI (b + 1) := nI_1 b
  rw [e9]
  exact kk
def aj_w4 (ch : Int32 → Int32) (s dl : Int32) (f : Nat → Int32) (b : Nat) : Nat → Int32 := upd (upd (upd (upd f (nI b).toNatClampNeg (ch s)) (nI (b + 1)).toNatClampNeg (ch (s + dl))) (nI (b + 2)).toNatClampNeg (ch (s + dl + dl))) (nI (b + 3)).toNatClampNeg (ch (s + dl + dl + dl))
theorem aj_put_ok (d oi ti : Nat) (fs : List Value) (b : Nat) (f : Nat → Int32) (w : Int32) (ho : oi < h.length) (ht : ti < h.length) (hne : oi ≠ ti) (hf0 : fs[0]? = some (.ref (tb.length + ti))) (hf1 : 1 < fs.length) (hb : b + 4 ≤ 4000) :
    ∃ g, aj_runs aj_rc aj_cls tb aj_mt (d + 1) 17 [.ref (tb.length + oi), .int w] (aj_hp h oi ti 10 3 4000 1 fs (nI b) f) 0 0 none (aj_hp h oi ti 10 3 4000 1 fs (nI (b + 4)) g) := by
  have hk : 0 ≤ 0 ∧ 0 ≤ 0 := ⟨Nat.le_refl _, Nat.le_refl _⟩
  refine ⟨aj_w4 (aj_chr w) (Int8.ofInt 24).toInt32 (Int32.ofInt (-8)) f b, aj_m17, aj_m17_at, Nat.le_of_ble_eq_true rfl, ?_⟩
  show aj_TF aj_rc aj_cls tb aj_m17 false true (aj_runs aj_rc aj_cls tb aj_mt d) 0 [(0, .ref (tb.length + oi)), (1, .int w)] [] _ 0 0 0 0 none _
  refine aj_tn aj_d17 hk rfl rfl ?_
  refine aj_tn aj_d17 hk rfl rfl ?_
  refine aj_put1 oi ti fs b f w _ rfl ho ht hne hf0 hf1 (by omega) ?_
  refine aj_put1 oi ti fs (b + 1) _ w _ rfl ho ht hne hf0 hf1 (by omega) ?_
  refine aj_put1 oi ti fs (b + 2) _ w _ rfl ho ht hne hf0 hf1 (by omega) ?_
  refine aj_put1 oi ti fs (b + 3) _ w _ rfl ho ht hne hf0 hf1 (by omega) ?_
  refine aj_tn aj_d17 hk rfl rfl ?_
  refine aj_tz (tgt := 52) aj_d17 hk rfl rfl (fun _ => ?_) (fun z => by exact absurd z (by decide))
  exact aj_te aj_d17 rfl rfl
theorem aj_feed_ok (d oi ti : Nat) (fs : List Value) (b : Nat) (f : Nat → Int32) (w1 w2 w3 w4 w5 : Int32) (ho : oi < h.length) (ht : ti < h.length) (hne : oi ≠ ti) (hf0 : fs[0]? = some (.ref (tb.length + ti))) (hf1 : 1 < fs.length) (hb : b + 20 ≤ 4000) :
    ∃ g, aj_runs aj_rc aj_cls tb aj_mt (d + 2) 16 [.ref (tb.length + oi), .int w1, .int w2, .int w3, .int w4, .int w5] (aj_hp h oi ti 10 3 4000 1 fs (nI b) f) 0 0 (some (.int (nI (b + 20)))) (aj_hp h oi ti 10 3 4000 1 fs (nI (b + 20)) g) := by
  have hk : 0 ≤ 0 ∧ 0 ≤ 0 := ⟨Nat.le_refl _, Nat.le_refl _⟩
  have e1 : ¬ tb.length + oi < tb.length := by omega
  have eo : tb.length + oi - tb.length = oi := by omega
  have hobj : ∀ (v : Int32) (g : Nat → Int32), aj_obj tb (aj_hp h oi ti 10 3 4000 1 fs v g) (tb.length + oi) = some (10, fs.set 1 (.int v)) := fun v g => by
    unfold aj_obj
    rw [if_neg e1, eo, aj_hp_o ho]
  have hv1 : ∀ v : Int32, (fs.set 1 (.int v))[1]? = some (.int v) := fun v => by simp [List.getElem?_set, hf1]
  obtain ⟨g1, h1⟩ := aj_put_ok (tb := tb) d oi ti fs b f w1 ho ht hne hf0 hf1 (by omega)
  obtain ⟨g2, h2⟩ := aj_put_ok (tb := tb) d oi ti fs (b + 4) g1 w2 ho ht hne hf0 hf1 (by omega)
  obtain ⟨g3, h3⟩ := aj_put_ok (tb := tb) d oi ti fs (b + 4 + 4) g2 w3 ho ht hne hf0 hf1 (by omega)
  obtain ⟨g4, h4⟩ := aj_put_ok (tb := tb) d oi ti fs (b + 4 + 4 + 4) g3 w4 ho ht hne hf0 hf1 (by omega)
  obtain ⟨g5, h5⟩ := aj_put_ok (tb := tb) d oi ti fs (b + 4 + 4 + 4 + 4) g4 w5 ho ht hne hf0 hf1 (by omega)
  refine ⟨g5, aj_m16, aj_m16_at, Nat.le_of_ble_eq_true rfl, ?_⟩
  show aj_TF aj_rc aj_cls tb aj_m16 false true (aj_runs aj_rc aj_cls tb aj_mt (d + 1)) 0 [(0, .ref (tb.length + oi)), (1, .int w1), (2, .int w2), (3, .int w3), (4, .int w4), (5, .int w5)] [] _ 0 0 0 0 _ _
  refine aj_tn aj_d16 hk rfl rfl ?_
  refine aj_tg aj_d16 hk rfl rfl (by decide) (hobj _ _) (hv1 _) ?_
  refine aj_tn aj_d16 hk rfl rfl ?_
  refine aj_tc (tgt := 12) aj_d16 hk rfl rfl (fun _ => ?_) (fun z => ?_)
  rotate_left
  · exfalso
    have z : decide (nI b ≤ nI 3980) = false := z
    exact of_decide_eq_false z (nI_le (by omega) (by decide))
  refine aj_tn aj_d16 hk rfl rfl ?_
  refine aj_tn aj_d16 hk rfl rfl ?_
  refine aj_tiv aj_d16 rfl rfl [.int w1] rfl rfl (hobj _ _) rfl (by decide) rfl h1 (by simp [aj_hp_len]) hk ?_
  refine aj_tn aj_d16 hk rfl rfl ?_
  refine aj_tn aj_d16 hk rfl rfl ?_
  refine aj_tiv aj_d16 rfl rfl [.int w2] rfl rfl (hobj _ _) rfl (by decide) rfl h2 (by simp [aj_hp_len]) hk ?_
  refine aj_tn aj_d16 hk rfl rfl ?_
  refine aj_tn aj_d16 hk rfl rfl ?_
  refine aj_tiv aj_d16 rfl rfl [.int w3] rfl rfl (hobj _ _) rfl (by decide) rfl h3 (by simp [aj_hp_len]) hk ?_
  refine aj_tn aj_d16 hk rfl rfl ?_
  refine aj_tn aj_d16 hk rfl rfl ?_
  refine aj_tiv aj_d16 rfl rfl [.int w4] rfl rfl (hobj _ _) rfl (by decide) rfl h4 (by simp [aj_hp_len]) hk ?_
  refine aj_tn aj_d16 hk rfl rfl ?_
  refine aj_tn aj_d16 hk rfl rfl ?_
  refine aj_tiv aj_d16 rfl rfl [.int w5] rfl rfl (hobj _ _) rfl (by decide) rfl h5 (by simp [aj_hp_len]) hk ?_
  refine aj_tn aj_d16 hk rfl rfl ?_
  refine aj_tg aj_d16 hk rfl rfl (by decide) (hobj _ _) (hv1 _) ?_
  exact aj_te aj_d16 rfl rfl
end AJFEED
/-- a call of the class returns an int; the bytes of its tape behind it -/
def cw_PB2 (tb : aj_T) (d m : Nat) (as : List Value) (s : List Nat) (h : aj_H) (R : Int32 → Int32 → Prop) : Prop := ∃ (u : List Nat) (z x2 : Int32) (h' : aj_H), aj_runs aj_rc aj_cls tb aj_mt d m as h u.length (ak_slo ak_C0 u) (some (.int z)) h' ∧ ak_Ty ak_C0 (s ++ u) h' ∧ cw_I cw_XB (s ++ u) h' ∧ cw_rs h h' ∧ cw_F h' 0 10 1 (.int x2) ∧ R z x2
section CWA32
variable {tb : aj_T} {d : Nat} {s : List Nat} {h : aj_H} {x1 : Int32}
theorem aj_tst_lt {x y : Int32} : aj_test .lt x y = decide (x.toInt < y.toInt) := by
  show decide (x < y) = _
  exact decide_eq_decide.mpr Int32.lt_iff_toInt_lt
theorem aj_tst_le {x y : Int32} : aj_test .le x y = decide (x.toInt ≤ y.toInt) := by
  show decide (x ≤ y) = _
  exact decide_eq_decide.mpr Int32.le_iff_toInt_le
theorem cw_tape (hT : ak_Ty ak_C0 s h) (hB : cw_B s) (f1 : cw_F h 0 10 1 (.int x1)) : (0 ≤ x1.toInt ∧ x1.toInt ≤ 4000) ∧ ∃ (fs : List Value) (f : Nat → Int32), h[0]? = some (.inr (10, fs)) ∧ fs[1]? = some (.int x1) ∧ fs[0]? = some (.ref (52 + 1)) ∧ h[1]? = some (.inl (3, 4000, .inl f)) := by
  obtain ⟨fs, e0, e1⟩ := f1
  obtain ⟨v1, ⟨fs1, g1, g2⟩, g3⟩ := cw_tyF (i := 0) (t := 62) (c := 10) (k := 1) (y := .inl (0, 4000)) hT (cw_s0 hB rfl) rfl rfl rfl
  obtain ⟨v0, ⟨fs0, g4, g5⟩, g6⟩ := cw_tyF (i := 0) (t := 62) (c := 10) (k := 0) (y := .inr (some ([64], false))) hT (cw_s0 hB rfl) rfl rfl rfl
  rw [e0] at g1 g4
  cases g1
  cases g4
  rw [e1] at g2
  cases g2
  obtain rfl := cw_gu (i := 1) hB g6 (by decide) (by decide) (by decide)
  obtain ⟨x, z1, z2⟩ := ak_gi g3
  cases z1
  obtain ⟨n, z, a1, p1, p2, p3⟩ := cw_tyA (i := 1) (t := 64) (kd := 3) (n1 := 4000) (n2 := 4000) (y := .inl (0, 65535)) hT (cw_s0 hB rfl) rfl
  obtain rfl : n = 4000 := Nat.le_antisymm p2 p1
  obtain ⟨f, rfl, -⟩ := cw_xi p3
  exact ⟨z2, fs, f, e0, e1, g5, a1⟩
/-- feed -/
theorem cw_feed (htb : ak_tbOK ak_C0 tb) (htG : cw_tbG tb) (hT : ak_Ty ak_C0 s h) (hI : cw_I cw_XB s h) (hd : 27 ≤ d) (a0 a1 a2 a3 a4 : Int32) (f1 : cw_F h 0 10 1 (.int x1)) : cw_PB2 tb d 16 [.ref (52 + 0), .int a0, .int a1, .int a2, .int a3, .int a4] s h (fun z x2 => (4000 < x1.toInt + 20 ∧ z.toInt = -1 ∧ x2.toInt = x1.toInt) ∨ (x1.toInt + 20 ≤ 4000 ∧ z.toInt = x1.toInt + 20 ∧ x2.toInt = x1.toInt + 20)) := by
  obtain ⟨u, r, h', k1, k2, k3, k4, k5⟩ := cw_of (d := d) (SP := cw_I cw_XB) (k := 2) (by omega) (ap_0_16 htb (cw_I_c rfl rfl) cw_hK) hT hI (as := [.ref (52 + 0), .int a0, .int a1, .int a2, .int a3, .int a4]) ⟨cw_gR (cw_s0 hI.1 rfl) (by decide) (by decide), cw_full _, cw_full _, cw_full _, cw_full _, cw_full _, trivial⟩ cw_q0
  have hrs := cw_rs_ev hT hI.1 k4 (by decide)
  obtain ⟨b1, fs, f, e0, e1, e2, e3⟩ := cw_tape hT hI.1 f1
  obtain ⟨d, rfl⟩ : ∃ e, d = e + 2 := ⟨d - 2, by omega⟩
  have hlen : tb.length = 52 := htb.1
  by_cases c : x1.toInt + 20 ≤ 4000
  · have ex : x1 = nI x1.toInt.toNat := aw_nI (by omega) (by omega)
    obtain ⟨g, hr⟩ := aj_feed_ok (tb := tb) (h := h) d 0 1 fs x1.toInt.toNat f a0 a1 a2 a3 a4 (List.getElem?_eq_some_iff.mp e0).1 (List.getElem?_eq_some_iff.mp e3).1 (by decide) (by rw [hlen]; exact e2) (List.getElem?_eq_some_iff.mp e1).1 (by omega)
    rw [aj_hp_id e0 e3 (by rw [← ex]; exact e1), hlen] at hr
    obtain ⟨rfl, rfl, z3⟩ := aj_runs_det _ _ _ _ _ _ _ _ _ _ _ _ k1 hr
    have e20 : (nI (x1.toInt.toNat + 20)).toInt = x1.toInt + 20 := by
      rw [aw_nIi (by omega)]
      omega
    refine ⟨u, nI (x1.toInt.toNat + 20), nI (x1.toInt.toNat + 20), _, k1, k2, k3.1, hrs, ⟨_, aj_hp_o (List.getElem?_eq_some_iff.mp e0).1, ?_⟩, Or.inr ⟨c, e20, e20⟩⟩
    rw [List.getElem?_set_self (List.getElem?_eq_some_iff.mp e1).1]
  · have ho : aj_obj tb h (52 + 0) = some (10, fs) := by
      unfold aj_obj
      rw [if_neg (by omega), hlen]
      show (match h[0]? with | some (.inr q) => some q | _ => none) = _
      rw [e0]
    have hk : 0 ≤ 0 ∧ 0 ≤ 0 := ⟨Nat.le_refl _, Nat.le_refl _⟩
    have hr : aj_runs aj_rc aj_cls tb aj_mt (d + 2) 16 [.ref (52 + 0), .int a0, .int a1, .int a2, .int a3, .int a4] h 0 0 (some (.int (Int32.ofInt (-1)))) h := by
      refine ⟨aj_m16, aj_m16_at, Nat.le_of_ble_eq_true rfl, ?_⟩
      show aj_TF aj_rc aj_cls tb aj_m16 false true (aj_runs aj_rc aj_cls tb aj_mt (d + 1)) 0 [(0, .ref (52 + 0)), (1, .int a0), (2, .int a1), (3, .int a2), (4, .int a3), (5, .int a4)] [] _ 0 0 0 0 _ _
      refine aj_tn aj_d16 hk rfl rfl ?_
      refine aj_tg aj_d16 hk rfl rfl (by decide) ho e1 ?_
      refine aj_tn aj_d16 hk rfl rfl ?_
      refine aj_tc (tgt := 12) aj_d16 hk rfl rfl (fun z => ?_) (fun z => ?_)
      · exfalso
        rw [aj_tst_le] at z
        have z := of_decide_eq_true z
        have z : x1.toInt ≤ 3980 := z
        omega
      refine aj_tn aj_d16 hk rfl rfl ?_
      exact aj_te aj_d16 rfl rfl
    obtain ⟨rfl, rfl, z3⟩ := aj_runs_det _ _ _ _ _ _ _ _ _ _ _ _ k1 hr
    exact ⟨u, _, x1, _, k1, k2, k3.1, hrs, f1, Or.inl ⟨by omega, rfl, rfl⟩⟩
/-- back -/
theorem cw_back (htb : ak_tbOK ak_C0 tb) (htG : cw_tbG tb) (hT : ak_Ty ak_C0 s h) (hI : cw_I cw_XB s h) (hd : 27 ≤ d) (a0 : Int32) (f1 : cw_F h 0 10 1 (.int x1)) : cw_PB2 tb d 18 [.ref (52 + 0), .int a0] s h (fun z x2 => ((a0.toInt < 0 ∨ x1.toInt < a0.toInt) ∧ z.toInt = -1 ∧ x2.toInt = x1.toInt) ∨ ((0 ≤ a0.toInt ∧ a0.toInt ≤ x1.toInt) ∧ z.toInt = x1.toInt - a0.toInt ∧ x2.toInt = x1.toInt - a0.toInt)) := by
  obtain ⟨u, r, h', k1, k2, k3, k4, k5⟩ := cw_of (d := d) (SP := cw_I cw_XB) (k := 1) (by omega) (ap_0_18 htb (cw_I_c rfl rfl) cw_hK) hT hI (as := [.ref (52 + 0), .int a0]) ⟨cw_gR (cw_s0 hI.1 rfl) (by decide) (by decide), cw_full _, trivial⟩ cw_q0
  have hrs := cw_rs_ev hT hI.1 k4 (by decide)
  obtain ⟨b1, fs, f, e0, e1, e2, e3⟩ := cw_tape hT hI.1 f1
  obtain ⟨d, rfl⟩ : ∃ e, d = e + 1 := ⟨d - 1, by omega⟩
  have hlen : tb.length = 52 := htb.1
  have ho : aj_obj tb h (52 + 0) = some (10, fs) := by
    unfold aj_obj
    rw [if_neg (by omega), hlen]
    show (match h[0]? with | some (.inr q) => some q | _ => none) = _
    rw [e0]
  have hk : 0 ≤ 0 ∧ 0 ≤ 0 := ⟨Nat.le_refl _, Nat.le_refl _⟩
  by_cases c : a0.toInt < 0 ∨ x1.toInt < a0.toInt
  · have hr : aj_runs aj_rc aj_cls tb aj_mt (d + 1) 18 [.ref (52 + 0), .int a0] h 0 0 (some (.int (Int32.ofInt (-1)))) h := by
      refine ⟨aj_m18, aj_m18_at, Nat.le_of_ble_eq_true rfl, ?_⟩
      show aj_TF aj_rc aj_cls tb aj_m18 false true (aj_runs aj_rc aj_cls tb aj_mt d) 0 [(0, .ref (52 + 0)), (1, .int a0)] [] _ 0 0 0 0 _ _
      have fin : aj_TF aj_rc aj_cls tb aj_m18 false true (aj_runs aj_rc aj_cls tb aj_mt d) 12 [(0, .ref (52 + 0)), (1, .int a0)] [] h 0 0 0 0 (some (.int (Int32.ofInt (-1)))) h := by
        refine aj_tn aj_d18 hk rfl rfl ?_
        exact aj_te aj_d18 rfl rfl
      refine aj_tn aj_d18 hk rfl rfl ?_
      refine aj_tz (tgt := 12) aj_d18 hk rfl rfl (fun z => fin) (fun z => ?_)
      refine aj_tn aj_d18 hk rfl rfl ?_
      refine aj_tn aj_d18 hk rfl rfl ?_
      refine aj_tg aj_d18 hk rfl rfl (by decide) ho e1 ?_
      refine aj_tc (tgt := 14) aj_d18 hk rfl rfl (fun z2 => ?_) (fun z2 => fin)
      exfalso
      rw [aj_tst_le] at z2
      rw [aj_tst_lt] at z
      have z2 := of_decide_eq_true z2
      have z := of_decide_eq_false z
      have z : ¬ a0.toInt < 0 := z
      omega
    obtain ⟨rfl, rfl, z3⟩ := aj_runs_det _ _ _ _ _ _ _ _ _ _ _ _ k1 hr
    exact ⟨u, _, x1, _, k1, k2, k3.1, hrs, f1, Or.inl ⟨c, rfl, rfl⟩⟩
  · have l1 := (List.getElem?_eq_some_iff.mp e1).1
    have l0 := (List.getElem?_eq_some_iff.mp e0).1
    have hr : aj_runs aj_rc aj_cls tb aj_mt (d + 1) 18 [.ref (52 + 0), .int a0] h 0 0 (some (.int (x1 - a0))) (h.set 0 (.inr (10, fs.set 1 (.int (x1 - a0))))) := by
      refine ⟨aj_m18, aj_m18_at, Nat.le_of_ble_eq_true rfl, ?_⟩
      show aj_TF aj_rc aj_cls tb aj_m18 false true (aj_runs aj_rc aj_cls tb aj_mt d) 0 [(0, .ref (52 + 0)), (1, .int a0)] [] _ 0 0 0 0 _ _
      refine aj_tn aj_d18 hk rfl rfl ?_
      refine aj_tz (tgt := 12) aj_d18 hk rfl rfl (fun z => ?_) (fun z => ?_)
      · exfalso
        rw [aj_tst_lt] at z
        have z := of_decide_eq_true z
        have z : a0.toInt < 0 := z
        omega
      refine aj_tn aj_d18 hk rfl rfl ?_
      refine aj_tn aj_d18 hk rfl rfl ?_
      refine aj_tg aj_d18 hk rfl rfl (by decide) ho e1 ?_
      refine aj_tc (tgt := 14) aj_d18 hk rfl rfl (fun z2 => ?_) (fun z2 => ?_)
      rotate_left
      · exfalso
        rw [aj_tst_le] at z2
        have z2 := of_decide_eq_false z2
        omega
      refine aj_tn aj_d18 hk rfl rfl ?_
      refine aj_tn aj_d18 hk rfl rfl ?_
      refine aj_tg aj_d18 hk rfl rfl (by decide) ho e1 ?_
      refine aj_tn aj_d18 hk rfl rfl ?_
      refine aj_tn aj_d18 hk rfl rfl ?_
      refine aj_tp (q := ("DimShelf", aj_T10, 14, aj_F10)) aj_d18 hk rfl rfl (by decide) (Or.inl rfl) ho rfl l1 rfl ?_
      rw [show 52 + 0 - tb.length = 0 by omega]
      refine aj_tn aj_d18 hk rfl rfl ?_
      have ho2 : aj_obj tb (h.set 0 (.inr (10, fs.set 1 (.int (x1 - a0))))) (52 + 0) = some (10, fs.set 1 (.int (x1 - a0))) := by
        unfold aj_obj
        rw [if_neg (by omega), hlen]
        show (match (h.set 0 (.inr (10, fs.set 1 (.int (x1 - a0)))))[0]? with | some (.inr q) => some q | _ => none) = _
        rw [List.getElem?_set_self l0]
      refine aj_tg aj_d18 hk rfl rfl (by decide) ho2 (List.getElem?_set_self l1) ?_
      exact aj_te aj_d18 rfl rfl
    obtain ⟨rfl, rfl, z3⟩ := aj_runs_det _ _ _ _ _ _ _ _ _ _ _ _ k1 hr
    have es : (x1 - a0).toInt = x1.toInt - a0.toInt := by
      rw [Int32.toInt_sub]
      exact ak_bm (by omega) (by omega)
    refine ⟨u, _, x1 - a0, _, k1, k2, k3.1, hrs, ⟨_, List.getElem?_set_self l0, List.getElem?_set_self l1⟩, Or.inr ⟨by omega, es, es⟩⟩
end CWA32
