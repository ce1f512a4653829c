/-! feed of the class and of the reference -/
def aj_mPut : aj_M := (⟨"DimShelf", "put", "(I)V"⟩, aj_bc 665, 3, none, 1, aj_lk0, "DimShelf")
def aj_mFeed : aj_M := (⟨"DimShelf", "feed", "(IIIII)I"⟩, aj_bc 661, 6, some .int, 5, aj_lk0, "DimShelf")
def aj_mByteRow : aj_M := (⟨"DimShelfModel", "byteRow", "(I)V"⟩, aj_bc 1781, 3, none, 1, aj_lk14, "DimShelfModel")
def aj_mFeedM : aj_M := (⟨"DimShelfModel", "feed", "(IIIII)I"⟩, aj_bc 1777, 6, some .int, 5, aj_lk14, "DimShelfModel")
theorem aj_mPut_at : aj_mt[17]? = some aj_mPut := rfl
theorem aj_mFeed_at : aj_mt[16]? = some aj_mFeed := rfl
theorem aj_mByteRow_at : aj_mt[201]? = some aj_mByteRow := rfl
theorem aj_mFeedM_at : aj_mt[200]? = some aj_mFeedM := rfl
theorem aj_ctPut : aj_ctOK aj_c17 aj_mPut.2.1 := by
  unfold aj_mPut
  dsimp only
  exact aj_dk17
theorem aj_ctFeed : aj_ctOK aj_c16 aj_mFeed.2.1 := by
  unfold aj_mFeed
  dsimp only
  exact aj_dk16
theorem aj_ctByteRow : aj_ctOK aj_c201 aj_mByteRow.2.1 := by
  unfold aj_mByteRow
  dsimp only
  exact aj_dk201
theorem aj_ctFeedM : aj_ctOK aj_c200 aj_mFeedM.2.1 := by
  unfold aj_mFeedM
  dsimp only
  exact aj_dk200
/-- an object's cell and an array's of the list h, the object with field k at v, the array with contents f -/
def aj_hp (h : aj_H) (oi ti ci kd n k : Nat) (fs : List Value) (v : Int32) (f : Nat → Int32) : aj_H := (h.set ti (.inl (kd, n, .inl f))).set oi (.inr (ci, fs.set k (.int v)))
theorem aj_hp_o {h : aj_H} {oi ti ci kd n k : Nat} {fs : List Value} {v : Int32} {f : Nat → Int32} (ho : oi < h.length) : (aj_hp h oi ti ci kd n k fs v f)[oi]? = some (.inr (ci, fs.set k (.int v))) := by
  simp [aj_hp, List.getElem?_set, ho]
theorem aj_hp_t {h : aj_H} {oi ti ci kd n k : Nat} {fs : List Value} {v : Int32} {f : Nat → Int32} (ht : ti < h.length) (hne : oi ≠ ti) : (aj_hp h oi ti ci kd n k fs v f)[ti]? = some (.inl (kd, n, .inl f)) := by
  simp [aj_hp, List.getElem?_set, ht, hne]
theorem aj_hp_so {h : aj_H} {oi ti ci kd n k : Nat} {fs : List Value} {v w : Int32} {f : Nat → Int32} : (aj_hp h oi ti ci kd n k fs v f).set oi (.inr (ci, (fs.set k (.int v)).set k (.int w))) = aj_hp h oi ti ci kd n k fs w f := by
  simp [aj_hp, List.set_set]
theorem aj_hp_st {h : aj_H} {oi ti ci kd n k : Nat} {fs : List Value} {v : Int32} {f g : Nat → Int32} (hne : oi ≠ ti) : (aj_hp h oi ti ci kd n k fs v f).set ti (.inl (kd, n, .inl g)) = aj_hp h oi ti ci kd n k fs v g := by
  unfold aj_hp
  rw [List.set_comm _ _ hne, List.set_set]
theorem aj_hp_len {h : aj_H} {oi ti ci kd n k : Nat} {fs : List Value} {v : Int32} {f : Nat → Int32} : (aj_hp h oi ti ci kd n k fs v f).length = h.length := by simp [aj_hp]
theorem aj_in_nI {b n : Nat} (h : b < n) (h2 : b < 2 ^ 31) : aj_in (nI b) n = true := by
  unfold aj_in
  rw [nI_clamp h2]
  have h3 := nI_pos h2
  simp [h3, h]
theorem aj_hp_id {h : aj_H} {oi ti ci kd n k : Nat} {fs : List Value} {v : Int32} {f : Nat → Int32} (ho : h[oi]? = some (.inr (ci, fs))) (ht : h[ti]? = some (.inl (kd, n, .inl f))) (hk : fs[k]? = some (.int v)) : aj_hp h oi ti ci kd n k fs v f = h := by
  have e1 : fs.set k (.int v) = fs := by
    apply List.ext_getElem?
    intro j
    rw [List.getElem?_set]
    by_cases hj : k = j
    · subst hj
      rw [if_pos rfl, if_pos (List.getElem?_eq_some_iff.mp hk).1, hk]
    · simp [hj]
  unfold aj_hp
  rw [e1]
  apply List.ext_getElem?
  intro j
  simp only [List.getElem?_set, List.length_set]
  have l1 := (List.getElem?_eq_some_iff.mp ho).1
  have l2 := (List.getElem?_eq_some_iff.mp ht).1
  by_cases h1 : oi = j
  · subst h1
    rw [if_pos rfl, if_pos l1, ho]
  · by_cases h2 : ti = j
    · subst h2
      rw [if_neg h1, if_pos rfl, if_pos l2, ht]
    · simp [h1, h2]
section AJFEED
variable {tb : aj_T} {call : Nat → List Value → aj_H → Nat → Nat → Option Value → aj_H → Prop} {h : aj_H} {mc ms : Nat} {r : Option Value} {hF : aj_H} {deep : Bool}
/-- what put stores, byteRow stores -/
def aj_chr (w s : Int32) : Int32 := aj_nar 3 (((w >>> (s &&& 31)) &&& (Int16.ofInt 255).toInt32).toUInt32 % 65536).toInt32
def aj_byt (w s : Int32) : Int32 := aj_nar 4 ((w.toUInt32 >>> (((Int8.ofInt 8).toInt32 * s).toUInt32 &&& Int32.toUInt32 31)).toInt32).toInt8.toInt32
/-- one byte of put's loop -/
theorem aj_put1 (oi ti : Nat) (fs : List Value) (b : Nat) (f : Nat → Int32) (w s : Int32) (hs : aj_test .lt s 0 = false) (ho : oi < h.length) (ht : ti < h.length) (hne : oi ≠ ti) (hf0 : fs[0]? = some (.ref (tb.length + ti))) (hf1 : 1 < fs.length) (hb : b < 4000)
    (kk : aj_TF aj_rc aj_cls tb aj_mPut false deep call 3 [(2, .int (s + Int32.ofInt (-8))), (0, .ref (tb.length + oi)), (1, .int w)] [] (aj_hp h oi ti 10 3 4000 1 fs (nI (b + 1)) (upd f (nI b).toNatClampNeg (aj_chr w s))) 0 0 0 0 r hF) :
    aj_TF aj_rc aj_cls tb aj_mPut false deep call 3 [(2, .int s), (0, .ref (tb.length + oi)), (1, .int w)] [] (aj_hp h oi ti 10 3 4000 1 fs (nI b) f) 0 0 0 0 r hF := by
  have hk : 0 ≤ 0 ∧ 0 ≤ 0 := ⟨Nat.le_refl _, Nat.le_refl _⟩
  have e1 : ¬ tb.length + oi < tb.length := by omega
  have e2 : ¬ tb.length + ti < tb.length := by omega
  have eo : tb.length + oi - tb.length = oi := by omega
  have et : tb.length + ti - tb.length = ti := by omega
  have hobj : ∀ (v : Int32) (g : Nat → Int32), aj_obj tb (aj_hp h oi ti 10 3 4000 1 fs v g) (tb.length + oi) = some (10, fs.set 1 (.int v)) := fun v g => by
    unfold aj_obj
    rw [if_neg e1, eo, aj_hp_o ho]
  have harr : ∀ (v : Int32) (g : Nat → Int32), aj_arr tb (aj_hp h oi ti 10 3 4000 1 fs v g) (tb.length + ti) = some (3, 4000, .inl g) := fun v g => by
    unfold aj_arr
    rw [if_neg e2, et, aj_hp_t ht hne]
  have hv0 : ∀ v : Int32, (fs.set 1 (.int v))[0]? = some (.ref (tb.length + ti)) := fun v => by simp [List.getElem?_set, hf0]
  have hv1 : ∀ v : Int32, (fs.set 1 (.int v))[1]? = some (.int v) := fun v => by simp [List.getElem?_set, hf1]
  refine aj_tn aj_ctPut hk rfl rfl ?_
  refine aj_tz (tgt := 52) aj_ctPut hk rfl rfl (fun z => by rw [hs] at z; cases z) (fun _ => ?_)
  refine aj_tn aj_ctPut hk rfl rfl ?_
  refine aj_tg aj_ctPut hk rfl rfl (by decide) (hobj _ _) (hv1 _) ?_
  refine aj_tn aj_ctPut hk rfl rfl ?_
  refine aj_tg aj_ctPut hk rfl rfl (by decide) (hobj _ _) (hv0 _) ?_
  refine aj_tl aj_ctPut hk rfl (harr _ _) (by decide) ?_
  refine aj_tc (tgt := 46) aj_ctPut hk rfl rfl (fun z => ?_) (fun _ => ?_)
  · exfalso
    have z : decide ((Int32.ofNat 4000) ≤ nI b) = true := z
    exact nI_ge hb (by decide) (of_decide_eq_true z)
  refine aj_tn aj_ctPut hk rfl rfl ?_
  refine aj_tg aj_ctPut hk rfl rfl (by decide) (hobj _ _) (hv0 _) ?_
  refine aj_tn aj_ctPut hk rfl rfl ?_
  refine aj_tg aj_ctPut hk rfl rfl (by decide) (hobj _ _) (hv1 _) ?_
  refine aj_tn aj_ctPut hk rfl rfl ?_
  refine aj_tn aj_ctPut hk rfl rfl ?_
  refine aj_tn aj_ctPut hk rfl rfl ?_
  refine aj_tn aj_ctPut hk rfl rfl ?_
  refine aj_tn aj_ctPut hk rfl rfl ?_
  refine aj_tn aj_ctPut hk rfl rfl ?_
  refine aj_ts aj_ctPut hk (Or.inr (Or.inl ⟨rfl, rfl⟩)) rfl e2 (by rw [et]; exact aj_hp_t ht hne) (aj_in_nI hb (by omega)) ?_
  rw [et, aj_hp_st hne]
  refine aj_tn aj_ctPut hk rfl rfl ?_
  refine aj_tn aj_ctPut hk rfl rfl ?_
  refine aj_tg aj_ctPut hk rfl rfl (by decide) (hobj _ _) (hv1 _) ?_
  refine aj_tn aj_ctPut hk rfl rfl ?_
  refine aj_tn aj_ctPut hk rfl rfl ?_
  refine aj_tp (q := ("DimShelf", aj_T10, 14, aj_F10)) aj_ctPut hk rfl rfl (by decide) (Or.inl rfl) (hobj _ _) rfl (by simpa using hf1) rfl ?_
  rw [eo, aj_hp_so]
  refine aj_tn aj_ctPut hk rfl rfl ?_
  refine aj_tn aj_ctPut hk rfl rfl ?_
  have e9 : (fun x y : Int32 => x + y) (nI b) (Int32.ofInt 1) = nI (b + 1) := nI_1 b
  rw [e9]
  exact kk
def aj_w4 (ch : Int32 → Int32) (s dl : Int32) (f : Nat → Int32) (b : Nat) : Nat → Int32 := upd (upd (upd (upd f (nI b).toNatClampNeg (ch s)) (nI (b + 1)).toNatClampNeg (ch (s + dl))) (nI (b + 2)).toNatClampNeg (ch (s + dl + dl))) (nI (b + 3)).toNatClampNeg (ch (s + dl + dl + dl))
theorem aj_put_ok (d oi ti : Nat) (fs : List Value) (b : Nat) (f : Nat → Int32) (w : Int32) (ho : oi < h.length) (ht : ti < h.length) (hne : oi ≠ ti) (hf0 : fs[0]? = some (.ref (tb.length + ti))) (hf1 : 1 < fs.length) (hb : b + 4 ≤ 4000) :
    ∃ g, aj_runs aj_rc aj_cls tb aj_mt (d + 1) 17 [.ref (tb.length + oi), .int w] (aj_hp h oi ti 10 3 4000 1 fs (nI b) f) 0 0 none (aj_hp h oi ti 10 3 4000 1 fs (nI (b + 4)) g) := by
  have hk : 0 ≤ 0 ∧ 0 ≤ 0 := ⟨Nat.le_refl _, Nat.le_refl _⟩
  refine ⟨aj_w4 (aj_chr w) (Int8.ofInt 24).toInt32 (Int32.ofInt (-8)) f b, aj_mPut, aj_mPut_at, Nat.le_of_ble_eq_true rfl, ?_⟩
  show aj_TF aj_rc aj_cls tb aj_mPut false true (aj_runs aj_rc aj_cls tb aj_mt d) 0 [(0, .ref (tb.length + oi)), (1, .int w)] [] _ 0 0 0 0 none _
  refine aj_tn aj_ctPut hk rfl rfl ?_
  refine aj_tn aj_ctPut hk rfl rfl ?_
  refine aj_put1 oi ti fs b f w _ rfl ho ht hne hf0 hf1 (by omega) ?_
  refine aj_put1 oi ti fs (b + 1) _ w _ rfl ho ht hne hf0 hf1 (by omega) ?_
  refine aj_put1 oi ti fs (b + 2) _ w _ rfl ho ht hne hf0 hf1 (by omega) ?_
  refine aj_put1 oi ti fs (b + 3) _ w _ rfl ho ht hne hf0 hf1 (by omega) ?_
  refine aj_tn aj_ctPut hk rfl rfl ?_
  refine aj_tz (tgt := 52) aj_ctPut hk rfl rfl (fun _ => ?_) (fun z => by exact absurd z (by decide))
  exact aj_te aj_ctPut rfl rfl
theorem aj_row1 (oi ti : Nat) (fs : List Value) (b : Nat) (f : Nat → Int32) (w s : Int32) (hs : aj_test .lt s 0 = false) (ho : oi < h.length) (ht : ti < h.length) (hne : oi ≠ ti) (hf0 : fs[22]? = some (.ref (tb.length + ti))) (hf1 : 23 < fs.length) (hb : b < 4000)
    (kk : aj_TF aj_rc aj_cls tb aj_mByteRow false deep call 2 [(2, .int (s + Int32.ofInt (-1))), (0, .ref (tb.length + oi)), (1, .int w)] [] (aj_hp h oi ti 11 4 4000 23 fs (nI (b + 1)) (upd f (nI b).toNatClampNeg (aj_byt w s))) 0 0 0 0 r hF) :
    aj_TF aj_rc aj_cls tb aj_mByteRow false deep call 2 [(2, .int s), (0, .ref (tb.length + oi)), (1, .int w)] [] (aj_hp h oi ti 11 4 4000 23 fs (nI b) f) 0 0 0 0 r hF := by
  have hk : 0 ≤ 0 ∧ 0 ≤ 0 := ⟨Nat.le_refl _, Nat.le_refl _⟩
  have e1 : ¬ tb.length + oi < tb.length := by omega
  have e2 : ¬ tb.length + ti < tb.length := by omega
  have eo : tb.length + oi - tb.length = oi := by omega
  have et : tb.length + ti - tb.length = ti := by omega
  have hobj : ∀ (v : Int32) (g : Nat → Int32), aj_obj tb (aj_hp h oi ti 11 4 4000 23 fs v g) (tb.length + oi) = some (11, fs.set 23 (.int v)) := fun v g => by
    unfold aj_obj
    rw [if_neg e1, eo, aj_hp_o ho]
  have hv0 : ∀ v : Int32, (fs.set 23 (.int v))[22]? = some (.ref (tb.length + ti)) := fun v => by simp [List.getElem?_set, hf0]
  have hv1 : ∀ v : Int32, (fs.set 23 (.int v))[23]? = some (.int v) := fun v => by simp [List.getElem?_set, hf1]
  refine aj_tn aj_ctByteRow hk rfl rfl ?_
  refine aj_tz (tgt := 38) aj_ctByteRow hk rfl rfl (fun z => by rw [hs] at z; cases z) (fun _ => ?_)
  refine aj_tn aj_ctByteRow hk rfl rfl ?_
  refine aj_tg aj_ctByteRow hk rfl rfl (by decide) (hobj _ _) (hv0 _) ?_
  refine aj_tn aj_ctByteRow hk rfl rfl ?_
  refine aj_tg aj_ctByteRow hk rfl rfl (by decide) (hobj _ _) (hv1 _) ?_
  refine aj_tn aj_ctByteRow hk rfl rfl ?_
  refine aj_tn aj_ctByteRow hk rfl rfl ?_
  refine aj_tn aj_ctByteRow hk rfl rfl ?_
  refine aj_tn aj_ctByteRow hk rfl rfl ?_
  refine aj_tn aj_ctByteRow hk rfl rfl ?_
  refine aj_tn aj_ctByteRow hk rfl rfl ?_
  refine aj_ts aj_ctByteRow hk (Or.inr (Or.inr (Or.inr ⟨rfl, rfl⟩))) rfl e2 (by rw [et]; exact aj_hp_t ht hne) (aj_in_nI hb (by omega)) ?_
  rw [et, aj_hp_st hne]
  refine aj_tn aj_ctByteRow hk rfl rfl ?_
  refine aj_tn aj_ctByteRow hk rfl rfl ?_
  refine aj_tg aj_ctByteRow hk rfl rfl (by decide) (hobj _ _) (hv1 _) ?_
  refine aj_tn aj_ctByteRow hk rfl rfl ?_
  refine aj_tn aj_ctByteRow hk rfl rfl ?_
  refine aj_tp (q := ("DimShelfModel", aj_T11, 72, aj_F11)) aj_ctByteRow hk rfl rfl (by decide) (Or.inl rfl) (hobj _ _) rfl (by simpa using hf1) rfl ?_
  rw [eo, aj_hp_so]
  refine aj_tn aj_ctByteRow hk rfl rfl ?_
  refine aj_tn aj_ctByteRow hk rfl rfl ?_
  have e9 : (fun x y : Int32 => x + y) (nI b) (Int32.ofInt 1) = nI (b + 1) := nI_1 b
  rw [e9]
  exact kk
theorem aj_row_ok (d oi ti : Nat) (fs : List Value) (b : Nat) (f : Nat → Int32) (w : Int32) (ho : oi < h.length) (ht : ti < h.length) (hne : oi ≠ ti) (hf0 : fs[22]? = some (.ref (tb.length + ti))) (hf1 : 23 < fs.length) (hb : b + 4 ≤ 4000) :
    ∃ g, aj_runs aj_rc aj_cls tb aj_mt (d + 1) 201 [.ref (tb.length + oi), .int w] (aj_hp h oi ti 11 4 4000 23 fs (nI b) f) 0 0 none (aj_hp h oi ti 11 4 4000 23 fs (nI (b + 4)) g) := by
  have hk : 0 ≤ 0 ∧ 0 ≤ 0 := ⟨Nat.le_refl _, Nat.le_refl _⟩
  refine ⟨aj_w4 (aj_byt w) (Int32.ofInt 3) (Int32.ofInt (-1)) f b, aj_mByteRow, aj_mByteRow_at, Nat.le_of_ble_eq_true rfl, ?_⟩
  show aj_TF aj_rc aj_cls tb aj_mByteRow false true (aj_runs aj_rc aj_cls tb aj_mt d) 0 [(0, .ref (tb.length + oi)), (1, .int w)] [] _ 0 0 0 0 none _
  refine aj_tn aj_ctByteRow hk rfl rfl ?_
  refine aj_tn aj_ctByteRow hk rfl rfl ?_
  refine aj_row1 oi ti fs b f w _ rfl ho ht hne hf0 hf1 (by omega) ?_
  refine aj_row1 oi ti fs (b + 1) _ w _ rfl ho ht hne hf0 hf1 (by omega) ?_
  refine aj_row1 oi ti fs (b + 2) _ w _ rfl ho ht hne hf0 hf1 (by omega) ?_
  refine aj_row1 oi ti fs (b + 3) _ w _ rfl ho ht hne hf0 hf1 (by omega) ?_
  refine aj_tn aj_ctByteRow hk rfl rfl ?_
  refine aj_tz (tgt := 38) aj_ctByteRow hk rfl rfl (fun _ => ?_) (fun z => by exact absurd z (by decide))
  exact aj_te aj_ctByteRow rfl rfl
theorem aj_feed_ok (d oi ti : Nat) (fs : List Value) (b : Nat) (f : Nat → Int32) (w1 w2 w3 w4 w5 : Int32) (ho : oi < h.length) (ht : ti < h.length) (hne : oi ≠ ti) (hf0 : fs[0]? = some (.ref (tb.length + ti))) (hf1 : 1 < fs.length) (hb : b + 20 ≤ 4000) :
    ∃ g, aj_runs aj_rc aj_cls tb aj_mt (d + 2) 16 [.ref (tb.length + oi), .int w1, .int w2, .int w3, .int w4, .int w5] (aj_hp h oi ti 10 3 4000 1 fs (nI b) f) 0 0 (some (.int (nI (b + 20)))) (aj_hp h oi ti 10 3 4000 1 fs (nI (b + 20)) g) := by
  have hk : 0 ≤ 0 ∧ 0 ≤ 0 := ⟨Nat.le_refl _, Nat.le_refl _⟩
  have e1 : ¬ tb.length + oi < tb.length := by omega
  have eo : tb.length + oi - tb.length = oi := by omega
  have hobj : ∀ (v : Int32) (g : Nat → Int32), aj_obj tb (aj_hp h oi ti 10 3 4000 1 fs v g) (tb.length + oi) = some (10, fs.set 1 (.int v)) := fun v g => by
    unfold aj_obj
    rw [if_neg e1, eo, aj_hp_o ho]
  have hv1 : ∀ v : Int32, (fs.set 1 (.int v))[1]? = some (.int v) := fun v => by simp [List.getElem?_set, hf1]
  obtain ⟨g1, h1⟩ := aj_put_ok (tb := tb) d oi ti fs b f w1 ho ht hne hf0 hf1 (by omega)
  obtain ⟨g2, h2⟩ := aj_put_ok (tb := tb) d oi ti fs (b + 4) g1 w2 ho ht hne hf0 hf1 (by omega)
  obtain ⟨g3, h3⟩ := aj_put_ok (tb := tb) d oi ti fs (b + 4 + 4) g2 w3 ho ht hne hf0 hf1 (by omega)
  obtain ⟨g4, h4⟩ := aj_put_ok (tb := tb) d oi ti fs (b + 4 + 4 + 4) g3 w4 ho ht hne hf0 hf1 (by omega)
  obtain ⟨g5, h5⟩ := aj_put_ok (tb := tb) d oi ti fs (b + 4 + 4 + 4 + 4) g4 w5 ho ht hne hf0 hf1 (by omega)
  refine ⟨g5, aj_mFeed, aj_mFeed_at, Nat.le_of_ble_eq_true rfl, ?_⟩
  show aj_TF aj_rc aj_cls tb aj_mFeed false true (aj_runs aj_rc aj_cls tb aj_mt (d + 1)) 0 [(0, .ref (tb.length + oi)), (1, .int w1), (2, .int w2), (3, .int w3), (4, .int w4), (5, .int w5)] [] _ 0 0 0 0 _ _
  refine aj_tn aj_ctFeed hk rfl rfl ?_
  refine aj_tg aj_ctFeed hk rfl rfl (by decide) (hobj _ _) (hv1 _) ?_
  refine aj_tn aj_ctFeed hk rfl rfl ?_
  refine aj_tc (tgt := 12) aj_ctFeed hk rfl rfl (fun _ => ?_) (fun z => ?_)
  rotate_left
  · exfalso
    have z : decide (nI b ≤ nI 3980) = false := z
    exact of_decide_eq_false z (nI_le (by omega) (by decide))
  refine aj_tn aj_ctFeed hk rfl rfl ?_
  refine aj_tn aj_ctFeed hk rfl rfl ?_
  refine aj_tiv aj_ctFeed rfl rfl [.int w1] rfl rfl (hobj _ _) rfl (by decide) rfl h1 (by simp [aj_hp_len]) hk ?_
  refine aj_tn aj_ctFeed hk rfl rfl ?_
  refine aj_tn aj_ctFeed hk rfl rfl ?_
  refine aj_tiv aj_ctFeed rfl rfl [.int w2] rfl rfl (hobj _ _) rfl (by decide) rfl h2 (by simp [aj_hp_len]) hk ?_
  refine aj_tn aj_ctFeed hk rfl rfl ?_
  refine aj_tn aj_ctFeed hk rfl rfl ?_
  refine aj_tiv aj_ctFeed rfl rfl [.int w3] rfl rfl (hobj _ _) rfl (by decide) rfl h3 (by simp [aj_hp_len]) hk ?_
  refine aj_tn aj_ctFeed hk rfl rfl ?_
  refine aj_tn aj_ctFeed hk rfl rfl ?_
  refine aj_tiv aj_ctFeed rfl rfl [.int w4] rfl rfl (hobj _ _) rfl (by decide) rfl h4 (by simp [aj_hp_len]) hk ?_
  refine aj_tn aj_ctFeed hk rfl rfl ?_
  refine aj_tn aj_ctFeed hk rfl rfl ?_
  refine aj_tiv aj_ctFeed rfl rfl [.int w5] rfl rfl (hobj _ _) rfl (by decide) rfl h5 (by simp [aj_hp_len]) hk ?_
  refine aj_tn aj_ctFeed hk rfl rfl ?_
  refine aj_tg aj_ctFeed hk rfl rfl (by decide) (hobj _ _) (hv1 _) ?_
  exact aj_te aj_ctFeed rfl rfl
theorem aj_feedM_ok (d oi ti : Nat) (fs : List Value) (b : Nat) (f : Nat → Int32) (w1 w2 w3 w4 w5 : Int32) (ho : oi < h.length) (ht : ti < h.length) (hne : oi ≠ ti) (hf0 : fs[22]? = some (.ref (tb.length + ti))) (hf1 : 23 < fs.length) (hb : b + 20 ≤ 4000) :
    ∃ g, aj_runs aj_rc aj_cls tb aj_mt (d + 2) 200 [.ref (tb.length + oi), .int w1, .int w2, .int w3, .int w4, .int w5] (aj_hp h oi ti 11 4 4000 23 fs (nI b) f) 0 0 (some (.int (nI (b + 20)))) (aj_hp h oi ti 11 4 4000 23 fs (nI (b + 20)) g) := by
  have hk : 0 ≤ 0 ∧ 0 ≤ 0 := ⟨Nat.le_refl _, Nat.le_refl _⟩
  have e1 : ¬ tb.length + oi < tb.length := by omega
  have eo : tb.length + oi - tb.length = oi := by omega
  have hobj : ∀ (v : Int32) (g : Nat → Int32), aj_obj tb (aj_hp h oi ti 11 4 4000 23 fs v g) (tb.length + oi) = some (11, fs.set 23 (.int v)) := fun v g => by
    unfold aj_obj
    rw [if_neg e1, eo, aj_hp_o ho]
  have hv1 : ∀ v : Int32, (fs.set 23 (.int v))[23]? = some (.int v) := fun v => by simp [List.getElem?_set, hf1]
  obtain ⟨g1, h1⟩ := aj_row_ok (tb := tb) d oi ti fs b f w1 ho ht hne hf0 hf1 (by omega)
  obtain ⟨g2, h2⟩ := aj_row_ok (tb := tb) d oi ti fs (b + 4) g1 w2 ho ht hne hf0 hf1 (by omega)
  obtain ⟨g3, h3⟩ := aj_row_ok (tb := tb) d oi ti fs (b + 4 + 4) g2 w3 ho ht hne hf0 hf1 (by omega)
  obtain ⟨g4, h4⟩ := aj_row_ok (tb := tb) d oi ti fs (b + 4 + 4 + 4) g3 w4 ho ht hne hf0 hf1 (by omega)
  obtain ⟨g5, h5⟩ := aj_row_ok (tb := tb) d oi ti fs (b + 4 + 4 + 4 + 4) g4 w5 ho ht hne hf0 hf1 (by omega)
  refine ⟨g5, aj_mFeedM, aj_mFeedM_at, Nat.le_of_ble_eq_true rfl, ?_⟩
  show aj_TF aj_rc aj_cls tb aj_mFeedM false true (aj_runs aj_rc aj_cls tb aj_mt (d + 1)) 0 [(0, .ref (tb.length + oi)), (1, .int w1), (2, .int w2), (3, .int w3), (4, .int w4), (5, .int w5)] [] _ 0 0 0 0 _ _
  refine aj_tn aj_ctFeedM hk rfl rfl ?_
  refine aj_tg aj_ctFeedM hk rfl rfl (by decide) (hobj _ _) (hv1 _) ?_
  refine aj_tn aj_ctFeedM hk rfl rfl ?_
  refine aj_tn aj_ctFeedM hk rfl rfl ?_
  refine aj_tn aj_ctFeedM hk rfl rfl ?_
  refine aj_tc (tgt := 15) aj_ctFeedM hk rfl rfl (fun _ => ?_) (fun z => ?_)
  rotate_left
  · exfalso
    have z : decide (nI b + nI 20 ≤ nI 4000) = false := z
    rw [nI_add] at z
    exact of_decide_eq_false z (nI_le (by omega) (by decide))
  refine aj_tn aj_ctFeedM hk rfl rfl ?_
  refine aj_tn aj_ctFeedM hk rfl rfl ?_
  refine aj_tiv aj_ctFeedM rfl rfl [.int w1] rfl rfl (hobj _ _) rfl (by decide) rfl h1 (by simp [aj_hp_len]) hk ?_
  refine aj_tn aj_ctFeedM hk rfl rfl ?_
  refine aj_tn aj_ctFeedM hk rfl rfl ?_
  refine aj_tiv aj_ctFeedM rfl rfl [.int w2] rfl rfl (hobj _ _) rfl (by decide) rfl h2 (by simp [aj_hp_len]) hk ?_
  refine aj_tn aj_ctFeedM hk rfl rfl ?_
  refine aj_tn aj_ctFeedM hk rfl rfl ?_
  refine aj_tiv aj_ctFeedM rfl rfl [.int w3] rfl rfl (hobj _ _) rfl (by decide) rfl h3 (by simp [aj_hp_len]) hk ?_
  refine aj_tn aj_ctFeedM hk rfl rfl ?_
  refine aj_tn aj_ctFeedM hk rfl rfl ?_
  refine aj_tiv aj_ctFeedM rfl rfl [.int w4] rfl rfl (hobj _ _) rfl (by decide) rfl h4 (by simp [aj_hp_len]) hk ?_
  refine aj_tn aj_ctFeedM hk rfl rfl ?_
  refine aj_tn aj_ctFeedM hk rfl rfl ?_
  refine aj_tiv aj_ctFeedM rfl rfl [.int w5] rfl rfl (hobj _ _) rfl (by decide) rfl h5 (by simp [aj_hp_len]) hk ?_
  refine aj_tn aj_ctFeedM hk rfl rfl ?_
  refine aj_tg aj_ctFeedM hk rfl rfl (by decide) (hobj _ _) (hv1 _) ?_
  exact aj_te aj_ctFeedM rfl rfl
end AJFEED
