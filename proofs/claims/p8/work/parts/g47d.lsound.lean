/-! THE SECOND LAYER, A STEP KEEPS IT -/
def ak_ok32 (lo hi : Int) : Bool := decide (-2147483648 ≤ lo) && decide (hi ≤ 2147483647)
def ak_top (i : Instr) (a : ak_AS) (X : ak_X) : Option ak_E := match i with
  | .iconst n => if -2147483648 ≤ n ∧ n < 2147483648 then some ([], n) else none
  | .bipush n => if -128 ≤ n ∧ n < 128 then some ([], n) else none
  | .sipush n => if -32768 ≤ n ∧ n < 32768 then some ([], n) else none
  | .iadd => match a.2.1, X with
    | (.inl q, _) :: (.inl p, _) :: _, some e2 :: some e1 :: _ => if ak_ok32 (p.1 + q.1) (p.2 + q.2) = true then some (ak_addE e1 e2) else none
    | _, _ => none
  | .isub => match a.2.1, X with
    | (.inl q, _) :: (.inl p, _) :: _, some e2 :: some e1 :: _ => if ak_ok32 (p.1 - q.2) (p.2 - q.1) = true then some (ak_subE e1 e2) else none
    | _, _ => none
  | .imul => match a.2.1, X with
    | (.inl q, _) :: (.inl p, _) :: _, some e2 :: some e1 :: _ => if ak_ok32 (ak_mn (ak_mn (p.1 * q.1) (p.1 * q.2)) (ak_mn (p.2 * q.1) (p.2 * q.2))) (ak_mx (ak_mx (p.1 * q.1) (p.1 * q.2)) (ak_mx (p.2 * q.1) (p.2 * q.2))) = true then (if e2.1 = [] then some (ak_scl e2.2 e1) else if e1.1 = [] then some (ak_scl e1.2 e2) else none) else none
    | _, _ => none
  | _ => none
def ak_hd (a : ak_AS) : Option ak_E := match a.2.1 with
  | (.inl _, some (.inl j)) :: _ => some ([((0, j, 0), 1)], 0)
  | (.inl _, some (.inr q)) :: _ => some ([((1, q.1, q.2), 1)], 0)
  | _ => none
def ak_safe1 (a : ak_AS) (k j : Nat) : Bool := decide (j ≠ k) && (decide (j + 1 ≠ k) || (match ak_lkL a.1 j with
  | some (x, _) => ak_cat x == 1
  | none => false))
def ak_ch1 (a : ak_AS) (k : Nat) : ak_Ch := fun t => if t.1 = 0 ∨ t.1 = 1 then (if ak_safe1 a k t.2.1 = true then some (0, 0) else none) else some (0, 0)
def ak_ch2 (a : ak_AS) (k : Nat) : ak_Ch := fun t => if t.1 = 0 ∨ t.1 = 1 then (if ak_safe1 a k t.2.1 = true ∧ t.2.1 ≠ k + 1 then some (0, 0) else none) else some (0, 0)
def ak_chi (a : ak_AS) (k : Nat) (n : Int) : ak_Ch := fun t => if t.1 = 0 ∧ t.2.1 = k then (match ak_lkL a.1 k with
  | some (.inl q, _) => if ak_ok32 (q.1 + n) (q.2 + n) = true ∧ -2147483648 ≤ n ∧ n < 2147483648 then some (n, n) else none
  | _ => none) else ak_ch1 a k t
def ak_recv (a : ak_AS) : Option Nat := match a.2.1 with
  | _ :: (_, p) :: _ => ak_loc p
  | _ => none
def ak_sh (X : ak_X) (j f : Nat) : Option Int := match X with
  | some e :: _ => if e.1 = [((1, j, f), 1)] then some e.2 else none
  | _ => none
def ak_chp (a : ak_AS) (X : ak_X) (f : Nat) : ak_Ch := fun t => if t.1 = 1 ∧ t.2.2 = f then (if ak_recv a = some t.2.1 then (ak_sh X t.2.1 f).map (fun z => (z, z)) else none) else some (0, 0)
def ak_ch0 : ak_Ch := fun _ => some (0, 0)
def ak_fld (lk : List aj_L) (idx : Nat) : Nat := match aj_link lk idx with
  | some (_, _, k, _) => k
  | none => 0
def ak_chg (lk : List aj_L) (i : Instr) (a : ak_AS) (X : ak_X) : ak_Ch := match i with
  | .istore_n k => ak_ch1 a k
  | .istore k => ak_ch1 a k
  | .astore_n k => ak_ch1 a k
  | .astore k => ak_ch1 a k
  | .lstore_n k => ak_ch2 a k
  | .lstore k => ak_ch2 a k
  | .iinc k n => ak_chi a k n
  | .putfield idx => ak_chp a X (ak_fld lk idx)
  | _ => ak_ch0
/-- an atom is so much -/
def ak_eqs (t : ak_At) (e : Option ak_E) : List ak_E := match e with
  | some e => [ak_subE e ([(t, 1)], 0), ak_subE ([(t, 1)], 0) e]
  | none => []
def ak_tst (c : ClassFile.Cond) (e1 e2 : ak_E) : List ak_E := match c with
  | .eq => [ak_subE e1 e2, ak_subE e2 e1]
  | .ne => []
  | .lt => [ak_subE (ak_subE e2 e1) ([], 1)]
  | .ge => [ak_subE e1 e2]
  | .gt => [ak_subE (ak_subE e1 e2) ([], 1)]
  | .le => [ak_subE e2 e1]
def ak_brf (c : ClassFile.Cond) (off : Int) (pc pc' : Nat) (e1 e2 : ak_E) : List ak_E := if ((pc : Int) + off).toNat = pc + 3 then [] else if pc' = pc + 3 then ak_tst (ak_neg c) e1 e2 else ak_tst c e1 e2
def ak_x0 (X : ak_X) : Option ak_E := match X with
  | o :: _ => o
  | [] => none
def ak_nf (lk : List aj_L) (i : Instr) (pc pc' : Nat) (a : ak_AS) (X : ak_X) : List ak_E := match i with
  | .istore_n k => ak_eqs (0, k, 0) ((ak_x0 X).bind (ak_mvX (ak_ch1 a k)))
  | .istore k => ak_eqs (0, k, 0) ((ak_x0 X).bind (ak_mvX (ak_ch1 a k)))
  | .putfield idx => match ak_recv a with
    | some j => if (ak_sh X j (ak_fld lk idx)).isSome = true then [] else ak_eqs (1, j, ak_fld lk idx) ((ak_x0 X).bind (ak_mvX (ak_chp a X (ak_fld lk idx))))
    | none => []
  | .if_icmp c off => match X with
    | some e2 :: some e1 :: _ => ak_brf c off pc pc' e1 e2
    | _ => []
  | .ifCond c off => match X with
    | some e1 :: _ => ak_brf c off pc pc' e1 ([], 0)
    | _ => []
  | _ => []
def ak_rn (lk : List aj_L) (i : Instr) (pc pc' : Nat) (a : ak_AS) (X : ak_X) (R : List ak_E) : List ak_E := ak_nf lk i pc pc' a X ++ R.filterMap (ak_mvF (ak_chg lk i a X))
def ak_xn (lk : List aj_L) (i : Instr) (a a' : ak_AS) (X : ak_X) : ak_X := match i, X with
  | .dup, o :: Y => o :: o :: Y
  | _, _ => match ak_pp i with
    | some (p, q + 1) => (match ak_top i a X with
      | some e => some e
      | none => ak_hd a') :: (List.replicate q none ++ X.drop p)
    | some (p, 0) => (X.drop p).map (fun o => o.bind (ak_mvX (ak_chg lk i a X)))
    | none => []
section AKLS
variable {T : ak_TT} {M : ak_Mo} {s : List Nat} {tb : aj_T} {h h' : aj_H} {old : Nat → Int} {lv lv' : aj_V} {st st' : List Value} {a a' : ak_AS} {v w : Value} {pc pc' len : Nat} {lk : List aj_L} {gh : Nat → Int} {X : ak_X} {R : List ak_E} {i : Instr}
theorem ak_val_same {t : ak_At} (hl : (t.1 = 0 ∨ t.1 = 1) → aj_lv lv' t.2.1 = aj_lv lv t.2.1) (ho : ∀ r, aj_obj tb h' r = aj_obj tb h r) : ak_val tb h' lv' gh t = ak_val tb h lv gh t := by
  unfold ak_val
  split
  · rename_i h0
    unfold ak_iv
    rw [hl (Or.inl h0)]
  · split
    · rename_i h0 h1
      rw [hl (Or.inr h1)]
      unfold ak_fv
      split
      · rw [ho]
      · rfl
    · rfl
theorem ak_lv_none {k j : Nat} (hx : aj_lv lv j = none) (hj : j ≠ k) (f : Nat × Value → Bool) : aj_lv ((k, v) :: lv.filter f) j = none := by
  unfold aj_lv at hx ⊢
  have hx := Option.map_eq_none_iff.mp hx
  rw [List.find?_eq_none] at hx
  have hk : ((k, v).1 == j) = false := beq_eq_false_iff_ne.mpr (Ne.symm hj)
  rw [Option.map_eq_none_iff, List.find?_cons, hk, List.find?_eq_none]
  intro q hq
  exact hx q (List.mem_filter.mp hq).1
theorem ak_safe1_ok (ha : ak_gAS s tb h old lv st a) {k j : Nat} (h0 : ak_safe1 a k j = true) : j ≠ k ∧ (j + 1 = k → ∃ w, aj_lv lv j = some w ∧ w.category ≠ 2) := by
  unfold ak_safe1 at h0
  rw [Bool.and_eq_true, Bool.or_eq_true, decide_eq_true_eq, decide_eq_true_eq] at h0
  refine ⟨h0.1, fun hk => ?_⟩
  rcases h0.2 with z | z
  · exact absurd hk z
  · split at z
    · rename_i x o hx
      obtain ⟨w, k1, k2, -⟩ := ak_lkL_ok ha.1 hx
      refine ⟨w, k1, ?_⟩
      rw [ak_gcat k2]
      have : ak_cat x = 1 := by simpa using z
      omega
    · cases z
theorem ak_set1_same (ha : ak_gAS s tb h old lv st a) {k j : Nat} (h0 : ak_safe1 a k j = true) : aj_lv (aj_set1 lv k v) j = aj_lv lv j := by
  obtain ⟨h1, h2⟩ := ak_safe1_ok ha h0
  cases hx : aj_lv lv j with
  | none => exact ak_lv_none hx h1 _
  | some w =>
    refine ak_set1_ne hx h1 fun hk => ?_
    obtain ⟨w', e1, e2⟩ := h2 hk
    rw [hx] at e1
    cases e1
    exact e2
theorem ak_set2_same (ha : ak_gAS s tb h old lv st a) {k j : Nat} (h0 : ak_safe1 a k j = true) (hj : j ≠ k + 1) : aj_lv (aj_set2 lv k v) j = aj_lv lv j := by
  obtain ⟨h1, h2⟩ := ak_safe1_ok ha h0
  cases hx : aj_lv lv j with
  | none => exact ak_lv_none hx h1 _
  | some w =>
    refine ak_set2_ne hx h1 hj fun hk => ?_
    obtain ⟨w', e1, e2⟩ := h2 hk
    rw [hx] at e1
    cases e1
    exact e2
theorem ak_ch_eq {x y : ak_At → Int} {t : ak_At} {q : Int × Int} (he : y t = x t) (hq : some (0, 0) = some q) : q.1 ≤ y t - x t ∧ y t - x t ≤ q.2 := by
  cases hq
  dsimp only
  omega
theorem ak_ch1_ok (ha : ak_gAS s tb h old lv st a) (k : Nat) : ak_chOK (ak_ch1 a k) (ak_val tb h lv gh) (ak_val tb h (aj_set1 lv k v) gh) := by
  intro t q hq
  unfold ak_ch1 at hq
  split at hq
  · split at hq
    · rename_i h1 h2
      exact ak_ch_eq (ak_val_same (fun _ => ak_set1_same ha h2) fun _ => rfl) hq
    · cases hq
  · rename_i h1
    exact ak_ch_eq (ak_val_same (fun z => absurd z h1) fun _ => rfl) hq
theorem ak_ch2_ok (ha : ak_gAS s tb h old lv st a) (k : Nat) : ak_chOK (ak_ch2 a k) (ak_val tb h lv gh) (ak_val tb h (aj_set2 lv k v) gh) := by
  intro t q hq
  unfold ak_ch2 at hq
  split at hq
  · split at hq
    · rename_i h1 h2
      exact ak_ch_eq (ak_val_same (fun _ => ak_set2_same ha h2.1 h2.2) fun _ => rfl) hq
    · cases hq
  · rename_i h1
    exact ak_ch_eq (ak_val_same (fun z => absurd z h1) fun _ => rfl) hq
theorem ak_chi_ok (ha : ak_gAS s tb h old lv st a) {k : Nat} {n : Int} {x : Int32} (hx : aj_lv lv k = some (.int x)) : ak_chOK (ak_chi a k n) (ak_val tb h lv gh) (ak_val tb h (aj_set1 lv k (.int (x + Int32.ofInt n))) gh) := by
  intro t q hq
  unfold ak_chi at hq
  split at hq
  · rename_i h1
    split at hq
    · rename_i q' o hL
      split at hq
      · rename_i h2
        cases hq
        obtain ⟨w, k1, k2, -⟩ := ak_lkL_ok ha.1 hL
        rw [hx] at k1
        cases k1
        have k2 : q'.1 ≤ x.toInt ∧ x.toInt ≤ q'.2 := k2
        unfold ak_ok32 at h2
        rw [Bool.and_eq_true, decide_eq_true_eq, decide_eq_true_eq] at h2
        have hn : (Int32.ofInt n).toInt = n := Int32.toInt_ofInt_of_le (by omega) (by omega)
        have e : (x + Int32.ofInt n).toInt = x.toInt + n := by
          rw [Int32.toInt_add, hn, ak_bm (by omega) (by omega)]
        have e1 : ak_val tb h (aj_set1 lv k (.int (x + Int32.ofInt n))) gh t = x.toInt + n := by
          unfold ak_val
          rw [if_pos h1.1, h1.2]
          unfold ak_iv
          rw [ak_set1_eq, ← e]
        have e2 : ak_val tb h lv gh t = x.toInt := by
          unfold ak_val
          rw [if_pos h1.1, h1.2]
          unfold ak_iv
          rw [hx]
        rw [e1, e2]
        dsimp only
        omega
      · cases hq
    · cases hq
  · exact ak_ch1_ok ha k t q hq
theorem ak_ch0_ok (hl : lv' = lv) (ho : ∀ r, aj_obj tb h' r = aj_obj tb h r) : ak_chOK ak_ch0 (ak_val tb h lv gh) (ak_val tb h' lv' gh) := by
  intro t q hq
  exact ak_ch_eq (ak_val_same (fun _ => by rw [hl]) ho) hq
theorem ak_gX_mv {x y : ak_At → Int} {ch : ak_Ch} (hc : ak_chOK ch x y) (hX : ak_gX x X st) : ak_gX y (X.map (fun o => o.bind (ak_mvX ch))) st := by
  intro j e hj
  rw [List.getElem?_map] at hj
  obtain ⟨o, h1, h2⟩ := Option.map_eq_some_iff.mp hj
  cases o with
  | none => cases h2
  | some e0 =>
    obtain ⟨z, k1, k2⟩ := hX j e0 h1
    exact ⟨z, k1, by rw [ak_mvX_ok hc h2]; exact k2⟩
theorem ak_gX_drop {x : ak_At → Int} (hX : ak_gX x X st) (n : Nat) : ak_gX x (X.drop n) (st.drop n) := by
  intro j e hj
  rw [List.getElem?_drop] at hj
  rw [List.getElem?_drop]
  exact hX _ _ hj
theorem ak_gR_mv {x y : ak_At → Int} {ch : ak_Ch} (hc : ak_chOK ch x y) (hR : ak_gR2 x R) : ak_gR2 y (R.filterMap (ak_mvF ch)) := by
  intro e he
  obtain ⟨f, h1, h2⟩ := List.mem_filterMap.mp he
  exact ak_mvF_ok hc h2 (hR f h1)
theorem ak_eqs_ok {x : ak_At → Int} {t : ak_At} {o : Option ak_E} (hx : ∀ e, o = some e → x t = ak_evE x e) : ak_gR2 x (ak_eqs t o) := by
  unfold ak_eqs
  have e1 : ak_evE x ([(t, 1)], 0) = x t := by
    unfold ak_evE
    simp [ak_ev]
  split
  · rename_i e
    have k := hx e rfl
    intro f hf
    rcases List.mem_cons.mp hf with rfl | hf
    · rw [ak_subE_ok, e1, k]
      omega
    · cases List.mem_singleton.mp hf
      rw [ak_subE_ok, e1, k]
      omega
  · intro f hf
    cases hf
theorem ak_tst_ok {x : ak_At → Int} {c : ClassFile.Cond} {e1 e2 : ak_E} {y1 y2 : Int32} (h1 : y1.toInt = ak_evE x e1) (h2 : y2.toInt = ak_evE x e2) (ht : aj_test c y1 y2 = true) : ak_gR2 x (ak_tst c e1 e2) := by
  have one : ak_evE x (([], 1) : ak_E) = 1 := rfl
  intro f hf
  cases c
  case eq =>
    have e : y1 = y2 := of_decide_eq_true ht
    subst e
    rcases List.mem_cons.mp hf with rfl | hf
    · rw [ak_subE_ok]; omega
    · cases List.mem_singleton.mp hf
      rw [ak_subE_ok]; omega
  case ne => cases hf
  case lt =>
    have e := Int32.lt_iff_toInt_lt.mp (show y1 < y2 from of_decide_eq_true ht)
    cases List.mem_singleton.mp hf
    rw [ak_subE_ok, ak_subE_ok, one]; omega
  case ge =>
    have e := Int32.le_iff_toInt_le.mp (show y2 ≤ y1 from of_decide_eq_true ht)
    cases List.mem_singleton.mp hf
    rw [ak_subE_ok]; omega
  case gt =>
    have e := Int32.lt_iff_toInt_lt.mp (show y2 < y1 from of_decide_eq_true ht)
    cases List.mem_singleton.mp hf
    rw [ak_subE_ok, ak_subE_ok, one]; omega
  case le =>
    have e := Int32.le_iff_toInt_le.mp (show y1 ≤ y2 from of_decide_eq_true ht)
    cases List.mem_singleton.mp hf
    rw [ak_subE_ok]; omega
theorem ak_brf_ok {x : ak_At → Int} {c : ClassFile.Cond} {off : Int} {e1 e2 : ak_E} {y1 y2 : Int32} (h1 : y1.toInt = ak_evE x e1) (h2 : y2.toInt = ak_evE x e2) (hb : (aj_test c y1 y2 = true ∧ pc' = ((pc : Int) + off).toNat) ∨ (aj_test c y1 y2 = false ∧ pc' = pc + 3)) : ak_gR2 x (ak_brf c off pc pc' e1 e2) := by
  unfold ak_brf
  split
  · intro f hf; cases hf
  · rename_i hne
    rcases hb with ⟨g1, g2⟩ | ⟨g1, g2⟩
    · rw [if_neg (by rw [g2]; exact hne)]
      exact ak_tst_ok h1 h2 g1
    · rw [if_pos g2]
      exact ak_tst_ok h1 h2 (by rw [ak_test_neg, g1]; rfl)
theorem ak_top_ok (ha : ak_gAS s tb h old lv st a) (rc : Nat) (cls : List aj_C) (nL : Nat) (ret : Option FieldType) (isI : Bool) {dc ds : Nat} (hX : ak_gX (ak_val tb h lv gh) X st) (hs : aj_step rc cls tb lk nL ret isI i len pc lv st h = some (.inl ((pc', lv', st'), h', dc, ds))) {e : ak_E} (h0 : ak_top i a X = some e) : ∃ y : Int32, st'[0]? = some (.int y) ∧ y.toInt = ak_evE (ak_val tb h lv gh) e := by
  unfold ak_top at h0
  have two : ∀ {p q : Int × Int} {p1 p2 : ak_P} {S : ak_S} {e1 e2 : ak_E} {Y : ak_X} {y z : Int32} {r : List Value}, a.2.1 = (.inl q, p1) :: (.inl p, p2) :: S → X = some e2 :: some e1 :: Y → st = .int y :: .int z :: r → (q.1 ≤ y.toInt ∧ y.toInt ≤ q.2) ∧ (p.1 ≤ z.toInt ∧ z.toInt ≤ p.2) ∧ y.toInt = ak_evE (ak_val tb h lv gh) e2 ∧ z.toInt = ak_evE (ak_val tb h lv gh) e1 := by
    intro p q p1 p2 S e1 e2 Y y z r hS hX1 hst
    have hS1 := ha.2.1
    rw [hS, hst] at hS1
    rw [hX1, hst] at hX
    obtain ⟨y', k1, k2⟩ := hX 0 e2 rfl
    obtain ⟨z', k3, k4⟩ := hX 1 e1 rfl
    cases k1
    cases k3
    exact ⟨hS1.1, hS1.2.2.1, k2, k4⟩
  split at h0
  · split at h0
    · rename_i hr
      cases h0
      unfold aj_step at hs
      dsimp only at hs
      split at hs
      · obtain ⟨rfl, -⟩ := ak_go_i hs
        refine ⟨_, rfl, ?_⟩
        show _ = ((0 : Int) + _)
        rw [Int.zero_add]
        exact Int32.toInt_ofInt_of_le (by omega) (by omega)
      · cases hs
    · cases h0
  · split at h0
    · rename_i hr
      cases h0
      unfold aj_step at hs
      dsimp only at hs
      split at hs
      · obtain ⟨rfl, -⟩ := ak_go_i hs
        refine ⟨_, rfl, ?_⟩
        show _ = ((0 : Int) + _)
        rw [Int.zero_add]
        rw [Int8.toInt_toInt32]
        exact Int8.toInt_ofInt_of_le (by omega) (by omega)
      · cases hs
    · cases h0
  · split at h0
    · rename_i hr
      cases h0
      unfold aj_step at hs
      dsimp only at hs
      split at hs
      · obtain ⟨rfl, -⟩ := ak_go_i hs
        refine ⟨_, rfl, ?_⟩
        show _ = ((0 : Int) + _)
        rw [Int.zero_add]
        rw [Int16.toInt_toInt32]
        exact Int16.toInt_ofInt_of_le (by omega) (by omega)
      · cases hs
    · cases h0
  · unfold aj_step at hs
    dsimp only at hs
    split at hs
    · obtain ⟨z, y, r, rfl, rfl⟩ := ak_pp_ii hs
      split at h0
      · rename_i q p1 p p2 S e2 e1 Y hS
        obtain ⟨w1, w2, w3, w4⟩ := two hS rfl rfl
        split at h0
        · rename_i hk
          cases h0
          unfold ak_ok32 at hk
          rw [Bool.and_eq_true, decide_eq_true_eq, decide_eq_true_eq] at hk
          refine ⟨_, rfl, ?_⟩
          rw [Int32.toInt_add, ak_bm (by omega) (by omega), ak_addE_ok]
          omega
        · cases h0
      · cases h0
    · cases hs
  · unfold aj_step at hs
    dsimp only at hs
    split at hs
    · obtain ⟨z, y, r, rfl, rfl⟩ := ak_pp_ii hs
      split at h0
      · rename_i q p1 p p2 S e2 e1 Y hS
        obtain ⟨w1, w2, w3, w4⟩ := two hS rfl rfl
        split at h0
        · rename_i hk
          cases h0
          unfold ak_ok32 at hk
          rw [Bool.and_eq_true, decide_eq_true_eq, decide_eq_true_eq] at hk
          refine ⟨_, rfl, ?_⟩
          rw [Int32.toInt_sub, ak_bm (by omega) (by omega), ak_subE_ok]
          omega
        · cases h0
      · cases h0
    · cases hs
  · unfold aj_step at hs
    dsimp only at hs
    split at hs
    · obtain ⟨z, y, r, rfl, rfl⟩ := ak_pp_ii hs
      split at h0
      · rename_i q p1 p p2 S e2 e1 Y hS
        obtain ⟨w1, w2, w3, w4⟩ := two hS rfl rfl
        split at h0
        · rename_i hk
          have hm := ak_fmul_ok (p := p) (q := q) (x := z) (y := y) w2 w1
          unfold ak_ok32 at hk
          rw [Bool.and_eq_true, decide_eq_true_eq, decide_eq_true_eq] at hk
          have e0 : (z * y).toInt = z.toInt * y.toInt := by
            have k : ak_mn (ak_mn (p.1 * q.1) (p.1 * q.2)) (ak_mn (p.2 * q.1) (p.2 * q.2)) ≤ z.toInt * y.toInt ∧ z.toInt * y.toInt ≤ ak_mx (ak_mx (p.1 * q.1) (p.1 * q.2)) (ak_mx (p.2 * q.1) (p.2 * q.2)) := ak_fmul_in w2 w1
            rw [Int32.toInt_mul]
            exact ak_bm (by omega) (by omega)
          split at h0
          · rename_i hc
            cases h0
            refine ⟨_, rfl, ?_⟩
            have e2' : ak_evE (ak_val tb h lv gh) e2 = e2.2 := by
              unfold ak_evE
              rw [hc]
              simp [ak_ev]
            rw [e0, ak_scl_ok, w3, w4, e2', Int.mul_comm]
          · split at h0
            · rename_i hc
              cases h0
              refine ⟨_, rfl, ?_⟩
              have e2' : ak_evE (ak_val tb h lv gh) e1 = e1.2 := by
                unfold ak_evE
                rw [hc]
                simp [ak_ev]
              rw [e0, ak_scl_ok, w3, w4, e2']
            · cases h0
        · cases h0
      · cases h0
    · cases hs
  · cases h0
theorem ak_obj_arr {j : Nat} {e e' : Nat × vp_A} (hj : h[j]? = some (.inl e)) (r : Nat) : aj_obj tb (h.set j (.inl e')) r = aj_obj tb h r := by
  have hl : j < h.length := (List.getElem?_eq_some_iff.mp hj).1
  unfold aj_obj
  split
  · rfl
  · by_cases hr : j = r - tb.length
    · subst hr
      rw [List.getElem?_set_self hl, hj]
    · rw [List.getElem?_set_ne hr]
theorem ak_ast_i {kd dc ds : Nat} (hs : aj_ast kd tb pc lv st h = some (.inl ((pc', lv', st'), h', dc, ds))) : lv' = lv ∧ ∀ r, aj_obj tb h' r = aj_obj tb h r := by
  unfold aj_ast at hs
  split at hs
  · split at hs
    · cases hs
    · split at hs
      · rename_i hh
        split at hs
        · obtain ⟨-, rfl, rfl, -⟩ := ak_go_i hs
          exact ⟨rfl, fun r => ak_obj_arr hh r⟩
        · cases hs
      · cases hs
  · cases hs
theorem ak_lst_i {dc ds : Nat} (hs : aj_lst tb pc lv st h = some (.inl ((pc', lv', st'), h', dc, ds))) : lv' = lv ∧ ∀ r, aj_obj tb h' r = aj_obj tb h r := by
  unfold aj_lst at hs
  split at hs
  · split at hs
    · cases hs
    · split at hs
      · rename_i hh
        split at hs
        · obtain ⟨-, rfl, rfl, -⟩ := ak_go_i hs
          exact ⟨rfl, fun r => ak_obj_arr hh r⟩
        · cases hs
      · cases hs
  · cases hs
theorem ak_load_i {k kind dc ds : Nat} (hs : aj_load pc lv st h len k kind = some (.inl ((pc', lv', st'), h', dc, ds))) : lv' = lv ∧ ∀ r, aj_obj tb h' r = aj_obj tb h r := by
  unfold aj_load at hs
  split at hs
  all_goals first
    | (split at hs
       · obtain ⟨-, rfl, rfl, -⟩ := ak_go_i hs
         exact ⟨rfl, fun _ => rfl⟩
       · cases hs)
    | cases hs
/-- what is written to a local of one slot -/
theorem ak_store_i {nL k kind dc ds : Nat} (hk : kind ≠ 1) (hs : aj_store nL pc lv st h len k kind = some (.inl ((pc', lv', st'), h', dc, ds))) : ∃ v r, st = v :: r ∧ lv' = aj_set1 lv k v ∧ h' = h := by
  unfold aj_store at hs
  split at hs
  · split at hs
    · obtain ⟨-, rfl, rfl, -⟩ := ak_go_i hs
      exact ⟨_, _, rfl, rfl, rfl⟩
    · cases hs
  · split at hs
    · rename_i hq
      exact absurd hq.1 hk
    · cases hs
  · split at hs
    · obtain ⟨-, rfl, rfl, -⟩ := ak_go_i hs
      exact ⟨_, _, rfl, rfl, rfl⟩
    · cases hs
  · split at hs
    · obtain ⟨-, rfl, rfl, -⟩ := ak_go_i hs
      exact ⟨_, _, rfl, rfl, rfl⟩
    · cases hs
  · cases hs
theorem ak_store_l {nL k dc ds : Nat} (hs : aj_store nL pc lv st h len k 1 = some (.inl ((pc', lv', st'), h', dc, ds))) : ∃ v r, st = v :: r ∧ lv' = aj_set2 lv k v ∧ h' = h := by
  unfold aj_store at hs
  split at hs
  · split at hs
    · rename_i hq
      exact absurd hq.1 (by decide)
    · cases hs
  · split at hs
    · obtain ⟨-, rfl, rfl, -⟩ := ak_go_i hs
      exact ⟨_, _, rfl, rfl, rfl⟩
    · cases hs
  · split at hs
    · rename_i hq
      exact absurd hq.1 (by decide)
    · cases hs
  · split at hs
    · rename_i hq
      exact absurd hq.1 (by decide)
    · cases hs
  · cases hs
theorem ak_putf_i {cls : List aj_C} {isI : Bool} {idx dc ds : Nat} (hs : aj_putf cls tb lk isI pc idx lv st h = some (.inl ((pc', lv', st'), h', dc, ds))) : lv' = lv ∧ ∃ v r rest c fs, st = v :: .ref r :: rest ∧ aj_obj tb h r = some (c, fs) ∧ ak_fld lk idx < fs.length ∧ h' = h.set (r - tb.length) (.inr (c, fs.set (ak_fld lk idx) v)) := by
  unfold aj_putf at hs
  split at hs
  · split at hs
    · rename_i v r rest _ _ kind ci k fin ci' fs hlk hob
      split at hs
      · split at hs
        · rename_i hq
          obtain ⟨-, rfl, rfl, -⟩ := ak_go_i hs
          have e : ak_fld lk idx = k := by
            unfold ak_fld
            rw [hlk]
          rw [e]
          obtain ⟨q1, q2, q3, q4, q5⟩ := hq
          subst q2
          exact ⟨rfl, _, _, _, _, _, rfl, hob, q3, rfl⟩
        · cases hs
      · cases hs
    · cases hs
  · cases hs
end AKLS
