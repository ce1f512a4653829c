/-! SPREAD (printed by wip/p2/ref/r19.py) -/
section ARA19
variable {tb : aj_T} {s : List Nat} {h : aj_H} {S S' S1 S2 : aj_S} {d n : Nat} {g g' : aw_gh} {F A : List Nat} {G : aj_S → Prop} {nm : Int64 → Prop} {fl : Bool} {la ho hu ht q t p : Nat}
/-- a row of bits spread down to c: behind c the bit u is what stood at u / L -/
def ar_sp (a L : Nat) (W : Int) (f f' : Nat → Int32) (c : Int) : Prop := (∀ i, i < a ∨ a + 32 ≤ i → f' i = f i) ∧ ∀ u : Nat, u ≤ 1023 → (c < u → (u : Int) < W → ((aj_bitV f' (nI a) (nI u)).toInt = 1 ↔ (aj_bitV f (nI a) (nI (u / L))).toInt = 1)) ∧ ((u : Int) ≤ c → ((aj_bitV f' (nI a) (nI u)).toInt = 1 ↔ (aj_bitV f (nI a) (nI u)).toInt = 1))
theorem ar_sp_0 {a L : Nat} {W c : Int} {f : Nat → Int32} (hc : c = W - 1) : ar_sp a L W f f c := ⟨fun _ _ => rfl, fun u _ => ⟨fun h1 h2 => by omega, fun _ => Iff.rfl⟩⟩
theorem ar_sp_put {x w v z : Int32} {f f' : Nat → Int32} {i a b L : Nat} {W c : Int} (hx : x.toInt = a) (hw : w.toInt = b) (hz : z.toInt = w.toInt / (L : Int)) (ha : a ≤ 100000) (hb : b ≤ 1023) (hv : v = aj_bitV f' x z) (hi : i = a + b / 32) (h0 : ar_sp a L W f f' w.toInt) (hc : c = w.toInt - 1) : ar_sp a L W f (upd f' i (aj_putX f' x w v)) c := by
  have hz : z.toInt = ((b / L : Nat) : Int) := by
    rw [hz, hw]
    rfl
  have hbl : b / L ≤ b := Nat.div_le_self _ _
  rw [hw] at h0 hc
  have ex := aw_nI hx (by omega)
  have ew := aw_nI hw (by omega)
  have ez := aw_nI hz (by omega)
  subst ex ew ez hi
  obtain ⟨h1, h2⟩ := h0
  refine ⟨fun j hj => ?_, fun u hu => ?_⟩
  · unfold upd
    rw [if_neg (by omega)]
    exact h1 j hj
  · rw [aw_bit_put ha hb hu]
    by_cases e : u = b
    · subst e
      rw [if_pos rfl]
      refine ⟨fun _ _ => ?_, fun y => by omega⟩
      have y := (h2 (u / L) (by omega)).2 (by omega)
      rw [← y, hv]
      rcases aj_bitV_01 f' (nI a) (nI (u / L)) with q | q <;> rw [q]
      · exact ⟨fun z => absurd rfl z, fun z => absurd z (by decide)⟩
      · exact ⟨fun _ => rfl, fun _ => by decide⟩
    · rw [if_neg e]
      exact ⟨fun y1 y2 => (h2 u hu).1 (by omega) y2, fun y => (h2 u hu).2 (by omega)⟩
theorem ar_spread12 (hU : aw_U tb s h) (hT : ak_Ty ak_TN s (aj_mh h S)) (hd : 2 ≤ d) {x y : Int32} (hx : 0 ≤ x.toInt ∧ x.toInt ≤ 1248) (hy : 1 ≤ y.toInt ∧ y.toInt ≤ 1024) : aw_K tb h d 226 [.ref 117, .ref 129, .int x, .int y] S (fun r S' => ak_Ty ak_TN s (aj_mh h S') ∧ aw_fr [] [12] S S' ∧ r = none ∧ ar_sp (x.toInt).toNat (y.toInt).toNat ((S.2.2.1 5 (aw_h S)).toInt) (S.2.2.1 12) (S'.2.2.1 12) (-1)) := by
  obtain ⟨d, rfl⟩ : ∃ e, d = e + 1 := ⟨d - 1, by omega⟩
  have hs : aw_sT s := aw_hy_sT hU.2.2
  refine aw_m aj_m226_at rfl (Nat.le_of_ble_eq_true rfl) ?_
  show aw_W _ _ _ _ 0 [(0, .ref 117), (1, .ref 129), (2, .int x), (3, .int y)] [] _ _
  obtain ⟨lv1, elv1⟩ : ∃ l : aj_V, l = [(0, .ref 117), (1, .ref 129), (2, .int x), (3, .int y)] := ⟨_, rfl⟩
  rw [← elv1]
  have hlv1_0 : aj_lv lv1 0 = some (.ref 117) := by rw [elv1]; rfl
  have hlv1_1 : aj_lv lv1 1 = some (.ref 129) := by rw [elv1]; rfl
  have hlv1_2 : aj_lv lv1 2 = some (.int x) := by rw [elv1]; rfl
  have hlv1_3 : aj_lv lv1 3 = some (.int y) := by rw [elv1]; rfl
  have hI2 : aw_I s h (aw_sm S) S := ⟨hT, aw_sm_rf⟩
  have fr3 : aw_fr [] [12] S S := aw_fr_rf
  refine aw_l2 aj_d226 rfl rfl hlv1_0 ?_
  refine aw_g hU.1 aj_d226 rfl rfl (by decide) (v := .ref 122) rfl ?_
  refine aw_l2 aj_d226 rfl rfl hlv1_0 ?_
  have b4 : 0 ≤ (S.1 37).toInt ∧ (S.1 37).toInt ≤ 1 := aw_bd_f hs (hI2).1 (by decide) rfl
  refine aw_g hU.1 aj_d226 rfl rfl (by decide) (v := .int (S.1 37)) rfl ?_
  refine aw_ld (k := 5) hU.1 aj_d226 (Or.inl ⟨rfl, rfl⟩) rfl (by decide) (by decide) rfl (a := (S.1 37).toInt) rfl (by omega) (by omega) (fun x5 ex5 => ?_)
  have bx5 : 0 ≤ x5.toInt ∧ x5.toInt ≤ 1024 := by
    rw [ex5]
    exact aw_bd_a hs (hI2).1 (k := 5) (by decide) (by decide) rfl (by decide) rfl (by omega)
  have ftx5 : x5.toInt = (S.2.2.1 5 ((S.1 37).toInt).toNat).toInt := congrArg Int32.toInt (ex5.trans (congrFun rfl _))
  have y5 : x5.toInt = (S.2.2.1 5 (aw_h S)).toInt := (congrArg Int32.toInt ex5).trans (by unfold aw_h; rw [show (S.1 37).toInt = (S.1 37).toInt from rfl])
  refine aw_n aj_d226 rfl rfl ?_
  refine aw_sub aj_d226 rfl (a := x5.toInt) (b := (1 : Int)) rfl rfl (by omega) (by omega) (fun x6 ex6 => ?_)
  refine aw_t0 (j := 4) aj_d226 rfl (by decide) rfl ?_
  obtain ⟨lv7, elv7⟩ : ∃ l, l = aj_set1 lv1 4 (.int x6) := ⟨_, rfl⟩
  rw [← elv7]
  have hlv7_1 : aj_lv lv7 1 = some (.ref 129) := cw_e1 elv7 hlv1_1 (by decide) (Or.inl (by decide))
  have hlv7_2 : aj_lv lv7 2 = some (.int x) := cw_e1 elv7 hlv1_2 (by decide) (Or.inl (by decide))
  have hlv7_3 : aj_lv lv7 3 = some (.int y) := cw_e1 elv7 hlv1_3 (by decide) (Or.inr rfl)
  have hlv7_4 : aj_lv lv7 4 = some (.int x6) := by rw [elv7]; exact ak_set1_eq _ _ _
  show aw_W _ _ _ _ 13 lv7 [] _ _
  have L13_7 : ∀ (N : Nat) (S9 : aj_S) (lv10 : aj_V) (x11 : Int32), (aj_lv lv10 1 = some (.ref 129)) → (aj_lv lv10 2 = some (.int x)) → (aj_lv lv10 3 = some (.int y)) → (aj_lv lv10 4 = some (.int x11)) → (aw_I s h ((fun _ => True)) S9) → (aw_fr [] [12] S S9) → ((-1) ≤ x11.toInt ∧ x11.toInt ≤ 1023) → (ar_sp (x.toInt).toNat (y.toInt).toNat ((S.2.2.1 5 (aw_h S)).toInt) (S.2.2.1 12) (S9.2.2.1 12) (x11.toInt)) → (x11.toInt + 1).toNat < N → aw_W tb h d aj_m226 13 lv10 [] S9 ((fun r S' => ak_Ty ak_TN s (aj_mh h S') ∧ aw_fr [] [12] S S' ∧ r = none ∧ ar_sp (x.toInt).toNat (y.toInt).toNat ((S.2.2.1 5 (aw_h S)).toInt) (S.2.2.1 12) (S'.2.2.1 12) (-1))) := by
    intro N
    induction N with
    | zero =>
      intro S9 lv10 x11 hlv10_1 hlv10_2 hlv10_3 hlv10_4 hI12 fr13 bx11 sp13 hm
      omega
    | succ N ihL13_7 =>
      intro S9 lv10 x11 hlv10_1 hlv10_2 hlv10_3 hlv10_4 hI12 fr13 bx11 sp13 hm
      have hI14 : aw_I s h (aw_sm S9) S9 := ⟨hI12.1, aw_sm_rf⟩
      refine aw_l0 aj_d226 rfl rfl hlv10_4 ?_
      refine aw_z (tgt := 40) aj_d226 rfl rfl (fun q15 => ?_) (fun q15 => ?_)
      · have q15 : x11.toInt < (0 : Int) := aw_t_lt (a := x11.toInt) (b := (0 : Int)) rfl rfl q15
        refine aw_e aj_d226 rfl rfl ?_
        exact ⟨(hI14).1, fr13, rfl, (by rw [show (-1 : Int) = x11.toInt by omega]; exact sp13)⟩
      · have q15 : x11.toInt ≥ (0 : Int) := aw_t_lt (a := x11.toInt) (b := (0 : Int)) rfl rfl q15
        refine aw_l2 aj_d226 rfl rfl hlv10_1 ?_
        refine aw_l0 aj_d226 rfl rfl hlv10_2 ?_
        refine aw_l0 aj_d226 rfl rfl hlv10_4 ?_
        refine aw_l2 aj_d226 rfl rfl hlv10_1 ?_
        refine aw_l0 aj_d226 rfl rfl hlv10_2 ?_
        refine aw_l0 aj_d226 rfl rfl hlv10_4 ?_
        refine aw_l0 aj_d226 rfl rfl hlv10_3 ?_
        refine aw_div aj_d226 rfl (a := x11.toInt) (b := y.toInt) rfl rfl (by omega) (by omega) (fun x16 ex16 => ?_)
        have hdv : 0 ≤ x11.toInt / y.toInt ∧ x11.toInt / y.toInt ≤ x11.toInt := ⟨Int.ediv_nonneg (by omega) (by omega), Int.ediv_le_self _ (by omega)⟩
        refine aw_ks aj_d226 rfl rfl rfl [_, _, _] rfl rfl (Nat.le_of_ble_eq_true rfl) (ar_bit hU (by omega) (k := 12) (n := 1280) (by decide) (by decide) rfl (a := x.toInt) (b := x16.toInt) rfl rfl (by omega) (by omega) (by omega) (by decide)) ?_
        rintro _ zx17 ⟨fx17, x17, rfl, hx17, ex17⟩
        rw [fx17]
        show aw_W _ _ _ _ 31 lv10 [.int x17, .int x11, .int x, .ref 129] _ _
        refine aw_ks aj_d226 rfl rfl rfl [_, _, _, _] rfl rfl (Nat.le_of_ble_eq_true rfl) (ar_put hU (hI14).1 (by omega) (k := 12) (n := 1280) (by decide) (by decide) rfl rfl (a := x.toInt) (b := x11.toInt) rfl rfl (by omega) (by omega) (by omega) (by decide)) ?_
        rintro _ S18 ⟨hT18, fc18, rfl, pe18⟩
        have fr19 := aw_fr_tr fr13 (aw_fr_sub (F := []) (A := [12]) (by decide) (by decide) fc18)
        have hI20 : aw_I s h (aw_sm S18) S18 := ⟨hT18, aw_sm_rf⟩
        show aw_W _ _ _ _ 34 lv10 [] _ _
        have sp18 : ar_sp (x.toInt).toNat (y.toInt).toNat ((S.2.2.1 5 (aw_h S)).toInt) (S.2.2.1 12) (S18.2.2.1 12) (x11.toInt - 1) := by
          rw [pe18]
          exact ar_sp_put (b := (x11.toInt).toNat) (z := x16) (by omega) (by omega) (by rw [show (((y.toInt).toNat : Nat) : Int) = y.toInt by omega]; omega) (by omega) (by omega) ex17 (by omega) sp13 rfl
        have hI21 : aw_I s h (aw_sm S18) S18 := ⟨(hI20).1, aw_sm_rf⟩
        refine aw_inc aj_d226 rfl hlv10_4 (a := x11.toInt) rfl (by omega) (by omega) (by decide) (by decide) (fun x22 ex22 => ?_)
        obtain ⟨lv23, elv23⟩ : ∃ l, l = aj_set1 lv10 4 (.int x22) := ⟨_, rfl⟩
        rw [← elv23]
        have hlv23_1 : aj_lv lv23 1 = some (.ref 129) := cw_e1 elv23 hlv10_1 (by decide) (Or.inl (by decide))
        have hlv23_2 : aj_lv lv23 2 = some (.int x) := cw_e1 elv23 hlv10_2 (by decide) (Or.inl (by decide))
        have hlv23_3 : aj_lv lv23 3 = some (.int y) := cw_e1 elv23 hlv10_3 (by decide) (Or.inr rfl)
        have hlv23_4 : aj_lv lv23 4 = some (.int x22) := by rw [elv23]; exact ak_set1_eq _ _ _
        show aw_W _ _ _ _ 37 lv23 [] _ _
        refine aw_n aj_d226 rfl rfl ?_
        exact ihL13_7 S18 lv23 (x22) hlv23_1 hlv23_2 hlv23_3 hlv23_4 ⟨(hI21).1, trivial⟩ fr19 (by omega) (by rw [show x22.toInt = x11.toInt - 1 by omega]; exact sp18) (by omega)
  exact L13_7 _ S lv7 (x6) hlv7_1 hlv7_2 hlv7_3 hlv7_4 ⟨(hI2).1, trivial⟩ fr3 (by omega) (ar_sp_0 (by omega)) (Nat.lt_succ_self _)
theorem ar_spread19 (hU : aw_U tb s h) (hT : ak_Ty ak_TN s (aj_mh h S)) (hd : 2 ≤ d) {x y : Int32} (hx : 0 ≤ x.toInt ∧ x.toInt ≤ 47968) (hy : 1 ≤ y.toInt ∧ y.toInt ≤ 1024) : aw_K tb h d 226 [.ref 117, .ref 136, .int x, .int y] S (fun r S' => ak_Ty ak_TN s (aj_mh h S') ∧ aw_fr [] [19] S S' ∧ r = none ∧ True) := by
  obtain ⟨d, rfl⟩ : ∃ e, d = e + 1 := ⟨d - 1, by omega⟩
  have hs : aw_sT s := aw_hy_sT hU.2.2
  refine aw_m aj_m226_at rfl (Nat.le_of_ble_eq_true rfl) ?_
  show aw_W _ _ _ _ 0 [(0, .ref 117), (1, .ref 136), (2, .int x), (3, .int y)] [] _ _
  obtain ⟨lv24, elv24⟩ : ∃ l : aj_V, l = [(0, .ref 117), (1, .ref 136), (2, .int x), (3, .int y)] := ⟨_, rfl⟩
  rw [← elv24]
  have hlv24_0 : aj_lv lv24 0 = some (.ref 117) := by rw [elv24]; rfl
  have hlv24_1 : aj_lv lv24 1 = some (.ref 136) := by rw [elv24]; rfl
  have hlv24_2 : aj_lv lv24 2 = some (.int x) := by rw [elv24]; rfl
  have hlv24_3 : aj_lv lv24 3 = some (.int y) := by rw [elv24]; rfl
  have hI25 : aw_I s h (aw_sm S) S := ⟨hT, aw_sm_rf⟩
  have fr26 : aw_fr [] [19] S S := aw_fr_rf
  refine aw_l2 aj_d226 rfl rfl hlv24_0 ?_
  refine aw_g hU.1 aj_d226 rfl rfl (by decide) (v := .ref 122) rfl ?_
  refine aw_l2 aj_d226 rfl rfl hlv24_0 ?_
  have b27 : 0 ≤ (S.1 37).toInt ∧ (S.1 37).toInt ≤ 1 := aw_bd_f hs (hI25).1 (by decide) rfl
  refine aw_g hU.1 aj_d226 rfl rfl (by decide) (v := .int (S.1 37)) rfl ?_
  refine aw_ld (k := 5) hU.1 aj_d226 (Or.inl ⟨rfl, rfl⟩) rfl (by decide) (by decide) rfl (a := (S.1 37).toInt) rfl (by omega) (by omega) (fun x28 ex28 => ?_)
  have bx28 : 0 ≤ x28.toInt ∧ x28.toInt ≤ 1024 := by
    rw [ex28]
    exact aw_bd_a hs (hI25).1 (k := 5) (by decide) (by decide) rfl (by decide) rfl (by omega)
  have ftx28 : x28.toInt = (S.2.2.1 5 ((S.1 37).toInt).toNat).toInt := congrArg Int32.toInt (ex28.trans (congrFun rfl _))
  have y5 : x28.toInt = (S.2.2.1 5 (aw_h S)).toInt := (congrArg Int32.toInt ex28).trans (by unfold aw_h; rw [show (S.1 37).toInt = (S.1 37).toInt from rfl])
  refine aw_n aj_d226 rfl rfl ?_
  refine aw_sub aj_d226 rfl (a := x28.toInt) (b := (1 : Int)) rfl rfl (by omega) (by omega) (fun x29 ex29 => ?_)
  refine aw_t0 (j := 4) aj_d226 rfl (by decide) rfl ?_
  obtain ⟨lv30, elv30⟩ : ∃ l, l = aj_set1 lv24 4 (.int x29) := ⟨_, rfl⟩
  rw [← elv30]
  have hlv30_1 : aj_lv lv30 1 = some (.ref 136) := cw_e1 elv30 hlv24_1 (by decide) (Or.inl (by decide))
  have hlv30_2 : aj_lv lv30 2 = some (.int x) := cw_e1 elv30 hlv24_2 (by decide) (Or.inl (by decide))
  have hlv30_3 : aj_lv lv30 3 = some (.int y) := cw_e1 elv30 hlv24_3 (by decide) (Or.inr rfl)
  have hlv30_4 : aj_lv lv30 4 = some (.int x29) := by rw [elv30]; exact ak_set1_eq _ _ _
  show aw_W _ _ _ _ 13 lv30 [] _ _
  have L13_30 : ∀ (N : Nat) (S32 : aj_S) (lv33 : aj_V) (x34 : Int32), (aj_lv lv33 1 = some (.ref 136)) → (aj_lv lv33 2 = some (.int x)) → (aj_lv lv33 3 = some (.int y)) → (aj_lv lv33 4 = some (.int x34)) → (aw_I s h ((fun _ => True)) S32) → (aw_fr [] [19] S S32) → ((-1) ≤ x34.toInt ∧ x34.toInt ≤ 1023) → (x34.toInt + 1).toNat < N → aw_W tb h d aj_m226 13 lv33 [] S32 ((fun r S' => ak_Ty ak_TN s (aj_mh h S') ∧ aw_fr [] [19] S S' ∧ r = none ∧ True)) := by
    intro N
    induction N with
    | zero =>
      intro S32 lv33 x34 hlv33_1 hlv33_2 hlv33_3 hlv33_4 hI35 fr36 bx34 hm
      omega
    | succ N ihL13_30 =>
      intro S32 lv33 x34 hlv33_1 hlv33_2 hlv33_3 hlv33_4 hI35 fr36 bx34 hm
      have hI37 : aw_I s h (aw_sm S32) S32 := ⟨hI35.1, aw_sm_rf⟩
      refine aw_l0 aj_d226 rfl rfl hlv33_4 ?_
      refine aw_z (tgt := 40) aj_d226 rfl rfl (fun q38 => ?_) (fun q38 => ?_)
      · have q38 : x34.toInt < (0 : Int) := aw_t_lt (a := x34.toInt) (b := (0 : Int)) rfl rfl q38
        refine aw_e aj_d226 rfl rfl ?_
        exact ⟨(hI37).1, fr36, rfl, trivial⟩
      · have q38 : x34.toInt ≥ (0 : Int) := aw_t_lt (a := x34.toInt) (b := (0 : Int)) rfl rfl q38
        refine aw_l2 aj_d226 rfl rfl hlv33_1 ?_
        refine aw_l0 aj_d226 rfl rfl hlv33_2 ?_
        refine aw_l0 aj_d226 rfl rfl hlv33_4 ?_
        refine aw_l2 aj_d226 rfl rfl hlv33_1 ?_
        refine aw_l0 aj_d226 rfl rfl hlv33_2 ?_
        refine aw_l0 aj_d226 rfl rfl hlv33_4 ?_
        refine aw_l0 aj_d226 rfl rfl hlv33_3 ?_
        refine aw_div aj_d226 rfl (a := x34.toInt) (b := y.toInt) rfl rfl (by omega) (by omega) (fun x39 ex39 => ?_)
        have hdv : 0 ≤ x34.toInt / y.toInt ∧ x34.toInt / y.toInt ≤ x34.toInt := ⟨Int.ediv_nonneg (by omega) (by omega), Int.ediv_le_self _ (by omega)⟩
        refine aw_ks aj_d226 rfl rfl rfl [_, _, _] rfl rfl (Nat.le_of_ble_eq_true rfl) (ar_bit hU (by omega) (k := 19) (n := 48000) (by decide) (by decide) rfl (a := x.toInt) (b := x39.toInt) rfl rfl (by omega) (by omega) (by omega) (by decide)) ?_
        rintro _ zx40 ⟨fx40, x40, rfl, hx40, ex40⟩
        rw [fx40]
        show aw_W _ _ _ _ 31 lv33 [.int x40, .int x34, .int x, .ref 136] _ _
        refine aw_ks aj_d226 rfl rfl rfl [_, _, _, _] rfl rfl (Nat.le_of_ble_eq_true rfl) (ar_put hU (hI37).1 (by omega) (k := 19) (n := 48000) (by decide) (by decide) rfl rfl (a := x.toInt) (b := x34.toInt) rfl rfl (by omega) (by omega) (by omega) (by decide)) ?_
        rintro _ S41 ⟨hT41, fc41, rfl, pe41⟩
        have fr42 := aw_fr_tr fr36 (aw_fr_sub (F := []) (A := [19]) (by decide) (by decide) fc41)
        have hI43 : aw_I s h (aw_sm S32) S41 := ⟨hT41, aw_sm_tr hI37.2 (aw_fr_sm (by decide) (by decide) (by decide) (F := []) (A := [19]) fc41)⟩
        show aw_W _ _ _ _ 34 lv33 [] _ _
        have hI44 : aw_I s h (aw_sm S41) S41 := ⟨(hI43).1, aw_sm_rf⟩
        refine aw_inc aj_d226 rfl hlv33_4 (a := x34.toInt) rfl (by omega) (by omega) (by decide) (by decide) (fun x45 ex45 => ?_)
        obtain ⟨lv46, elv46⟩ : ∃ l, l = aj_set1 lv33 4 (.int x45) := ⟨_, rfl⟩
        rw [← elv46]
        have hlv46_1 : aj_lv lv46 1 = some (.ref 136) := cw_e1 elv46 hlv33_1 (by decide) (Or.inl (by decide))
        have hlv46_2 : aj_lv lv46 2 = some (.int x) := cw_e1 elv46 hlv33_2 (by decide) (Or.inl (by decide))
        have hlv46_3 : aj_lv lv46 3 = some (.int y) := cw_e1 elv46 hlv33_3 (by decide) (Or.inr rfl)
        have hlv46_4 : aj_lv lv46 4 = some (.int x45) := by rw [elv46]; exact ak_set1_eq _ _ _
        show aw_W _ _ _ _ 37 lv46 [] _ _
        refine aw_n aj_d226 rfl rfl ?_
        exact ihL13_30 S41 lv46 (x45) hlv46_1 hlv46_2 hlv46_3 hlv46_4 ⟨(hI44).1, trivial⟩ fr42 (by omega) (by omega)
  exact L13_30 _ S lv30 (x29) hlv30_1 hlv30_2 hlv30_3 hlv30_4 ⟨(hI25).1, trivial⟩ fr26 (by omega) (Nat.lt_succ_self _)
end ARA19
