/-! WORLDS ANEW (printed by wip/p2/ref/r20.py) -/
section ARA20
variable {tb : aj_T} {s : List Nat} {h : aj_H} {S S' S1 S2 : aj_S} {d n : Nat} {g g' : aw_gh} {F A : List Nat} {G : aj_S → Prop} {nm : Int64 → Prop} {fl : Bool} {la ho hu ht q t p : Nat}
theorem aw_bit_c {f f' : Nat → Int32} {a u : Nat} (ha : a ≤ 100000) (hu : u ≤ 1023) (hs : ∀ i, a ≤ i → i < a + 32 → f' i = f i) : aj_bitV f' (nI a) (nI u) = aj_bitV f (nI a) (nI u) := by
  have e4 : f' (aj_wordV (nI a) (nI u)).toNatClampNeg = f (aj_wordV (nI a) (nI u)).toNatClampNeg := by
    rw [aw_word_nat ha hu]
    exact hs _ (by omega) (by omega)
  unfold aj_bitV aj_bitX
  rw [e4]
/-- the PARTS ahead of c spread -/
def ar_wn (t L : Nat) (W : Int) (f f' : Nat → Int32) (c : Nat) : Prop := (∀ i, i < t * 640 ∨ (t * 20 + c) * 32 ≤ i → f' i = f i) ∧ ∀ p : Nat, p < c → ∀ u : Nat, u ≤ 1023 → (u : Int) < W → ((aj_bitV f' (nI ((t * 20 + p) * 32)) (nI u)).toInt = 1 ↔ (aj_bitV f (nI ((t * 20 + p) * 32)) (nI (u / L))).toInt = 1)
theorem ar_wn_0 {t L : Nat} {W : Int} {f : Nat → Int32} {c : Nat} : c = 0 → ar_wn t L W f f c := fun e => ⟨fun _ _ => rfl, fun p hp => by omega⟩
theorem ar_wn_s {t L c a c' : Nat} {W : Int} {f f' f2 : Nat → Int32} (ht : t ≤ 1) (hc : c ≤ 19) (ha : a = (t * 20 + c) * 32) (h0 : ar_wn t L W f f' c) (h1 : ar_sp a L W f' f2 (-1)) (hc' : c' = c + 1) : ar_wn t L W f f2 c' := by
  subst ha hc'
  obtain ⟨p1, p2⟩ := h0
  obtain ⟨q1, q2⟩ := h1
  refine ⟨fun i hi => (q1 i (by omega)).trans (p1 i (by omega)), fun p hp u hu hw => ?_⟩
  by_cases e : p = c
  · subst e
    have hul : u / L ≤ u := Nat.div_le_self _ _
    rw [(q2 u hu).1 (by omega) hw, aw_bit_c (f := f) (f' := f') (by omega) (show u / L ≤ 1023 by omega) (fun i i1 i2 => p1 i (by omega))]
  · rw [← p2 p (by omega) u hu hw, aw_bit_c (f := f') (f' := f2) (by omega) hu (fun i i1 i2 => q1 i (by omega))]
theorem ar_worldsAnew (hU : aw_U tb s h) (hT : ak_Ty ak_TN s (aj_mh h S)) (hd : 3 ≤ d) {L : Nat} (h1 : 1 ≤ (S.2.2.1 1 (aw_h S)).toInt) (hmany : ∀ u : Nat, (u : Int) < (S.2.2.1 1 (aw_h S)).toInt → 1 ≤ (S.2.2.1 3 (aw_h S * 8 + u)).toInt) (hL : (L : Int) = (S.2.2.1 3 (aw_h S * 8 + ((S.2.2.1 1 (aw_h S)).toInt.toNat - 1))).toInt) : aw_K tb h d 224 [.ref 117] S (fun r S' => ak_Ty ak_TN s (aj_mh h S') ∧ aw_fr [] [6, 12, 19] S S' ∧ r = none ∧ ar_wn (aw_h S) L ((S.2.2.1 5 (aw_h S)).toInt) (S.2.2.1 12) (S'.2.2.1 12) (S.2.2.1 10 (aw_h S)).toInt.toNat) := by
  obtain ⟨d, rfl⟩ : ∃ e, d = e + 1 := ⟨d - 1, by omega⟩
  have b10 := (aw_bd_a (aw_hy_sT hU.2.2) hT (k := 10) (j := aw_h S) (by decide) (by decide) rfl (by decide) rfl (by have := aw_bd_f (aw_hy_sT hU.2.2) hT (k := 37) (lo := 0) (hi := 1) (by decide) rfl; unfold aw_h; omega)).1
  have hm0 := hmany ((S.2.2.1 1 (aw_h S)).toInt.toNat - 1) (by omega)
  have hs : aw_sT s := aw_hy_sT hU.2.2
  refine aw_m aj_m224_at rfl (Nat.le_of_ble_eq_true rfl) ?_
  show aw_W _ _ _ _ 0 [(0, .ref 117)] [] _ _
  obtain ⟨lv1, elv1⟩ : ∃ l : aj_V, l = [(0, .ref 117)] := ⟨_, rfl⟩
  rw [← elv1]
  have hlv1_0 : aj_lv lv1 0 = some (.ref 117) := by rw [elv1]; rfl
  have hI2 : aw_I s h (aw_sm S) S := ⟨hT, aw_sm_rf⟩
  have fr3 : aw_fr [] [6, 12, 19] S S := aw_fr_rf
  refine aw_l2 aj_d224 rfl rfl hlv1_0 ?_
  have b4 : 0 ≤ (S.1 37).toInt ∧ (S.1 37).toInt ≤ 1 := aw_bd_f hs (hI2).1 (by decide) rfl
  refine aw_g hU.1 aj_d224 rfl rfl (by decide) (v := .int (S.1 37)) rfl ?_
  refine aw_t0 (j := 1) aj_d224 rfl (by decide) rfl ?_
  obtain ⟨lv5, elv5⟩ : ∃ l, l = aj_set1 lv1 1 (.int (S.1 37)) := ⟨_, rfl⟩
  rw [← elv5]
  have hlv5_0 : aj_lv lv5 0 = some (.ref 117) := cw_e1 elv5 hlv1_0 (by decide) (Or.inr rfl)
  have hlv5_1 : aj_lv lv5 1 = some (.int (S.1 37)) := by rw [elv5]; exact ak_set1_eq _ _ _
  show aw_W _ _ _ _ 5 lv5 [] _ _
  refine aw_l2 aj_d224 rfl rfl hlv5_0 ?_
  refine aw_g hU.1 aj_d224 rfl rfl (by decide) (v := .ref 120) rfl ?_
  refine aw_l0 aj_d224 rfl rfl hlv5_1 ?_
  refine aw_n aj_d224 rfl rfl ?_
  refine aw_mul aj_d224 rfl (a := (S.1 37).toInt) (b := (8 : Int)) rfl rfl (by omega) (by omega) (fun x6 ex6 => ?_)
  refine aw_l2 aj_d224 rfl rfl hlv5_0 ?_
  refine aw_g hU.1 aj_d224 rfl rfl (by decide) (v := .ref 118) rfl ?_
  refine aw_l0 aj_d224 rfl rfl hlv5_1 ?_
  refine aw_ld (k := 1) hU.1 aj_d224 (Or.inl ⟨rfl, rfl⟩) rfl (by decide) (by decide) rfl (a := (S.1 37).toInt) rfl (by omega) (by omega) (fun x7 ex7 => ?_)
  have bx7 : 0 ≤ x7.toInt ∧ x7.toInt ≤ 8 := by
    rw [ex7]
    exact aw_bd_a hs (hI2).1 (k := 1) (by decide) (by decide) rfl (by decide) rfl (by omega)
  have ftx7 : x7.toInt = (S.2.2.1 1 ((S.1 37).toInt).toNat).toInt := congrArg Int32.toInt (ex7.trans (congrFun rfl _))
  have yx7 : x7.toInt = (S.2.2.1 1 (aw_h S)).toInt := (congrArg Int32.toInt ex7).trans (by first | (rw [show (S.2.2.1 1) = S.2.2.1 1 from rfl]; exact congrArg (fun j => (S.2.2.1 1 j).toInt) (by first | rfl | (unfold aw_h; omega))) | exact congrArg (fun j => (S.2.2.1 1 j).toInt) (by first | rfl | (unfold aw_h; omega)))
  refine aw_add aj_d224 rfl (a := x6.toInt) (b := x7.toInt) rfl rfl (by omega) (by omega) (fun x8 ex8 => ?_)
  refine aw_n aj_d224 rfl rfl ?_
  refine aw_sub aj_d224 rfl (a := x8.toInt) (b := (1 : Int)) rfl rfl (by omega) (by omega) (fun x9 ex9 => ?_)
  refine aw_ld (k := 3) hU.1 aj_d224 (Or.inl ⟨rfl, rfl⟩) rfl (by decide) (by decide) rfl (a := x9.toInt) rfl (by omega) (by omega) (fun x10 ex10 => ?_)
  have bx10 : 0 ≤ x10.toInt ∧ x10.toInt ≤ 64 := by
    rw [ex10]
    exact aw_bd_a hs (hI2).1 (k := 3) (by decide) (by decide) rfl (by decide) rfl (by omega)
  have ftx10 : x10.toInt = (S.2.2.1 3 (x9.toInt).toNat).toInt := congrArg Int32.toInt (ex10.trans (congrFun rfl _))
  have yx10 : x10.toInt = (S.2.2.1 3 (aw_h S * 8 + ((S.2.2.1 1 (aw_h S)).toInt.toNat - 1))).toInt := (congrArg Int32.toInt ex10).trans (by first | (rw [show (S.2.2.1 3) = S.2.2.1 3 from rfl]; exact congrArg (fun j => (S.2.2.1 3 j).toInt) (by first | rfl | (unfold aw_h; omega))) | exact congrArg (fun j => (S.2.2.1 3 j).toInt) (by first | rfl | (unfold aw_h; omega)))
  refine aw_t0 (j := 2) aj_d224 rfl (by decide) rfl ?_
  obtain ⟨lv11, elv11⟩ : ∃ l, l = aj_set1 lv5 2 (.int x10) := ⟨_, rfl⟩
  rw [← elv11]
  have hlv11_0 : aj_lv lv11 0 = some (.ref 117) := cw_e1 elv11 hlv5_0 (by decide) (Or.inl (by decide))
  have hlv11_1 : aj_lv lv11 1 = some (.int (S.1 37)) := cw_e1 elv11 hlv5_1 (by decide) (Or.inr rfl)
  have hlv11_2 : aj_lv lv11 2 = some (.int x10) := by rw [elv11]; exact ak_set1_eq _ _ _
  show aw_W _ _ _ _ 24 lv11 [] _ _
  refine aw_n aj_d224 rfl rfl ?_
  refine aw_t0 (j := 3) aj_d224 rfl (by decide) rfl ?_
  obtain ⟨lv12, elv12⟩ : ∃ l, l = aj_set1 lv11 3 (.int (Int32.ofInt 0)) := ⟨_, rfl⟩
  rw [← elv12]
  have hlv12_0 : aj_lv lv12 0 = some (.ref 117) := cw_e1 elv12 hlv11_0 (by decide) (Or.inl (by decide))
  have hlv12_1 : aj_lv lv12 1 = some (.int (S.1 37)) := cw_e1 elv12 hlv11_1 (by decide) (Or.inl (by decide))
  have hlv12_2 : aj_lv lv12 2 = some (.int x10) := cw_e1 elv12 hlv11_2 (by decide) (Or.inr rfl)
  have hlv12_3 : aj_lv lv12 3 = some (.int (Int32.ofInt 0)) := by rw [elv12]; exact ak_set1_eq _ _ _
  show aw_W _ _ _ _ 26 lv12 [] _ _
  have L26_12 : ∀ (N : Nat) (S14 : aj_S) (lv15 : aj_V) (x16 : Int32), (aj_lv lv15 0 = some (.ref 117)) → (aj_lv lv15 1 = some (.int (S.1 37))) → (aj_lv lv15 2 = some (.int x10)) → (aj_lv lv15 3 = some (.int x16)) → (aw_I s h ((fun _ => True)) S14) → (aw_fr [] [6, 12, 19] S S14) → (0 ≤ x16.toInt ∧ x16.toInt ≤ 1024) → (S14.2.2.1 12 = S.2.2.1 12) → (1024 - x16.toInt).toNat < N → aw_W tb h d aj_m224 26 lv15 [] S14 ((fun r S' => ak_Ty ak_TN s (aj_mh h S') ∧ aw_fr [] [6, 12, 19] S S' ∧ r = none ∧ ar_wn (aw_h S) L ((S.2.2.1 5 (aw_h S)).toInt) (S.2.2.1 12) (S'.2.2.1 12) (S.2.2.1 10 (aw_h S)).toInt.toNat)) := by
    intro N
    induction N with
    | zero =>
      intro S14 lv15 x16 hlv15_0 hlv15_1 hlv15_2 hlv15_3 hI17 fr18 bx16 e12_26 hm
      omega
    | succ N ihL26_12 =>
      intro S14 lv15 x16 hlv15_0 hlv15_1 hlv15_2 hlv15_3 hI17 fr18 bx16 e12_26 hm
      have hI19 : aw_I s h (aw_sm S14) S14 := ⟨hI17.1, aw_sm_rf⟩
      refine aw_l0 aj_d224 rfl rfl hlv15_3 ?_
      refine aw_l2 aj_d224 rfl rfl hlv15_0 ?_
      refine aw_g hU.1 aj_d224 rfl rfl (by decide) (v := .ref 122) rfl ?_
      refine aw_l0 aj_d224 rfl rfl hlv15_1 ?_
      refine aw_ld (k := 5) hU.1 aj_d224 (Or.inl ⟨rfl, rfl⟩) rfl (by decide) (by decide) rfl (a := (S.1 37).toInt) rfl (by omega) (by omega) (fun x20 ex20 => ?_)
      have bx20 : 0 ≤ x20.toInt ∧ x20.toInt ≤ 1024 := by
        rw [ex20]
        exact aw_bd_a hs (hI19).1 (k := 5) (by decide) (by decide) rfl (by decide) rfl (by omega)
      have ftx20 : x20.toInt = (S.2.2.1 5 ((S.1 37).toInt).toNat).toInt := congrArg Int32.toInt (ex20.trans (congrFun ((fr18.2 5 (by decide)).1.trans rfl) _))
      have yx20 : x20.toInt = (S.2.2.1 5 (aw_h S)).toInt := (congrArg Int32.toInt ex20).trans (by first | (rw [show (S14.2.2.1 5) = S.2.2.1 5 from ((fr18.2 5 (by decide)).1.trans rfl)]; exact congrArg (fun j => (S.2.2.1 5 j).toInt) (by first | rfl | (unfold aw_h; omega))) | exact congrArg (fun j => (S.2.2.1 5 j).toInt) (by first | rfl | (unfold aw_h; omega)))
      refine aw_c (tgt := 121) aj_d224 rfl rfl (fun q21 => ?_) (fun q21 => ?_)
      · have q21 : x16.toInt ≥ x20.toInt := aw_t_ge (a := x16.toInt) (b := x20.toInt) rfl rfl q21
        refine aw_n aj_d224 rfl rfl ?_
        refine aw_t0 (j := 3) aj_d224 rfl (by decide) rfl ?_
        obtain ⟨lv22, elv22⟩ : ∃ l, l = aj_set1 lv15 3 (.int (Int32.ofInt 0)) := ⟨_, rfl⟩
        rw [← elv22]
        have hlv22_0 : aj_lv lv22 0 = some (.ref 117) := cw_e1 elv22 hlv15_0 (by decide) (Or.inl (by decide))
        have hlv22_1 : aj_lv lv22 1 = some (.int (S.1 37)) := cw_e1 elv22 hlv15_1 (by decide) (Or.inl (by decide))
        have hlv22_2 : aj_lv lv22 2 = some (.int x10) := cw_e1 elv22 hlv15_2 (by decide) (Or.inr rfl)
        have hlv22_3 : aj_lv lv22 3 = some (.int (Int32.ofInt 0)) := by rw [elv22]; exact ak_set1_eq _ _ _
        show aw_W _ _ _ _ 123 lv22 [] _ _
        have L123_22 : ∀ (N : Nat) (S24 : aj_S) (lv25 : aj_V) (x26 : Int32), (aj_lv lv25 0 = some (.ref 117)) → (aj_lv lv25 1 = some (.int (S.1 37))) → (aj_lv lv25 2 = some (.int x10)) → (aj_lv lv25 3 = some (.int x26)) → (aw_I s h ((fun _ => True)) S24) → (aw_fr [] [6, 12, 19] S S24) → (0 ≤ x26.toInt ∧ x26.toInt ≤ 10) → (S24.2.2.1 12 = S.2.2.1 12) → (10 - x26.toInt).toNat < N → aw_W tb h d aj_m224 123 lv25 [] S24 ((fun r S' => ak_Ty ak_TN s (aj_mh h S') ∧ aw_fr [] [6, 12, 19] S S' ∧ r = none ∧ ar_wn (aw_h S) L ((S.2.2.1 5 (aw_h S)).toInt) (S.2.2.1 12) (S'.2.2.1 12) (S.2.2.1 10 (aw_h S)).toInt.toNat)) := by
          intro N
          induction N with
          | zero =>
            intro S24 lv25 x26 hlv25_0 hlv25_1 hlv25_2 hlv25_3 hI27 fr28 bx26 e12_123 hm
            omega
          | succ N ihL123_22 =>
            intro S24 lv25 x26 hlv25_0 hlv25_1 hlv25_2 hlv25_3 hI27 fr28 bx26 e12_123 hm
            have hI29 : aw_I s h (aw_sm S24) S24 := ⟨hI27.1, aw_sm_rf⟩
            refine aw_l0 aj_d224 rfl rfl hlv25_3 ?_
            refine aw_l2 aj_d224 rfl rfl hlv25_0 ?_
            refine aw_g hU.1 aj_d224 rfl rfl (by decide) (v := .ref 124) rfl ?_
            refine aw_l0 aj_d224 rfl rfl hlv25_1 ?_
            refine aw_ld (k := 7) hU.1 aj_d224 (Or.inl ⟨rfl, rfl⟩) rfl (by decide) (by decide) rfl (a := (S.1 37).toInt) rfl (by omega) (by omega) (fun x30 ex30 => ?_)
            have bx30 : 0 ≤ x30.toInt ∧ x30.toInt ≤ 10 := by
              rw [ex30]
              exact aw_bd_a hs (hI29).1 (k := 7) (by decide) (by decide) rfl (by decide) rfl (by omega)
            refine aw_c (tgt := 185) aj_d224 rfl rfl (fun q31 => ?_) (fun q31 => ?_)
            · have q31 : x26.toInt ≥ x30.toInt := aw_t_ge (a := x26.toInt) (b := x30.toInt) rfl rfl q31
              refine aw_n aj_d224 rfl rfl ?_
              refine aw_t0 (j := 3) aj_d224 rfl (by decide) rfl ?_
              obtain ⟨lv32, elv32⟩ : ∃ l, l = aj_set1 lv25 3 (.int (Int32.ofInt 0)) := ⟨_, rfl⟩
              rw [← elv32]
              have hlv32_0 : aj_lv lv32 0 = some (.ref 117) := cw_e1 elv32 hlv25_0 (by decide) (Or.inl (by decide))
              have hlv32_1 : aj_lv lv32 1 = some (.int (S.1 37)) := cw_e1 elv32 hlv25_1 (by decide) (Or.inl (by decide))
              have hlv32_2 : aj_lv lv32 2 = some (.int x10) := cw_e1 elv32 hlv25_2 (by decide) (Or.inr rfl)
              have hlv32_3 : aj_lv lv32 3 = some (.int (Int32.ofInt 0)) := by rw [elv32]; exact ak_set1_eq _ _ _
              show aw_W _ _ _ _ 187 lv32 [] _ _
              have L187_32 : ∀ (N : Nat) (S34 : aj_S) (lv35 : aj_V) (x36 : Int32), (aj_lv lv35 0 = some (.ref 117)) → (aj_lv lv35 1 = some (.int (S.1 37))) → (aj_lv lv35 2 = some (.int x10)) → (aj_lv lv35 3 = some (.int x36)) → (aw_I s h ((fun _ => True)) S34) → (aw_fr [] [6, 12, 19] S S34) → (0 ≤ x36.toInt ∧ x36.toInt ≤ 20) → (ar_wn (aw_h S) L ((S.2.2.1 5 (aw_h S)).toInt) (S.2.2.1 12) (S34.2.2.1 12) (x36.toInt).toNat) → (x36.toInt ≤ (S.2.2.1 10 (aw_h S)).toInt) → (20 - x36.toInt).toNat < N → aw_W tb h d aj_m224 187 lv35 [] S34 ((fun r S' => ak_Ty ak_TN s (aj_mh h S') ∧ aw_fr [] [6, 12, 19] S S' ∧ r = none ∧ ar_wn (aw_h S) L ((S.2.2.1 5 (aw_h S)).toInt) (S.2.2.1 12) (S'.2.2.1 12) (S.2.2.1 10 (aw_h S)).toInt.toNat)) := by
                intro N
                induction N with
                | zero =>
                  intro S34 lv35 x36 hlv35_0 hlv35_1 hlv35_2 hlv35_3 hI37 fr38 bx36 wn187 le187 hm
                  omega
                | succ N ihL187_32 =>
                  intro S34 lv35 x36 hlv35_0 hlv35_1 hlv35_2 hlv35_3 hI37 fr38 bx36 wn187 le187 hm
                  have hI39 : aw_I s h (aw_sm S34) S34 := ⟨hI37.1, aw_sm_rf⟩
                  refine aw_l0 aj_d224 rfl rfl hlv35_3 ?_
                  refine aw_l2 aj_d224 rfl rfl hlv35_0 ?_
                  refine aw_g hU.1 aj_d224 rfl rfl (by decide) (v := .ref 127) rfl ?_
                  refine aw_l0 aj_d224 rfl rfl hlv35_1 ?_
                  refine aw_ld (k := 10) hU.1 aj_d224 (Or.inl ⟨rfl, rfl⟩) rfl (by decide) (by decide) rfl (a := (S.1 37).toInt) rfl (by omega) (by omega) (fun x40 ex40 => ?_)
                  have bx40 : 0 ≤ x40.toInt ∧ x40.toInt ≤ 20 := by
                    rw [ex40]
                    exact aw_bd_a hs (hI39).1 (k := 10) (by decide) (by decide) rfl (by decide) rfl (by omega)
                  have ftx40 : x40.toInt = (S.2.2.1 10 ((S.1 37).toInt).toNat).toInt := congrArg Int32.toInt (ex40.trans (congrFun ((fr38.2 10 (by decide)).1.trans rfl) _))
                  have yx40 : x40.toInt = (S.2.2.1 10 (aw_h S)).toInt := (congrArg Int32.toInt ex40).trans (by first | (rw [show (S34.2.2.1 10) = S.2.2.1 10 from ((fr38.2 10 (by decide)).1.trans rfl)]; exact congrArg (fun j => (S.2.2.1 10 j).toInt) (by first | rfl | (unfold aw_h; omega))) | exact congrArg (fun j => (S.2.2.1 10 j).toInt) (by first | rfl | (unfold aw_h; omega)))
                  refine aw_c (tgt := 221) aj_d224 rfl rfl (fun q41 => ?_) (fun q41 => ?_)
                  · have q41 : x36.toInt ≥ x40.toInt := aw_t_ge (a := x36.toInt) (b := x40.toInt) rfl rfl q41
                    refine aw_e aj_d224 rfl rfl ?_
                    exact ⟨(hI39).1, fr38, rfl, (by rw [show (S.2.2.1 10 (aw_h S)).toInt.toNat = (x36.toInt).toNat by omega]; exact wn187)⟩
                  · have q41 : x36.toInt < x40.toInt := aw_t_ge (a := x36.toInt) (b := x40.toInt) rfl rfl q41
                    refine aw_l2 aj_d224 rfl rfl hlv35_0 ?_
                    refine aw_l2 aj_d224 rfl rfl hlv35_0 ?_
                    refine aw_g hU.1 aj_d224 rfl rfl (by decide) (v := .ref 129) rfl ?_
                    refine aw_l0 aj_d224 rfl rfl hlv35_1 ?_
                    refine aw_n aj_d224 rfl rfl ?_
                    refine aw_mul aj_d224 rfl (a := (S.1 37).toInt) (b := (20 : Int)) rfl rfl (by omega) (by omega) (fun x42 ex42 => ?_)
                    refine aw_l0 aj_d224 rfl rfl hlv35_3 ?_
                    refine aw_add aj_d224 rfl (a := x42.toInt) (b := x36.toInt) rfl rfl (by omega) (by omega) (fun x43 ex43 => ?_)
                    refine aw_n aj_d224 rfl rfl ?_
                    refine aw_mul aj_d224 rfl (a := x43.toInt) (b := (32 : Int)) rfl rfl (by omega) (by omega) (fun x44 ex44 => ?_)
                    refine aw_l0 aj_d224 rfl rfl hlv35_2 ?_
                    refine aw_k hU.1 aj_d224 rfl rfl [_, _, _] rfl rfl rfl (Nat.le_of_ble_eq_true rfl) (ar_spread12 hU (hI39).1 (by omega) (x := x44) (y := x10) (by omega) (by omega)) ?_
                    rintro _ S45 ⟨hT45, fc45, rfl, sp45⟩
                    have c46 : (S34.1 37).toInt = (S.1 37).toInt := (congrArg Int32.toInt (fr38.1 37 (by decide)).1).trans rfl
                    have b47 : 0 ≤ (S34.1 37).toInt ∧ (S34.1 37).toInt ≤ 1 := aw_bd_f hs (hI39).1 (by decide) rfl
                    have wn45 : ar_wn (aw_h S) L ((S.2.2.1 5 (aw_h S)).toInt) (S.2.2.1 12) (S45.2.2.1 12) ((x36.toInt).toNat + 1) := by
                      refine ar_wn_s (a := (x44.toInt).toNat) (c := (x36.toInt).toNat) (by unfold aw_h; omega) (by omega) (by unfold aw_h; omega) wn187 ?_ rfl
                      have eW : (S34.2.2.1 5 (aw_h S34)).toInt = (S.2.2.1 5 (aw_h S)).toInt := by
                        rw [show (S34.2.2.1 5) = S.2.2.1 5 from ((fr38.2 5 (by decide)).1.trans rfl)]
                        unfold aw_h
                        rw [show (S34.1 37).toInt = (S.1 37).toInt from c46]
                      rw [eW, show (x10.toInt).toNat = L by omega] at sp45
                      exact sp45
                    have fr48 := aw_fr_tr fr38 (aw_fr_sub (F := []) (A := [12]) (by decide) (by decide) fc45)
                    have hI49 : aw_I s h (aw_sm S45) S45 := ⟨hT45, aw_sm_rf⟩
                    show aw_W _ _ _ _ 215 lv35 [] _ _
                    refine aw_inc aj_d224 rfl hlv35_3 (a := x36.toInt) rfl (by omega) (by omega) (by decide) (by decide) (fun x50 ex50 => ?_)
                    obtain ⟨lv51, elv51⟩ : ∃ l, l = aj_set1 lv35 3 (.int x50) := ⟨_, rfl⟩
                    rw [← elv51]
                    have hlv51_0 : aj_lv lv51 0 = some (.ref 117) := cw_e1 elv51 hlv35_0 (by decide) (Or.inl (by decide))
                    have hlv51_1 : aj_lv lv51 1 = some (.int (S.1 37)) := cw_e1 elv51 hlv35_1 (by decide) (Or.inl (by decide))
                    have hlv51_2 : aj_lv lv51 2 = some (.int x10) := cw_e1 elv51 hlv35_2 (by decide) (Or.inr rfl)
                    have hlv51_3 : aj_lv lv51 3 = some (.int x50) := by rw [elv51]; exact ak_set1_eq _ _ _
                    show aw_W _ _ _ _ 218 lv51 [] _ _
                    refine aw_n aj_d224 rfl rfl ?_
                    exact ihL187_32 S45 lv51 (x50) hlv51_0 hlv51_1 hlv51_2 hlv51_3 ⟨(hI49).1, trivial⟩ fr48 (by omega) (by rw [show (x50.toInt).toNat = (x36.toInt).toNat + 1 by omega]; exact wn45) (by omega) (by omega)
              exact L187_32 _ S24 lv32 ((Int32.ofInt 0)) hlv32_0 hlv32_1 hlv32_2 hlv32_3 ⟨(hI29).1, hI27.2⟩ fr28 (by first | omega | decide) (by rw [(show (S24.2.2.1 12) = S.2.2.1 12 from Eq.trans rfl e12_123)]; exact ar_wn_0 (by first | rfl | omega)) (show (0 : Int) ≤ _ from b10) (Nat.lt_succ_self _)
            · have q31 : x26.toInt < x30.toInt := aw_t_ge (a := x26.toInt) (b := x30.toInt) rfl rfl q31
              refine aw_l0 aj_d224 rfl rfl hlv25_1 ?_
              refine aw_n aj_d224 rfl rfl ?_
              refine aw_mul aj_d224 rfl (a := (S.1 37).toInt) (b := (10 : Int)) rfl rfl (by omega) (by omega) (fun x52 ex52 => ?_)
              refine aw_l0 aj_d224 rfl rfl hlv25_3 ?_
              refine aw_add aj_d224 rfl (a := x52.toInt) (b := x26.toInt) rfl rfl (by omega) (by omega) (fun x53 ex53 => ?_)
              refine aw_t0 (j := 4) aj_d224 rfl (by decide) rfl ?_
              obtain ⟨lv54, elv54⟩ : ∃ l, l = aj_set1 lv25 4 (.int x53) := ⟨_, rfl⟩
              rw [← elv54]
              have hlv54_0 : aj_lv lv54 0 = some (.ref 117) := cw_e1 elv54 hlv25_0 (by decide) (Or.inl (by decide))
              have hlv54_1 : aj_lv lv54 1 = some (.int (S.1 37)) := cw_e1 elv54 hlv25_1 (by decide) (Or.inl (by decide))
              have hlv54_2 : aj_lv lv54 2 = some (.int x10) := cw_e1 elv54 hlv25_2 (by decide) (Or.inl (by decide))
              have hlv54_3 : aj_lv lv54 3 = some (.int x26) := cw_e1 elv54 hlv25_3 (by decide) (Or.inr rfl)
              have hlv54_4 : aj_lv lv54 4 = some (.int x53) := by rw [elv54]; exact ak_set1_eq _ _ _
              show aw_W _ _ _ _ 141 lv54 [] _ _
              refine aw_n aj_d224 rfl rfl ?_
              refine aw_t0 (j := 5) aj_d224 rfl (by decide) rfl ?_
              obtain ⟨lv55, elv55⟩ : ∃ l, l = aj_set1 lv54 5 (.int (Int32.ofInt 0)) := ⟨_, rfl⟩
              rw [← elv55]
              have hlv55_0 : aj_lv lv55 0 = some (.ref 117) := cw_e1 elv55 hlv54_0 (by decide) (Or.inl (by decide))
              have hlv55_1 : aj_lv lv55 1 = some (.int (S.1 37)) := cw_e1 elv55 hlv54_1 (by decide) (Or.inl (by decide))
              have hlv55_2 : aj_lv lv55 2 = some (.int x10) := cw_e1 elv55 hlv54_2 (by decide) (Or.inl (by decide))
              have hlv55_3 : aj_lv lv55 3 = some (.int x26) := cw_e1 elv55 hlv54_3 (by decide) (Or.inl (by decide))
              have hlv55_4 : aj_lv lv55 4 = some (.int x53) := cw_e1 elv55 hlv54_4 (by decide) (Or.inr rfl)
              have hlv55_5 : aj_lv lv55 5 = some (.int (Int32.ofInt 0)) := by rw [elv55]; exact ak_set1_eq _ _ _
              show aw_W _ _ _ _ 144 lv55 [] _ _
              have L144_55 : ∀ (N : Nat) (S57 : aj_S) (lv58 : aj_V) (x59 : Int32), (aj_lv lv58 0 = some (.ref 117)) → (aj_lv lv58 1 = some (.int (S.1 37))) → (aj_lv lv58 2 = some (.int x10)) → (aj_lv lv58 3 = some (.int x26)) → (aj_lv lv58 4 = some (.int x53)) → (aj_lv lv58 5 = some (.int x59)) → (aw_I s h ((fun _ => True)) S57) → (aw_fr [] [6, 12, 19] S S57) → (0 ≤ x59.toInt ∧ x59.toInt ≤ 30) → (S57.2.2.1 12 = S.2.2.1 12) → (30 - x59.toInt).toNat < N → aw_W tb h d aj_m224 144 lv58 [] S57 ((fun r S' => ak_Ty ak_TN s (aj_mh h S') ∧ aw_fr [] [6, 12, 19] S S' ∧ r = none ∧ ar_wn (aw_h S) L ((S.2.2.1 5 (aw_h S)).toInt) (S.2.2.1 12) (S'.2.2.1 12) (S.2.2.1 10 (aw_h S)).toInt.toNat)) := by
                intro N
                induction N with
                | zero =>
                  intro S57 lv58 x59 hlv58_0 hlv58_1 hlv58_2 hlv58_3 hlv58_4 hlv58_5 hI60 fr61 bx59 e12_144 hm
                  omega
                | succ N ihL144_55 =>
                  intro S57 lv58 x59 hlv58_0 hlv58_1 hlv58_2 hlv58_3 hlv58_4 hlv58_5 hI60 fr61 bx59 e12_144 hm
                  have hI62 : aw_I s h (aw_sm S57) S57 := ⟨hI60.1, aw_sm_rf⟩
                  refine aw_l0 aj_d224 rfl rfl hlv58_5 ?_
                  refine aw_l2 aj_d224 rfl rfl hlv58_0 ?_
                  refine aw_g hU.1 aj_d224 rfl rfl (by decide) (v := .ref 131) rfl ?_
                  refine aw_l0 aj_d224 rfl rfl hlv58_4 ?_
                  refine aw_ld (k := 14) hU.1 aj_d224 (Or.inl ⟨rfl, rfl⟩) rfl (by decide) (by decide) rfl (a := x53.toInt) rfl (by omega) (by omega) (fun x63 ex63 => ?_)
                  have bx63 : 0 ≤ x63.toInt ∧ x63.toInt ≤ 30 := by
                    rw [ex63]
                    exact aw_bd_a hs (hI62).1 (k := 14) (by decide) (by decide) rfl (by decide) rfl (by omega)
                  refine aw_c (tgt := 179) aj_d224 rfl rfl (fun q64 => ?_) (fun q64 => ?_)
                  · have q64 : x59.toInt ≥ x63.toInt := aw_t_ge (a := x59.toInt) (b := x63.toInt) rfl rfl q64
                    refine aw_inc aj_d224 rfl hlv58_3 (a := x26.toInt) rfl (by omega) (by omega) (by decide) (by decide) (fun x65 ex65 => ?_)
                    obtain ⟨lv66, elv66⟩ : ∃ l, l = aj_set1 lv58 3 (.int x65) := ⟨_, rfl⟩
                    rw [← elv66]
                    have hlv66_0 : aj_lv lv66 0 = some (.ref 117) := cw_e1 elv66 hlv58_0 (by decide) (Or.inl (by decide))
                    have hlv66_1 : aj_lv lv66 1 = some (.int (S.1 37)) := cw_e1 elv66 hlv58_1 (by decide) (Or.inl (by decide))
                    have hlv66_2 : aj_lv lv66 2 = some (.int x10) := cw_e1 elv66 hlv58_2 (by decide) (Or.inr rfl)
                    have hlv66_3 : aj_lv lv66 3 = some (.int x65) := by rw [elv66]; exact ak_set1_eq _ _ _
                    show aw_W _ _ _ _ 182 lv66 [] _ _
                    refine aw_n aj_d224 rfl rfl ?_
                    exact ihL123_22 S57 lv66 (x65) hlv66_0 hlv66_1 hlv66_2 hlv66_3 ⟨(hI62).1, hI60.2⟩ fr61 (by omega) (show (S57.2.2.1 12) = S.2.2.1 12 from Eq.trans rfl e12_144) (by omega)
                  · have q64 : x59.toInt < x63.toInt := aw_t_ge (a := x59.toInt) (b := x63.toInt) rfl rfl q64
                    refine aw_l2 aj_d224 rfl rfl hlv58_0 ?_
                    refine aw_l2 aj_d224 rfl rfl hlv58_0 ?_
                    refine aw_g hU.1 aj_d224 rfl rfl (by decide) (v := .ref 136) rfl ?_
                    refine aw_l2 aj_d224 rfl rfl hlv58_0 ?_
                    refine aw_l0 aj_d224 rfl rfl hlv58_4 ?_
                    refine aw_l0 aj_d224 rfl rfl hlv58_5 ?_
                    refine aw_k hU.1 aj_d224 rfl rfl [_, _] rfl rfl rfl (Nat.le_of_ble_eq_true rfl) (ar_at (by omega) (a := x53.toInt) (b := x59.toInt) rfl rfl (by omega) (by omega)) ?_
                    rintro _ zx67 ⟨fx67, x67, rfl, ex67⟩
                    rw [fx67]
                    show aw_W _ _ _ _ 169 lv58 [.int x67, .ref 136, .ref 117] _ _
                    refine aw_l0 aj_d224 rfl rfl hlv58_2 ?_
                    refine aw_k hU.1 aj_d224 rfl rfl [_, _, _] rfl rfl rfl (Nat.le_of_ble_eq_true rfl) (ar_spread19 hU (hI62).1 (by omega) (x := x67) (y := x10) (by omega) (by omega)) ?_
                    rintro _ S68 ⟨hT68, fc68, rfl, sp68⟩
                    have fr69 := aw_fr_tr fr61 (aw_fr_sub (F := []) (A := [19]) (by decide) (by decide) fc68)
                    have hI70 : aw_I s h (aw_sm S68) S68 := ⟨hT68, aw_sm_rf⟩
                    show aw_W _ _ _ _ 173 lv58 [] _ _
                    refine aw_inc aj_d224 rfl hlv58_5 (a := x59.toInt) rfl (by omega) (by omega) (by decide) (by decide) (fun x71 ex71 => ?_)
                    obtain ⟨lv72, elv72⟩ : ∃ l, l = aj_set1 lv58 5 (.int x71) := ⟨_, rfl⟩
                    rw [← elv72]
                    have hlv72_0 : aj_lv lv72 0 = some (.ref 117) := cw_e1 elv72 hlv58_0 (by decide) (Or.inl (by decide))
                    have hlv72_1 : aj_lv lv72 1 = some (.int (S.1 37)) := cw_e1 elv72 hlv58_1 (by decide) (Or.inl (by decide))
                    have hlv72_2 : aj_lv lv72 2 = some (.int x10) := cw_e1 elv72 hlv58_2 (by decide) (Or.inl (by decide))
                    have hlv72_3 : aj_lv lv72 3 = some (.int x26) := cw_e1 elv72 hlv58_3 (by decide) (Or.inl (by decide))
                    have hlv72_4 : aj_lv lv72 4 = some (.int x53) := cw_e1 elv72 hlv58_4 (by decide) (Or.inr rfl)
                    have hlv72_5 : aj_lv lv72 5 = some (.int x71) := by rw [elv72]; exact ak_set1_eq _ _ _
                    show aw_W _ _ _ _ 176 lv72 [] _ _
                    refine aw_n aj_d224 rfl rfl ?_
                    exact ihL144_55 S68 lv72 (x71) hlv72_0 hlv72_1 hlv72_2 hlv72_3 hlv72_4 hlv72_5 ⟨(hI70).1, trivial⟩ fr69 (by omega) (show (S68.2.2.1 12) = S.2.2.1 12 from Eq.trans ((fc68.2 12 (by decide)).1.trans rfl) e12_144) (by omega)
              exact L144_55 _ S24 lv55 ((Int32.ofInt 0)) hlv55_0 hlv55_1 hlv55_2 hlv55_3 hlv55_4 hlv55_5 ⟨(hI29).1, hI27.2⟩ fr28 (by first | omega | decide) (show (S24.2.2.1 12) = S.2.2.1 12 from Eq.trans rfl e12_123) (Nat.lt_succ_self _)
        exact L123_22 _ S14 lv22 ((Int32.ofInt 0)) hlv22_0 hlv22_1 hlv22_2 hlv22_3 ⟨(hI19).1, hI17.2⟩ fr18 (by first | omega | decide) (show (S14.2.2.1 12) = S.2.2.1 12 from Eq.trans rfl e12_26) (Nat.lt_succ_self _)
      · have q21 : x16.toInt < x20.toInt := aw_t_ge (a := x16.toInt) (b := x20.toInt) rfl rfl q21
        refine aw_l0 aj_d224 rfl rfl hlv15_3 ?_
        refine aw_t0 (j := 4) aj_d224 rfl (by decide) rfl ?_
        obtain ⟨lv73, elv73⟩ : ∃ l, l = aj_set1 lv15 4 (.int x16) := ⟨_, rfl⟩
        rw [← elv73]
        have hlv73_0 : aj_lv lv73 0 = some (.ref 117) := cw_e1 elv73 hlv15_0 (by decide) (Or.inl (by decide))
        have hlv73_1 : aj_lv lv73 1 = some (.int (S.1 37)) := cw_e1 elv73 hlv15_1 (by decide) (Or.inl (by decide))
        have hlv73_2 : aj_lv lv73 2 = some (.int x10) := cw_e1 elv73 hlv15_2 (by decide) (Or.inl (by decide))
        have hlv73_3 : aj_lv lv73 3 = some (.int x16) := cw_e1 elv73 hlv15_3 (by decide) (Or.inr rfl)
        have hlv73_4 : aj_lv lv73 4 = some (.int x16) := by rw [elv73]; exact ak_set1_eq _ _ _
        show aw_W _ _ _ _ 39 lv73 [] _ _
        refine aw_l2 aj_d224 rfl rfl hlv73_0 ?_
        refine aw_g hU.1 aj_d224 rfl rfl (by decide) (v := .ref 118) rfl ?_
        refine aw_l0 aj_d224 rfl rfl hlv73_1 ?_
        refine aw_ld (k := 1) hU.1 aj_d224 (Or.inl ⟨rfl, rfl⟩) rfl (by decide) (by decide) rfl (a := (S.1 37).toInt) rfl (by omega) (by omega) (fun x74 ex74 => ?_)
        have bx74 : 0 ≤ x74.toInt ∧ x74.toInt ≤ 8 := by
          rw [ex74]
          exact aw_bd_a hs (hI19).1 (k := 1) (by decide) (by decide) rfl (by decide) rfl (by omega)
        have ftx74 : x74.toInt = (S.2.2.1 1 ((S.1 37).toInt).toNat).toInt := congrArg Int32.toInt (ex74.trans (congrFun ((fr18.2 1 (by decide)).1.trans rfl) _))
        have yx74 : x74.toInt = (S.2.2.1 1 (aw_h S)).toInt := (congrArg Int32.toInt ex74).trans (by first | (rw [show (S14.2.2.1 1) = S.2.2.1 1 from ((fr18.2 1 (by decide)).1.trans rfl)]; exact congrArg (fun j => (S.2.2.1 1 j).toInt) (by first | rfl | (unfold aw_h; omega))) | exact congrArg (fun j => (S.2.2.1 1 j).toInt) (by first | rfl | (unfold aw_h; omega)))
        refine aw_n aj_d224 rfl rfl ?_
        refine aw_sub aj_d224 rfl (a := x74.toInt) (b := (1 : Int)) rfl rfl (by omega) (by omega) (fun x75 ex75 => ?_)
        refine aw_t0 (j := 5) aj_d224 rfl (by decide) rfl ?_
        obtain ⟨lv76, elv76⟩ : ∃ l, l = aj_set1 lv73 5 (.int x75) := ⟨_, rfl⟩
        rw [← elv76]
        have hlv76_0 : aj_lv lv76 0 = some (.ref 117) := cw_e1 elv76 hlv73_0 (by decide) (Or.inl (by decide))
        have hlv76_1 : aj_lv lv76 1 = some (.int (S.1 37)) := cw_e1 elv76 hlv73_1 (by decide) (Or.inl (by decide))
        have hlv76_2 : aj_lv lv76 2 = some (.int x10) := cw_e1 elv76 hlv73_2 (by decide) (Or.inl (by decide))
        have hlv76_3 : aj_lv lv76 3 = some (.int x16) := cw_e1 elv76 hlv73_3 (by decide) (Or.inl (by decide))
        have hlv76_4 : aj_lv lv76 4 = some (.int x16) := cw_e1 elv76 hlv73_4 (by decide) (Or.inr rfl)
        have hlv76_5 : aj_lv lv76 5 = some (.int x75) := by rw [elv76]; exact ak_set1_eq _ _ _
        show aw_W _ _ _ _ 49 lv76 [] _ _
        have L49_76 : ∀ (N : Nat) (S78 : aj_S) (lv79 : aj_V) (x80 : Int32) (x81 : Int32), (aj_lv lv79 0 = some (.ref 117)) → (aj_lv lv79 1 = some (.int (S.1 37))) → (aj_lv lv79 2 = some (.int x10)) → (aj_lv lv79 3 = some (.int x16)) → (aj_lv lv79 4 = some (.int x80)) → (aj_lv lv79 5 = some (.int x81)) → (aw_I s h ((fun _ => True)) S78) → (aw_fr [] [6, 12, 19] S S78) → (0 ≤ x80.toInt ∧ x80.toInt ≤ 1023) → ((-1) ≤ x81.toInt ∧ x81.toInt ≤ 7) → (x81.toInt + 1 ≤ (S.2.2.1 1 (aw_h S)).toInt) → (S78.2.2.1 12 = S.2.2.1 12) → (x81.toInt + 1).toNat < N → aw_W tb h d aj_m224 49 lv79 [] S78 ((fun r S' => ak_Ty ak_TN s (aj_mh h S') ∧ aw_fr [] [6, 12, 19] S S' ∧ r = none ∧ ar_wn (aw_h S) L ((S.2.2.1 5 (aw_h S)).toInt) (S.2.2.1 12) (S'.2.2.1 12) (S.2.2.1 10 (aw_h S)).toInt.toNat)) := by
          intro N
          induction N with
          | zero =>
            intro S78 lv79 x80 x81 hlv79_0 hlv79_1 hlv79_2 hlv79_3 hlv79_4 hlv79_5 hI82 fr83 bx80 bx81 u49 e12_49 hm
            omega
          | succ N ihL49_76 =>
            intro S78 lv79 x80 x81 hlv79_0 hlv79_1 hlv79_2 hlv79_3 hlv79_4 hlv79_5 hI82 fr83 bx80 bx81 u49 e12_49 hm
            have hI84 : aw_I s h (aw_sm S78) S78 := ⟨hI82.1, aw_sm_rf⟩
            refine aw_l0 aj_d224 rfl rfl hlv79_5 ?_
            refine aw_z (tgt := 115) aj_d224 rfl rfl (fun q85 => ?_) (fun q85 => ?_)
            · have q85 : x81.toInt < (0 : Int) := aw_t_lt (a := x81.toInt) (b := (0 : Int)) rfl rfl q85
              refine aw_inc aj_d224 rfl hlv79_3 (a := x16.toInt) rfl (by omega) (by omega) (by decide) (by decide) (fun x86 ex86 => ?_)
              obtain ⟨lv87, elv87⟩ : ∃ l, l = aj_set1 lv79 3 (.int x86) := ⟨_, rfl⟩
              rw [← elv87]
              have hlv87_0 : aj_lv lv87 0 = some (.ref 117) := cw_e1 elv87 hlv79_0 (by decide) (Or.inl (by decide))
              have hlv87_1 : aj_lv lv87 1 = some (.int (S.1 37)) := cw_e1 elv87 hlv79_1 (by decide) (Or.inl (by decide))
              have hlv87_2 : aj_lv lv87 2 = some (.int x10) := cw_e1 elv87 hlv79_2 (by decide) (Or.inr rfl)
              have hlv87_3 : aj_lv lv87 3 = some (.int x86) := by rw [elv87]; exact ak_set1_eq _ _ _
              show aw_W _ _ _ _ 118 lv87 [] _ _
              refine aw_n aj_d224 rfl rfl ?_
              exact ihL26_12 S78 lv87 (x86) hlv87_0 hlv87_1 hlv87_2 hlv87_3 ⟨(hI84).1, hI82.2⟩ fr83 (by omega) (show (S78.2.2.1 12) = S.2.2.1 12 from Eq.trans rfl e12_49) (by omega)
            · have q85 : x81.toInt ≥ (0 : Int) := aw_t_lt (a := x81.toInt) (b := (0 : Int)) rfl rfl q85
              refine aw_l0 aj_d224 rfl rfl hlv79_1 ?_
              refine aw_n aj_d224 rfl rfl ?_
              refine aw_mul aj_d224 rfl (a := (S.1 37).toInt) (b := (8 : Int)) rfl rfl (by omega) (by omega) (fun x88 ex88 => ?_)
              refine aw_l0 aj_d224 rfl rfl hlv79_5 ?_
              refine aw_add aj_d224 rfl (a := x88.toInt) (b := x81.toInt) rfl rfl (by omega) (by omega) (fun x89 ex89 => ?_)
              refine aw_t0 (j := 6) aj_d224 rfl (by decide) rfl ?_
              obtain ⟨lv90, elv90⟩ : ∃ l, l = aj_set1 lv79 6 (.int x89) := ⟨_, rfl⟩
              rw [← elv90]
              have hlv90_0 : aj_lv lv90 0 = some (.ref 117) := cw_e1 elv90 hlv79_0 (by decide) (Or.inl (by decide))
              have hlv90_1 : aj_lv lv90 1 = some (.int (S.1 37)) := cw_e1 elv90 hlv79_1 (by decide) (Or.inl (by decide))
              have hlv90_2 : aj_lv lv90 2 = some (.int x10) := cw_e1 elv90 hlv79_2 (by decide) (Or.inl (by decide))
              have hlv90_3 : aj_lv lv90 3 = some (.int x16) := cw_e1 elv90 hlv79_3 (by decide) (Or.inl (by decide))
              have hlv90_4 : aj_lv lv90 4 = some (.int x80) := cw_e1 elv90 hlv79_4 (by decide) (Or.inl (by decide))
              have hlv90_5 : aj_lv lv90 5 = some (.int x81) := cw_e1 elv90 hlv79_5 (by decide) (Or.inr rfl)
              have hlv90_6 : aj_lv lv90 6 = some (.int x89) := by rw [elv90]; exact ak_set1_eq _ _ _
              show aw_W _ _ _ _ 63 lv90 [] _ _
              refine aw_l2 aj_d224 rfl rfl hlv90_0 ?_
              refine aw_g hU.1 aj_d224 rfl rfl (by decide) (v := .ref 123) rfl ?_
              refine aw_l0 aj_d224 rfl rfl hlv90_6 ?_
              refine aw_n aj_d224 rfl rfl ?_
              refine aw_mul aj_d224 rfl (a := x89.toInt) (b := (1024 : Int)) rfl rfl (by omega) (by omega) (fun x91 ex91 => ?_)
              refine aw_l0 aj_d224 rfl rfl hlv90_3 ?_
              refine aw_add aj_d224 rfl (a := x91.toInt) (b := x16.toInt) rfl rfl (by omega) (by omega) (fun x92 ex92 => ?_)
              refine aw_l2 aj_d224 rfl rfl hlv90_0 ?_
              refine aw_g hU.1 aj_d224 rfl rfl (by decide) (v := .ref 121) rfl ?_
              refine aw_l0 aj_d224 rfl rfl hlv90_6 ?_
              refine aw_n aj_d224 rfl rfl ?_
              refine aw_mul aj_d224 rfl (a := x89.toInt) (b := (64 : Int)) rfl rfl (by omega) (by omega) (fun x93 ex93 => ?_)
              refine aw_l0 aj_d224 rfl rfl hlv90_4 ?_
              refine aw_l2 aj_d224 rfl rfl hlv90_0 ?_
              refine aw_g hU.1 aj_d224 rfl rfl (by decide) (v := .ref 120) rfl ?_
              refine aw_l0 aj_d224 rfl rfl hlv90_6 ?_
              refine aw_ld (k := 3) hU.1 aj_d224 (Or.inl ⟨rfl, rfl⟩) rfl (by decide) (by decide) rfl (a := x89.toInt) rfl (by omega) (by omega) (fun x94 ex94 => ?_)
              have bx94 : 0 ≤ x94.toInt ∧ x94.toInt ≤ 64 := by
                rw [ex94]
                exact aw_bd_a hs (hI84).1 (k := 3) (by decide) (by decide) rfl (by decide) rfl (by omega)
              have ftx94 : x94.toInt = (S.2.2.1 3 (x89.toInt).toNat).toInt := congrArg Int32.toInt (ex94.trans (congrFun ((fr83.2 3 (by decide)).1.trans rfl) _))
              have yx94 : x94.toInt = (S.2.2.1 3 (aw_h S * 8 + (x81.toInt).toNat)).toInt := (congrArg Int32.toInt ex94).trans (by first | (rw [show (S78.2.2.1 3) = S.2.2.1 3 from ((fr83.2 3 (by decide)).1.trans rfl)]; exact congrArg (fun j => (S.2.2.1 3 j).toInt) (by first | rfl | (unfold aw_h; omega))) | exact congrArg (fun j => (S.2.2.1 3 j).toInt) (by first | rfl | (unfold aw_h; omega)))
              have mx94 := hmany (x81.toInt).toNat (by omega)
              refine aw_rem aj_d224 rfl (a := x80.toInt) (b := x94.toInt) rfl rfl (by omega) (by omega) (fun x95 ex95 => ?_)
              have emx95 : 0 ≤ x80.toInt % x94.toInt ∧ x80.toInt % x94.toInt < x94.toInt := ⟨Int.emod_nonneg _ (by omega), Int.emod_lt_of_pos _ (by omega)⟩
              refine aw_add aj_d224 rfl (a := x93.toInt) (b := x95.toInt) rfl rfl (by omega) (by omega) (fun x96 ex96 => ?_)
              refine aw_ld (k := 4) hU.1 aj_d224 (Or.inl ⟨rfl, rfl⟩) rfl (by decide) (by decide) rfl (a := x96.toInt) rfl (by omega) (by omega) (fun x97 ex97 => ?_)
              refine aw_st (k := 6) hU.1 aj_d224 (Or.inl ⟨rfl, rfl⟩) rfl (by decide) (by decide) rfl (a := x92.toInt) rfl (by omega) (by omega) ?_
              have hI98 := aw_I_a (aw_UV hU aw_Gs_sm) (k := 6) (j := (x92.toInt).toNat) (v := aj_nar 0 x97) hI84 (by decide) (by decide) (by decide) rfl (by decide) (by decide) rfl (aw_full _)
              have fr99 := aw_fr_a (k := 6) (j := (x92.toInt).toNat) (v := aj_nar 0 x97) (by decide) fr83
              refine aw_l0 aj_d224 rfl rfl hlv90_4 ?_
              refine aw_l2 aj_d224 rfl rfl hlv90_0 ?_
              refine aw_g hU.1 aj_d224 rfl rfl (by decide) (v := .ref 120) rfl ?_
              refine aw_l0 aj_d224 rfl rfl hlv90_6 ?_
              refine aw_ld (k := 3) hU.1 aj_d224 (Or.inl ⟨rfl, rfl⟩) rfl (by decide) (by decide) rfl (a := x89.toInt) rfl (by omega) (by omega) (fun x100 ex100 => ?_)
              have bx100 : 0 ≤ x100.toInt ∧ x100.toInt ≤ 64 := by
                rw [ex100]
                exact aw_bd_a hs (hI98).1 (k := 3) (by decide) (by decide) rfl (by decide) rfl (by omega)
              have ftx100 : x100.toInt = (S.2.2.1 3 (x89.toInt).toNat).toInt := congrArg Int32.toInt (ex100.trans (congrFun ((fr83.2 3 (by decide)).1.trans rfl) _))
              have yx100 : x100.toInt = (S.2.2.1 3 (aw_h S * 8 + (x81.toInt).toNat)).toInt := (congrArg Int32.toInt ex100).trans (by first | (rw [show ((aw_wa S78 6 (x92.toInt).toNat (aj_nar 0 x97)).2.2.1 3) = S.2.2.1 3 from ((fr83.2 3 (by decide)).1.trans rfl)]; exact congrArg (fun j => (S.2.2.1 3 j).toInt) (by first | rfl | (unfold aw_h; omega))) | exact congrArg (fun j => (S.2.2.1 3 j).toInt) (by first | rfl | (unfold aw_h; omega)))
              have mx100 := hmany (x81.toInt).toNat (by omega)
              refine aw_div aj_d224 rfl (a := x80.toInt) (b := x100.toInt) rfl rfl (by omega) (by omega) (fun x101 ex101 => ?_)
              have edx101 : 0 ≤ x80.toInt / x100.toInt ∧ x80.toInt / x100.toInt ≤ x80.toInt := ⟨Int.ediv_nonneg (by omega) (by omega), Int.ediv_le_self _ (by omega)⟩
              refine aw_t0 (j := 4) aj_d224 rfl (by decide) rfl ?_
              obtain ⟨lv102, elv102⟩ : ∃ l, l = aj_set1 lv90 4 (.int x101) := ⟨_, rfl⟩
              rw [← elv102]
              have hlv102_0 : aj_lv lv102 0 = some (.ref 117) := cw_e1 elv102 hlv90_0 (by decide) (Or.inl (by decide))
              have hlv102_1 : aj_lv lv102 1 = some (.int (S.1 37)) := cw_e1 elv102 hlv90_1 (by decide) (Or.inl (by decide))
              have hlv102_2 : aj_lv lv102 2 = some (.int x10) := cw_e1 elv102 hlv90_2 (by decide) (Or.inl (by decide))
              have hlv102_3 : aj_lv lv102 3 = some (.int x16) := cw_e1 elv102 hlv90_3 (by decide) (Or.inr rfl)
              have hlv102_5 : aj_lv lv102 5 = some (.int x81) := cw_e1 elv102 hlv90_5 (by decide) (Or.inl (by decide))
              have hlv102_4 : aj_lv lv102 4 = some (.int x101) := by rw [elv102]; exact ak_set1_eq _ _ _
              show aw_W _ _ _ _ 109 lv102 [] _ _
              refine aw_inc aj_d224 rfl hlv102_5 (a := x81.toInt) rfl (by omega) (by omega) (by decide) (by decide) (fun x103 ex103 => ?_)
              obtain ⟨lv104, elv104⟩ : ∃ l, l = aj_set1 lv102 5 (.int x103) := ⟨_, rfl⟩
              rw [← elv104]
              have hlv104_0 : aj_lv lv104 0 = some (.ref 117) := cw_e1 elv104 hlv102_0 (by decide) (Or.inl (by decide))
              have hlv104_1 : aj_lv lv104 1 = some (.int (S.1 37)) := cw_e1 elv104 hlv102_1 (by decide) (Or.inl (by decide))
              have hlv104_2 : aj_lv lv104 2 = some (.int x10) := cw_e1 elv104 hlv102_2 (by decide) (Or.inl (by decide))
              have hlv104_3 : aj_lv lv104 3 = some (.int x16) := cw_e1 elv104 hlv102_3 (by decide) (Or.inl (by decide))
              have hlv104_4 : aj_lv lv104 4 = some (.int x101) := cw_e1 elv104 hlv102_4 (by decide) (Or.inr rfl)
              have hlv104_5 : aj_lv lv104 5 = some (.int x103) := by rw [elv104]; exact ak_set1_eq _ _ _
              show aw_W _ _ _ _ 112 lv104 [] _ _
              refine aw_n aj_d224 rfl rfl ?_
              exact ihL49_76 (aw_wa S78 6 (x92.toInt).toNat (aj_nar 0 x97)) lv104 (x101) (x103) hlv104_0 hlv104_1 hlv104_2 hlv104_3 hlv104_4 hlv104_5 ⟨(hI98).1, trivial⟩ fr99 (by omega) (by omega) (by omega) (show ((aw_wa S78 6 (x92.toInt).toNat (aj_nar 0 x97)).2.2.1 12) = S.2.2.1 12 from Eq.trans rfl e12_49) (by omega)
        exact L49_76 _ S14 lv76 (x16) (x75) hlv76_0 hlv76_1 hlv76_2 hlv76_3 hlv76_4 hlv76_5 ⟨(hI19).1, hI17.2⟩ fr18 (by omega) (by omega) (by omega) (show (S14.2.2.1 12) = S.2.2.1 12 from Eq.trans rfl e12_26) (Nat.lt_succ_self _)
  exact L26_12 _ S lv12 ((Int32.ofInt 0)) hlv12_0 hlv12_1 hlv12_2 hlv12_3 ⟨(hI2).1, trivial⟩ fr3 (by first | omega | decide) (show (S.2.2.1 12) = S.2.2.1 12 from Eq.trans rfl rfl) (Nat.lt_succ_self _)
end ARA20
