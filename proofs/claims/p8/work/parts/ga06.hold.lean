/-! VALUES, WORLDS THAT HOLD, TABLES AND ROWS THERE (printed by wip/p2/ref/r06.py) -/
section ARA6
variable {tb : aj_T} {s : List Nat} {h : aj_H} {S S' S1 : aj_S} {d n : Nat} {g g' : aw_gh} {F A : List Nat} {G : aj_S → Prop}
theorem ar_slotHalf (hU : aw_U tb s h) (hT : ak_Ty ak_TN s (aj_mh h S)) (hd : 1 ≤ d) {t : Int32} (h1 : 0 ≤ t.toInt ∧ t.toInt ≤ 49) : aw_K tb h d 259 [.ref 117, .int t] S (fun r S' => S' = S ∧ ∃ b : Int32, r = some (.int b) ∧ 0 ≤ b.toInt ∧ b.toInt ≤ 1) := by
  obtain ⟨d, rfl⟩ : ∃ e, d = e + 1 := ⟨d - 1, by omega⟩
  have hs : aw_sT s := aw_hy_sT hU.2.2
  refine aw_m aj_m259_at rfl (Nat.le_of_ble_eq_true rfl) ?_
  show aw_W _ _ _ _ 0 [(0, .ref 117), (1, .int t)] [] _ _
  obtain ⟨lv1, elv1⟩ : ∃ l : aj_V, l = [(0, .ref 117), (1, .int t)] := ⟨_, rfl⟩
  rw [← elv1]
  have hlv1_0 : aj_lv lv1 0 = some (.ref 117) := by rw [elv1]; rfl
  have hlv1_1 : aj_lv lv1 1 = some (.int t) := by rw [elv1]; rfl
  have hI2 : aw_I s h (aw_sm S) S := ⟨hT, aw_sm_rf⟩
  have fr3 : aw_fr [] [] S S := aw_fr_rf
  refine aw_l0 aj_d259 rfl rfl hlv1_1 ?_
  refine aw_n aj_d259 rfl rfl ?_
  refine aw_c (tgt := 13) aj_d259 rfl rfl (fun q4 => ?_) (fun q4 => ?_)
  · have q4 : t.toInt ≥ (20 : Int) := aw_t_ge (a := t.toInt) (b := (20 : Int)) rfl rfl q4
    refine aw_l2 aj_d259 rfl rfl hlv1_0 ?_
    have b5 : 0 ≤ (S.1 37).toInt ∧ (S.1 37).toInt ≤ 1 := aw_bd_f hs (hI2).1 (by decide) rfl
    refine aw_g hU.1 aj_d259 rfl rfl (by decide) (v := .int (S.1 37)) rfl ?_
    refine aw_e aj_d259 rfl rfl ?_
    exact ⟨rfl, _, rfl, by omega⟩
  · have q4 : t.toInt < (20 : Int) := aw_t_ge (a := t.toInt) (b := (20 : Int)) rfl rfl q4
    refine aw_l0 aj_d259 rfl rfl hlv1_1 ?_
    refine aw_n aj_d259 rfl rfl ?_
    refine aw_div aj_d259 rfl (a := t.toInt) (b := (10 : Int)) rfl rfl (by omega) (by omega) (fun x6 ex6 => ?_)
    refine aw_n aj_d259 rfl rfl ?_
    refine aw_e aj_d259 rfl rfl ?_
    exact ⟨rfl, _, rfl, by omega⟩
theorem ar_valueAt (hU : aw_U tb s h) (hT : ak_Ty ak_TN s (aj_mh h S)) (hkv : aw_kv S) (hd : 3 ≤ d) {t r c x : Int32} (h1 : 0 ≤ t.toInt ∧ t.toInt ≤ 49) (h2 : 0 ≤ r.toInt ∧ r.toInt ≤ 29) (h3 : -1 ≤ c.toInt ∧ c.toInt ≤ 7) (h5 : 0 ≤ (t.toInt * 30 + r.toInt) * 8 + c.toInt) (h4 : 0 ≤ x.toInt ∧ x.toInt ≤ 1023) : aw_K tb h d 258 [.ref 117, .int t, .int r, .int c, .int x] S (fun r S' => S' = S ∧ ∃ b : Int32, r = some (.int b)) := by
  obtain ⟨d, rfl⟩ : ∃ e, d = e + 1 := ⟨d - 1, by omega⟩
  have hs : aw_sT s := aw_hy_sT hU.2.2
  refine aw_m aj_m258_at rfl (Nat.le_of_ble_eq_true rfl) ?_
  show aw_W _ _ _ _ 0 [(0, .ref 117), (1, .int t), (2, .int r), (3, .int c), (4, .int x)] [] _ _
  obtain ⟨lv7, elv7⟩ : ∃ l : aj_V, l = [(0, .ref 117), (1, .int t), (2, .int r), (3, .int c), (4, .int x)] := ⟨_, rfl⟩
  rw [← elv7]
  have hlv7_0 : aj_lv lv7 0 = some (.ref 117) := by rw [elv7]; rfl
  have hlv7_1 : aj_lv lv7 1 = some (.int t) := by rw [elv7]; rfl
  have hlv7_2 : aj_lv lv7 2 = some (.int r) := by rw [elv7]; rfl
  have hlv7_3 : aj_lv lv7 3 = some (.int c) := by rw [elv7]; rfl
  have hlv7_4 : aj_lv lv7 4 = some (.int x) := by rw [elv7]; rfl
  have hI8 : aw_I s h (aw_sm S) S := ⟨hT, aw_sm_rf⟩
  have fr9 : aw_fr [] [] S S := aw_fr_rf
  refine aw_l0 aj_d258 rfl rfl hlv7_1 ?_
  refine aw_l0 aj_d258 rfl rfl hlv7_2 ?_
  refine aw_l0 aj_d258 rfl rfl hlv7_3 ?_
  refine aw_ks aj_d258 rfl rfl rfl [_, _, _] rfl rfl (Nat.le_of_ble_eq_true rfl) (ar_cellAt (by omega) (a := t.toInt) (b := r.toInt) (c := c.toInt) rfl rfl rfl (by omega) (by omega) (by omega)) ?_
  rintro _ zx10 ⟨fx10, x10, rfl, ex10⟩
  rw [fx10]
  show aw_W _ _ _ _ 6 lv7 [.int x10] _ _
  refine aw_t0 (j := 5) aj_d258 rfl (by decide) rfl ?_
  obtain ⟨lv11, elv11⟩ : ∃ l, l = aj_set1 lv7 5 (.int x10) := ⟨_, rfl⟩
  rw [← elv11]
  have hlv11_0 : aj_lv lv11 0 = some (.ref 117) := cw_e1 elv11 hlv7_0 (by decide) (Or.inl (by decide))
  have hlv11_1 : aj_lv lv11 1 = some (.int t) := cw_e1 elv11 hlv7_1 (by decide) (Or.inl (by decide))
  have hlv11_4 : aj_lv lv11 4 = some (.int x) := cw_e1 elv11 hlv7_4 (by decide) (Or.inr rfl)
  have hlv11_5 : aj_lv lv11 5 = some (.int x10) := by rw [elv11]; exact ak_set1_eq _ _ _
  show aw_W _ _ _ _ 8 lv11 [] _ _
  refine aw_l2 aj_d258 rfl rfl hlv11_0 ?_
  refine aw_l2 aj_d258 rfl rfl hlv11_0 ?_
  refine aw_l0 aj_d258 rfl rfl hlv11_1 ?_
  refine aw_k hU.1 aj_d258 rfl rfl [_] rfl rfl rfl (Nat.le_of_ble_eq_true rfl) (ar_slotHalf hU (hI8).1 (by omega) (by omega)) ?_
  rintro _ zb12 ⟨fb12, b12, rfl, bbb12⟩
  rw [fb12]
  show aw_W _ _ _ _ 14 lv11 [.int b12, .ref 117] _ _
  refine aw_l2 aj_d258 rfl rfl hlv11_0 ?_
  refine aw_g hU.1 aj_d258 rfl rfl (by decide) (v := .ref 134) rfl ?_
  refine aw_l0 aj_d258 rfl rfl hlv11_5 ?_
  refine aw_ld (k := 17) hU.1 aj_d258 (Or.inr (Or.inr (Or.inr ⟨rfl, rfl⟩))) rfl (by decide) (by decide) rfl (a := ((t.toInt * 30 + r.toInt) * 8 + c.toInt)) ex10 (by omega) (by omega) (fun x13 ex13 => ?_)
  have bx13 : 0 ≤ x13.toInt ∧ x13.toInt ≤ 1 := by
    rw [ex13]
    exact aw_bd_a hs (hI8).1 (k := 17) (by decide) (by decide) rfl (by decide) rfl (by omega)
  refine aw_l2 aj_d258 rfl rfl hlv11_0 ?_
  refine aw_g hU.1 aj_d258 rfl rfl (by decide) (v := .ref 135) rfl ?_
  refine aw_l0 aj_d258 rfl rfl hlv11_5 ?_
  refine aw_ld (k := 18) hU.1 aj_d258 (Or.inl ⟨rfl, rfl⟩) rfl (by decide) (by decide) rfl (a := ((t.toInt * 30 + r.toInt) * 8 + c.toInt)) ex10 (by omega) (by omega) (fun x14 ex14 => ?_)
  refine aw_l0 aj_d258 rfl rfl hlv11_4 ?_
  refine aw_k hU.1 aj_d258 rfl rfl [_, _, _, _] rfl rfl rfl (Nat.le_of_ble_eq_true rfl) (ar_valued hU (hI8).1 (by omega) (k := x13) (v := x14) (x := x) (by omega) (by intro z; have y := hkv (((t.toInt * 30 + r.toInt) * 8 + c.toInt)).toNat (by omega) (by rw [← ex13]; exact z); rw [← ex14] at y; exact y) (by omega)) ?_
  rintro _ zb15 ⟨fb15, b15, rfl⟩
  rw [fb15]
  show aw_W _ _ _ _ 33 lv11 [.int b15] _ _
  refine aw_e aj_d258 rfl rfl ?_
  exact ⟨rfl, _, rfl⟩
theorem arc_258 (hU : aw_U tb s h) (hG : aw_Gs G) (hk : ∀ S, G S → aw_kv S) : ak_CT ak_TR (aw_SP s h G) aw_kap tb 3 ac_c258 := by
  refine ar_ofP (F := []) (A := []) hU hG ⟨rfl, rfl, rfl, rfl, rfl, rfl, rfl⟩ ⟨(fun _ z => nomatch z), (fun _ z => nomatch z)⟩ (fun d hd S as hI hA hQ => ?_)
  obtain ⟨v0, as, rfl, g0, hA⟩ := cw_gAc hA
  obtain ⟨v1, as, rfl, g1, hA⟩ := cw_gAc hA
  obtain ⟨v2, as, rfl, g2, hA⟩ := cw_gAc hA
  obtain ⟨v3, as, rfl, g3, hA⟩ := cw_gAc hA
  obtain ⟨v4, as, rfl, g4, hA⟩ := cw_gAc hA
  cases cw_gAn hA
  obtain rfl := aw_117 hU.2.2 g0
  obtain ⟨x1, rfl, b1⟩ := ak_gi g1
  obtain ⟨x2, rfl, b2⟩ := ak_gi g2
  obtain ⟨x3, rfl, b3⟩ := ak_gi g3
  obtain ⟨x4, rfl, b4⟩ := ak_gi g4
  dsimp only [ak_win] at b1 b2 b3 b4
  refine aw_mono ?_ (ar_valueAt hU hI.1 (hk S hI.2) hd b1 b2 (by omega) (by omega) b4)
  rintro r S' ⟨rfl, b, rfl⟩
  exact ⟨hI.1, aw_fr_rf, cw_full _, hI.2, Int.le_refl _⟩
theorem ar_isHeld (hU : aw_U tb s h) (hT : ak_Ty ak_TN s (aj_mh h S)) (hd : 2 ≤ d) {t x : Int32} (h1 : 0 ≤ t.toInt ∧ t.toInt ≤ 1) (h2 : 0 ≤ x.toInt ∧ x.toInt ≤ 1023) : aw_K tb h d 247 [.ref 117, .int t, .int x] S (fun r S' => S' = S ∧ ∃ b : Int32, r = some (.int b) ∧ ((b.toInt = 1 ∧ aw_held S (t.toInt).toNat (x.toInt).toNat) ∨ (b.toInt = 0 ∧ ¬ aw_held S (t.toInt).toNat (x.toInt).toNat))) := by
  obtain ⟨d, rfl⟩ : ∃ e, d = e + 1 := ⟨d - 1, by omega⟩
  have hs : aw_sT s := aw_hy_sT hU.2.2
  refine aw_m aj_m247_at rfl (Nat.le_of_ble_eq_true rfl) ?_
  show aw_W _ _ _ _ 0 [(0, .ref 117), (1, .int t), (2, .int x)] [] _ _
  obtain ⟨lv16, elv16⟩ : ∃ l : aj_V, l = [(0, .ref 117), (1, .int t), (2, .int x)] := ⟨_, rfl⟩
  rw [← elv16]
  have hlv16_0 : aj_lv lv16 0 = some (.ref 117) := by rw [elv16]; rfl
  have hlv16_1 : aj_lv lv16 1 = some (.int t) := by rw [elv16]; rfl
  have hlv16_2 : aj_lv lv16 2 = some (.int x) := by rw [elv16]; rfl
  have hI17 : aw_I s h (aw_sm S) S := ⟨hT, aw_sm_rf⟩
  have fr18 : aw_fr [] [] S S := aw_fr_rf
  refine aw_n aj_d247 rfl rfl ?_
  refine aw_t0 (j := 3) aj_d247 rfl (by decide) rfl ?_
  obtain ⟨lv19, elv19⟩ : ∃ l, l = aj_set1 lv16 3 (.int (Int32.ofInt 0)) := ⟨_, rfl⟩
  rw [← elv19]
  have hlv19_0 : aj_lv lv19 0 = some (.ref 117) := cw_e1 elv19 hlv16_0 (by decide) (Or.inl (by decide))
  have hlv19_1 : aj_lv lv19 1 = some (.int t) := cw_e1 elv19 hlv16_1 (by decide) (Or.inl (by decide))
  have hlv19_2 : aj_lv lv19 2 = some (.int x) := cw_e1 elv19 hlv16_2 (by decide) (Or.inr rfl)
  have hlv19_3 : aj_lv lv19 3 = some (.int (Int32.ofInt 0)) := by rw [elv19]; exact ak_set1_eq _ _ _
  show aw_W _ _ _ _ 2 lv19 [] _ _
  have L2_19 : ∀ (N : Nat) (lv22 : aj_V) (x23 : Int32), (aj_lv lv22 0 = some (.ref 117)) → (aj_lv lv22 1 = some (.int t)) → (aj_lv lv22 2 = some (.int x)) → (aj_lv lv22 3 = some (.int x23)) → (0 ≤ x23.toInt ∧ x23.toInt ≤ 20) → (∀ j : Nat, (j : Int) < x23.toInt → (aj_bitV (S.2.2.1 12) (nI (((t.toInt).toNat * 20 + j) * 32)) (nI (x.toInt).toNat)).toInt = 1) → (20 - x23.toInt).toNat < N → aw_W tb h d aj_m247 2 lv22 [] S ((fun r S' => S' = S ∧ ∃ b : Int32, r = some (.int b) ∧ ((b.toInt = 1 ∧ aw_held S (t.toInt).toNat (x.toInt).toNat) ∨ (b.toInt = 0 ∧ ¬ aw_held S (t.toInt).toNat (x.toInt).toNat)))) := by
    intro N
    induction N with
    | zero =>
      intro  lv22 x23 hlv22_0 hlv22_1 hlv22_2 hlv22_3 bx23 hold hm
      omega
    | succ N ihL2_19 =>
      intro  lv22 x23 hlv22_0 hlv22_1 hlv22_2 hlv22_3 bx23 hold hm
      refine aw_l0 aj_d247 rfl rfl hlv22_3 ?_
      refine aw_l2 aj_d247 rfl rfl hlv22_0 ?_
      refine aw_g hU.1 aj_d247 rfl rfl (by decide) (v := .ref 127) rfl ?_
      refine aw_l0 aj_d247 rfl rfl hlv22_1 ?_
      refine aw_ld (k := 10) hU.1 aj_d247 (Or.inl ⟨rfl, rfl⟩) rfl (by decide) (by decide) rfl (a := t.toInt) rfl (by omega) (by omega) (fun x26 ex26 => ?_)
      have bx26 : 0 ≤ x26.toInt ∧ x26.toInt ≤ 20 := by
        rw [ex26]
        exact aw_bd_a hs (hI17).1 (k := 10) (by decide) (by decide) rfl (by decide) rfl (by omega)
      have pe : x26.toInt = (S.2.2.1 10 (t.toInt).toNat).toInt := congrArg Int32.toInt ex26
      refine aw_c (tgt := 40) aj_d247 rfl rfl (fun q27 => ?_) (fun q27 => ?_)
      · have q27 : x23.toInt ≥ x26.toInt := aw_t_ge (a := x23.toInt) (b := x26.toInt) rfl rfl q27
        refine aw_n aj_d247 rfl rfl ?_
        refine aw_e aj_d247 rfl rfl ?_
        exact ⟨rfl, _, rfl, Or.inl ⟨rfl, fun j hj => hold j (by rw [← pe] at hj; omega)⟩⟩
      · have q27 : x23.toInt < x26.toInt := aw_t_ge (a := x23.toInt) (b := x26.toInt) rfl rfl q27
        refine aw_l2 aj_d247 rfl rfl hlv22_0 ?_
        refine aw_g hU.1 aj_d247 rfl rfl (by decide) (v := .ref 129) rfl ?_
        refine aw_l0 aj_d247 rfl rfl hlv22_1 ?_
        refine aw_n aj_d247 rfl rfl ?_
        refine aw_mul aj_d247 rfl (a := t.toInt) (b := (20 : Int)) rfl rfl (by omega) (by omega) (fun x28 ex28 => ?_)
        refine aw_l0 aj_d247 rfl rfl hlv22_3 ?_
        refine aw_add aj_d247 rfl (a := x28.toInt) (b := x23.toInt) rfl rfl (by omega) (by omega) (fun x29 ex29 => ?_)
        refine aw_n aj_d247 rfl rfl ?_
        refine aw_mul aj_d247 rfl (a := x29.toInt) (b := (32 : Int)) rfl rfl (by omega) (by omega) (fun x30 ex30 => ?_)
        refine aw_l0 aj_d247 rfl rfl hlv22_2 ?_
        refine aw_ks aj_d247 rfl rfl rfl [_, _, _] rfl rfl (Nat.le_of_ble_eq_true rfl) (ar_bit hU (by omega) (k := 12) (n := 1280) (by decide) (by decide) rfl (a := x30.toInt) (b := x.toInt) rfl rfl (by omega) (by omega) (by omega) (by decide)) ?_
        rintro _ zx31 ⟨fx31, x31, rfl, hx31, ex31⟩
        rw [fx31]
        show aw_W _ _ _ _ 29 lv22 [.int x31] _ _
        refine aw_z (tgt := 34) aj_d247 rfl rfl (fun q32 => ?_) (fun q32 => ?_)
        · have q32 : x31.toInt ≠ (0 : Int) := aw_t_ne (a := x31.toInt) (b := (0 : Int)) rfl rfl q32
          refine aw_inc aj_d247 rfl hlv22_3 (a := x23.toInt) rfl (by omega) (by omega) (by decide) (by decide) (fun x33 ex33 => ?_)
          obtain ⟨lv34, elv34⟩ : ∃ l, l = aj_set1 lv22 3 (.int x33) := ⟨_, rfl⟩
          rw [← elv34]
          have hlv34_0 : aj_lv lv34 0 = some (.ref 117) := cw_e1 elv34 hlv22_0 (by decide) (Or.inl (by decide))
          have hlv34_1 : aj_lv lv34 1 = some (.int t) := cw_e1 elv34 hlv22_1 (by decide) (Or.inl (by decide))
          have hlv34_2 : aj_lv lv34 2 = some (.int x) := cw_e1 elv34 hlv22_2 (by decide) (Or.inr rfl)
          have hlv34_3 : aj_lv lv34 3 = some (.int x33) := by rw [elv34]; exact ak_set1_eq _ _ _
          show aw_W _ _ _ _ 37 lv34 [] _ _
          refine aw_n aj_d247 rfl rfl ?_
          exact ihL2_19 lv34 (x33) hlv34_0 hlv34_1 hlv34_2 hlv34_3 (by omega) (fun j hj => by
              by_cases e : j = (x23).toInt.toNat
              · subst e
                rw [show nI (((t.toInt).toNat * 20 + (x23).toInt.toNat) * 32) = x30 from (aw_nI (by omega) (by omega)).symm, show nI (x.toInt).toNat = x from (aw_nI (by omega) (by omega)).symm, ← ex31]
                omega
              · exact hold j (by omega)) (by omega)
        · have q32 : x31.toInt = (0 : Int) := aw_t_ne (a := x31.toInt) (b := (0 : Int)) rfl rfl q32
          refine aw_n aj_d247 rfl rfl ?_
          refine aw_e aj_d247 rfl rfl ?_
          refine ⟨rfl, _, rfl, Or.inr ⟨rfl, fun z => ?_⟩⟩
          have y := z (x23).toInt.toNat (by rw [show (((x23).toInt.toNat : Nat) : Int) = (x23).toInt by omega]; rw [← pe]; omega)
          rw [show nI (((t.toInt).toNat * 20 + (x23).toInt.toNat) * 32) = x30 from (aw_nI (by omega) (by omega)).symm, show nI (x.toInt).toNat = x from (aw_nI (by omega) (by omega)).symm, ← ex31] at y
          omega
  exact L2_19 _ lv19 ((Int32.ofInt 0)) hlv19_0 hlv19_1 hlv19_2 hlv19_3 (by first | omega | decide) (fun j hj => absurd hj (by show ¬ ((j : Int) < 0); omega)) (Nat.lt_succ_self _)
theorem ar_worldOf0 (hU : aw_U tb s h) (hT : ak_Ty ak_TN s (aj_mh h S)) (hh : aw_hold S (aw_hh S)) (hd : 3 ≤ d) {k : Int32} (hk : k.toInt = 0) : aw_K tb h d 289 [.ref 117, .int k] S (fun r S' => S' = S ∧ ∃ b : Int32, r = some (.int b) ∧ 0 ≤ b.toInt ∧ b.toInt ≤ 1023) := by
  obtain ⟨d, rfl⟩ : ∃ e, d = e + 1 := ⟨d - 1, by omega⟩
  have hs : aw_sT s := aw_hy_sT hU.2.2
  refine aw_m aj_m289_at rfl (Nat.le_of_ble_eq_true rfl) ?_
  show aw_W _ _ _ _ 0 [(0, .ref 117), (1, .int k)] [] _ _
  obtain ⟨lv35, elv35⟩ : ∃ l : aj_V, l = [(0, .ref 117), (1, .int k)] := ⟨_, rfl⟩
  rw [← elv35]
  have hlv35_0 : aj_lv lv35 0 = some (.ref 117) := by rw [elv35]; rfl
  have hlv35_1 : aj_lv lv35 1 = some (.int k) := by rw [elv35]; rfl
  have hI36 : aw_I s h (aw_sm S) S := ⟨hT, aw_sm_rf⟩
  have fr37 : aw_fr [] [] S S := aw_fr_rf
  refine aw_n aj_d289 rfl rfl ?_
  refine aw_t0 (j := 2) aj_d289 rfl (by decide) rfl ?_
  obtain ⟨lv38, elv38⟩ : ∃ l, l = aj_set1 lv35 2 (.int (Int32.ofInt 0)) := ⟨_, rfl⟩
  rw [← elv38]
  have hlv38_0 : aj_lv lv38 0 = some (.ref 117) := cw_e1 elv38 hlv35_0 (by decide) (Or.inl (by decide))
  have hlv38_1 : aj_lv lv38 1 = some (.int k) := cw_e1 elv38 hlv35_1 (by decide) (Or.inr rfl)
  have hlv38_2 : aj_lv lv38 2 = some (.int (Int32.ofInt 0)) := by rw [elv38]; exact ak_set1_eq _ _ _
  show aw_W _ _ _ _ 2 lv38 [] _ _
  refine aw_n aj_d289 rfl rfl ?_
  refine aw_t0 (j := 3) aj_d289 rfl (by decide) rfl ?_
  obtain ⟨lv39, elv39⟩ : ∃ l, l = aj_set1 lv38 3 (.int (Int32.ofInt 0)) := ⟨_, rfl⟩
  rw [← elv39]
  have hlv39_0 : aj_lv lv39 0 = some (.ref 117) := cw_e1 elv39 hlv38_0 (by decide) (Or.inl (by decide))
  have hlv39_1 : aj_lv lv39 1 = some (.int k) := cw_e1 elv39 hlv38_1 (by decide) (Or.inl (by decide))
  have hlv39_2 : aj_lv lv39 2 = some (.int (Int32.ofInt 0)) := cw_e1 elv39 hlv38_2 (by decide) (Or.inr rfl)
  have hlv39_3 : aj_lv lv39 3 = some (.int (Int32.ofInt 0)) := by rw [elv39]; exact ak_set1_eq _ _ _
  show aw_W _ _ _ _ 4 lv39 [] _ _
  have L4_39 : ∀ (N : Nat) (lv42 : aj_V) (x43 : Int32) (x44 : Int32), (aj_lv lv42 0 = some (.ref 117)) → (aj_lv lv42 1 = some (.int k)) → (aj_lv lv42 2 = some (.int x43)) → (aj_lv lv42 3 = some (.int x44)) → (0 ≤ x43.toInt ∧ x43.toInt ≤ 0) → (0 ≤ x44.toInt ∧ x44.toInt ≤ 1024) → (∀ j : Nat, j < x44.toInt.toNat → ¬ aw_held S (aw_hh S) j) → (1024 - x44.toInt).toNat < N → aw_W tb h d aj_m289 4 lv42 [] S ((fun r S' => S' = S ∧ ∃ b : Int32, r = some (.int b) ∧ 0 ≤ b.toInt ∧ b.toInt ≤ 1023)) := by
    intro N
    induction N with
    | zero =>
      intro  lv42 x43 x44 hlv42_0 hlv42_1 hlv42_2 hlv42_3 bx43 bx44 none0 hm
      omega
    | succ N ihL4_39 =>
      intro  lv42 x43 x44 hlv42_0 hlv42_1 hlv42_2 hlv42_3 bx43 bx44 none0 hm
      refine aw_l0 aj_d289 rfl rfl hlv42_3 ?_
      refine aw_l2 aj_d289 rfl rfl hlv42_0 ?_
      refine aw_g hU.1 aj_d289 rfl rfl (by decide) (v := .ref 122) rfl ?_
      refine aw_l2 aj_d289 rfl rfl hlv42_0 ?_
      have b47 : 0 ≤ (S.1 0).toInt ∧ (S.1 0).toInt ≤ 1 := aw_bd_f hs (hI36).1 (by decide) rfl
      refine aw_g hU.1 aj_d289 rfl rfl (by decide) (v := .int (S.1 0)) rfl ?_
      refine aw_ld (k := 5) hU.1 aj_d289 (Or.inl ⟨rfl, rfl⟩) rfl (by decide) (by decide) rfl (a := (S.1 0).toInt) rfl (by omega) (by omega) (fun x48 ex48 => ?_)
      have bx48 : 0 ≤ x48.toInt ∧ x48.toInt ≤ 1024 := by
        rw [ex48]
        exact aw_bd_a hs (hI36).1 (k := 5) (by decide) (by decide) rfl (by decide) rfl (by omega)
      have we : x48.toInt = (S.2.2.1 5 (aw_hh S)).toInt := by
        rw [ex48]
        show (S.2.2.1 5 ((S.1 0).toInt).toNat).toInt = _
        rfl
      refine aw_c (tgt := 45) aj_d289 rfl rfl (fun q49 => ?_) (fun q49 => ?_)
      · have q49 : x44.toInt ≥ x48.toInt := aw_t_ge (a := x44.toInt) (b := x48.toInt) rfl rfl q49
        exfalso
        obtain ⟨w0, w1, w2⟩ := hh
        exact none0 w0 (by omega) w2
      · have q49 : x44.toInt < x48.toInt := aw_t_ge (a := x44.toInt) (b := x48.toInt) rfl rfl q49
        refine aw_l2 aj_d289 rfl rfl hlv42_0 ?_
        refine aw_l2 aj_d289 rfl rfl hlv42_0 ?_
        refine aw_g hU.1 aj_d289 rfl rfl (by decide) (v := .int (S.1 0)) rfl ?_
        refine aw_l0 aj_d289 rfl rfl hlv42_3 ?_
        refine aw_k hU.1 aj_d289 rfl rfl [_, _] rfl rfl rfl (Nat.le_of_ble_eq_true rfl) (ar_isHeld hU (hI36).1 (by omega) (t := (S.1 0)) (x := x44) (by omega) (by omega)) ?_
        rintro _ zb50 ⟨fb50, b50, rfl, kb50⟩
        rw [fb50]
        rcases kb50 with ⟨hb50, pb50⟩ | ⟨hb50, pb50⟩
        · skip
          show aw_W _ _ _ _ 26 lv42 [.int b50] _ _
          refine aw_z (tgt := 39) aj_d289 rfl rfl (fun q51 => ?_) (fun q51 => ?_)
          · have q51 : (1 : Int) = (0 : Int) := aw_t_eq (a := (1 : Int)) (b := (0 : Int)) hb50 rfl q51
            exfalso
            omega
          · have q51 : (1 : Int) ≠ (0 : Int) := aw_t_eq (a := (1 : Int)) (b := (0 : Int)) hb50 rfl q51
            refine aw_l0 aj_d289 rfl rfl hlv42_2 ?_
            refine aw_l0 aj_d289 rfl rfl hlv42_1 ?_
            refine aw_c (tgt := 36) aj_d289 rfl rfl (fun q52 => ?_) (fun q52 => ?_)
            · have q52 : (0 : Int) ≠ (0 : Int) := aw_t_ne (a := (0 : Int)) (b := (0 : Int)) (by omega) hk q52
              exfalso
              omega
            · have q52 : (0 : Int) = (0 : Int) := aw_t_ne (a := (0 : Int)) (b := (0 : Int)) (by omega) hk q52
              refine aw_l0 aj_d289 rfl rfl hlv42_3 ?_
              refine aw_e aj_d289 rfl rfl ?_
              exact ⟨rfl, _, rfl, by omega⟩
        · skip
          show aw_W _ _ _ _ 26 lv42 [.int b50] _ _
          refine aw_z (tgt := 39) aj_d289 rfl rfl (fun q53 => ?_) (fun q53 => ?_)
          · have q53 : (0 : Int) = (0 : Int) := aw_t_eq (a := (0 : Int)) (b := (0 : Int)) hb50 rfl q53
            refine aw_inc aj_d289 rfl hlv42_3 (a := x44.toInt) rfl (by omega) (by omega) (by decide) (by decide) (fun x54 ex54 => ?_)
            obtain ⟨lv55, elv55⟩ : ∃ l, l = aj_set1 lv42 3 (.int x54) := ⟨_, rfl⟩
            rw [← elv55]
            have hlv55_0 : aj_lv lv55 0 = some (.ref 117) := cw_e1 elv55 hlv42_0 (by decide) (Or.inl (by decide))
            have hlv55_1 : aj_lv lv55 1 = some (.int k) := cw_e1 elv55 hlv42_1 (by decide) (Or.inl (by decide))
            have hlv55_2 : aj_lv lv55 2 = some (.int x43) := cw_e1 elv55 hlv42_2 (by decide) (Or.inr rfl)
            have hlv55_3 : aj_lv lv55 3 = some (.int x54) := by rw [elv55]; exact ak_set1_eq _ _ _
            show aw_W _ _ _ _ 42 lv55 [] _ _
            refine aw_n aj_d289 rfl rfl ?_
            exact ihL4_39 lv55 (x43) (x54) hlv55_0 hlv55_1 hlv55_2 hlv55_3 (by first | omega | decide) (by omega) (fun j hj => by
                by_cases e : j = (x44).toInt.toNat
                · subst e
                  exact pb50
                · exact none0 j (by omega)) (by omega)
          · have q53 : (0 : Int) ≠ (0 : Int) := aw_t_eq (a := (0 : Int)) (b := (0 : Int)) hb50 rfl q53
            exfalso
            omega
  exact L4_39 _ lv39 ((Int32.ofInt 0)) ((Int32.ofInt 0)) hlv39_0 hlv39_1 hlv39_2 hlv39_3 (by first | omega | decide) (by first | omega | decide) (fun j hj => absurd hj (Nat.not_lt_zero _)) (Nat.lt_succ_self _)
theorem arc_289_0 (hU : aw_U tb s h) : ak_CT ak_TR (aw_SP s h aw_B) aw_kap tb 3 ac_c289_0 := by
  refine ar_ofP (F := []) (A := []) hU aw_Gs_B ⟨rfl, rfl, rfl, rfl, rfl, rfl, rfl⟩ ⟨(fun _ z => nomatch z), (fun _ z => nomatch z)⟩ (fun d hd S as hI hA hQ => ?_)
  obtain ⟨v0, as, rfl, g0, hA⟩ := cw_gAc hA
  obtain ⟨v1, as, rfl, g1, hA⟩ := cw_gAc hA
  cases cw_gAn hA
  obtain rfl := aw_117 hU.2.2 g0
  obtain ⟨x1, rfl, b1⟩ := ak_gi g1
  dsimp only [ak_win] at b1
  refine aw_mono ?_ (ar_worldOf0 hU hI.1 hI.2.2.1 hd (by omega))
  rintro r S' ⟨rfl, b, rfl, hb⟩
  exact ⟨hI.1, aw_fr_rf, hb, hI.2, Int.le_refl _⟩
theorem ar_isTable (hU : aw_U tb s h) (hT : ak_Ty ak_TN s (aj_mh h S)) (hd : 1 ≤ d) {t : Int32} : aw_K tb h d 291 [.ref 117, .int t] S (fun r S' => S' = S ∧ ∃ b : Int32, r = some (.int b) ∧ ((b.toInt = 1 ∧ 0 ≤ t.toInt ∧ t.toInt ≤ 9) ∨ b.toInt = 0)) := by
  obtain ⟨d, rfl⟩ : ∃ e, d = e + 1 := ⟨d - 1, by omega⟩
  have hs : aw_sT s := aw_hy_sT hU.2.2
  refine aw_m aj_m291_at rfl (Nat.le_of_ble_eq_true rfl) ?_
  show aw_W _ _ _ _ 0 [(0, .ref 117), (1, .int t)] [] _ _
  obtain ⟨lv56, elv56⟩ : ∃ l : aj_V, l = [(0, .ref 117), (1, .int t)] := ⟨_, rfl⟩
  rw [← elv56]
  have hlv56_0 : aj_lv lv56 0 = some (.ref 117) := by rw [elv56]; rfl
  have hlv56_1 : aj_lv lv56 1 = some (.int t) := by rw [elv56]; rfl
  have hI57 : aw_I s h (aw_sm S) S := ⟨hT, aw_sm_rf⟩
  have fr58 : aw_fr [] [] S S := aw_fr_rf
  refine aw_l0 aj_d291 rfl rfl hlv56_1 ?_
  refine aw_z (tgt := 21) aj_d291 rfl rfl (fun q59 => ?_) (fun q59 => ?_)
  · have q59 : t.toInt < (0 : Int) := aw_t_lt (a := t.toInt) (b := (0 : Int)) rfl rfl q59
    refine aw_n aj_d291 rfl rfl ?_
    refine aw_e aj_d291 rfl rfl ?_
    exact ⟨rfl, _, rfl, Or.inr rfl⟩
  · have q59 : t.toInt ≥ (0 : Int) := aw_t_lt (a := t.toInt) (b := (0 : Int)) rfl rfl q59
    refine aw_l0 aj_d291 rfl rfl hlv56_1 ?_
    refine aw_l2 aj_d291 rfl rfl hlv56_0 ?_
    refine aw_g hU.1 aj_d291 rfl rfl (by decide) (v := .ref 124) rfl ?_
    refine aw_l2 aj_d291 rfl rfl hlv56_0 ?_
    have b60 : 0 ≤ (S.1 0).toInt ∧ (S.1 0).toInt ≤ 1 := aw_bd_f hs (hI57).1 (by decide) rfl
    refine aw_g hU.1 aj_d291 rfl rfl (by decide) (v := .int (S.1 0)) rfl ?_
    refine aw_ld (k := 7) hU.1 aj_d291 (Or.inl ⟨rfl, rfl⟩) rfl (by decide) (by decide) rfl (a := (S.1 0).toInt) rfl (by omega) (by omega) (fun x61 ex61 => ?_)
    have bx61 : 0 ≤ x61.toInt ∧ x61.toInt ≤ 10 := by
      rw [ex61]
      exact aw_bd_a hs (hI57).1 (k := 7) (by decide) (by decide) rfl (by decide) rfl (by omega)
    refine aw_c (tgt := 21) aj_d291 rfl rfl (fun q62 => ?_) (fun q62 => ?_)
    · have q62 : t.toInt ≥ x61.toInt := aw_t_ge (a := t.toInt) (b := x61.toInt) rfl rfl q62
      refine aw_n aj_d291 rfl rfl ?_
      refine aw_e aj_d291 rfl rfl ?_
      exact ⟨rfl, _, rfl, Or.inr rfl⟩
    · have q62 : t.toInt < x61.toInt := aw_t_ge (a := t.toInt) (b := x61.toInt) rfl rfl q62
      refine aw_n aj_d291 rfl rfl ?_
      refine aw_n aj_d291 rfl rfl ?_
      refine aw_e aj_d291 rfl rfl ?_
      exact ⟨rfl, _, rfl, Or.inl ⟨rfl, by omega, by omega⟩⟩
theorem ar_isRow (hU : aw_U tb s h) (hT : ak_Ty ak_TN s (aj_mh h S)) (hd : 2 ≤ d) {t x : Int32} : aw_K tb h d 298 [.ref 117, .int t, .int x] S (fun r S' => S' = S ∧ ∃ b : Int32, r = some (.int b) ∧ ((b.toInt = 1 ∧ (0 ≤ t.toInt ∧ t.toInt ≤ 9) ∧ 0 ≤ x.toInt ∧ x.toInt ≤ 29) ∨ b.toInt = 0)) := by
  obtain ⟨d, rfl⟩ : ∃ e, d = e + 1 := ⟨d - 1, by omega⟩
  have hs : aw_sT s := aw_hy_sT hU.2.2
  refine aw_m aj_m298_at rfl (Nat.le_of_ble_eq_true rfl) ?_
  show aw_W _ _ _ _ 0 [(0, .ref 117), (1, .int t), (2, .int x)] [] _ _
  obtain ⟨lv63, elv63⟩ : ∃ l : aj_V, l = [(0, .ref 117), (1, .int t), (2, .int x)] := ⟨_, rfl⟩
  rw [← elv63]
  have hlv63_0 : aj_lv lv63 0 = some (.ref 117) := by rw [elv63]; rfl
  have hlv63_1 : aj_lv lv63 1 = some (.int t) := by rw [elv63]; rfl
  have hlv63_2 : aj_lv lv63 2 = some (.int x) := by rw [elv63]; rfl
  have hI64 : aw_I s h (aw_sm S) S := ⟨hT, aw_sm_rf⟩
  have fr65 : aw_fr [] [] S S := aw_fr_rf
  refine aw_l2 aj_d298 rfl rfl hlv63_0 ?_
  refine aw_l0 aj_d298 rfl rfl hlv63_1 ?_
  refine aw_k hU.1 aj_d298 rfl rfl [_] rfl rfl rfl (Nat.le_of_ble_eq_true rfl) (ar_isTable hU (hI64).1 (by omega)) ?_
  rintro _ zb66 ⟨fb66, b66, rfl, kb66⟩
  rw [fb66]
  rcases kb66 with ⟨hb66, pb66, qb66⟩ | hb66
  · skip
    show aw_W _ _ _ _ 5 lv63 [.int b66] _ _
    refine aw_z (tgt := 34) aj_d298 rfl rfl (fun q67 => ?_) (fun q67 => ?_)
    · have q67 : (1 : Int) = (0 : Int) := aw_t_eq (a := (1 : Int)) (b := (0 : Int)) hb66 rfl q67
      exfalso
      omega
    · have q67 : (1 : Int) ≠ (0 : Int) := aw_t_eq (a := (1 : Int)) (b := (0 : Int)) hb66 rfl q67
      refine aw_l0 aj_d298 rfl rfl hlv63_2 ?_
      refine aw_z (tgt := 34) aj_d298 rfl rfl (fun q68 => ?_) (fun q68 => ?_)
      · have q68 : x.toInt < (0 : Int) := aw_t_lt (a := x.toInt) (b := (0 : Int)) rfl rfl q68
        refine aw_n aj_d298 rfl rfl ?_
        refine aw_e aj_d298 rfl rfl ?_
        exact ⟨rfl, _, rfl, Or.inr rfl⟩
      · have q68 : x.toInt ≥ (0 : Int) := aw_t_lt (a := x.toInt) (b := (0 : Int)) rfl rfl q68
        refine aw_l0 aj_d298 rfl rfl hlv63_2 ?_
        refine aw_l2 aj_d298 rfl rfl hlv63_0 ?_
        refine aw_g hU.1 aj_d298 rfl rfl (by decide) (v := .ref 131) rfl ?_
        refine aw_l2 aj_d298 rfl rfl hlv63_0 ?_
        have b69 : 0 ≤ (S.1 0).toInt ∧ (S.1 0).toInt ≤ 1 := aw_bd_f hs (hI64).1 (by decide) rfl
        refine aw_g hU.1 aj_d298 rfl rfl (by decide) (v := .int (S.1 0)) rfl ?_
        refine aw_n aj_d298 rfl rfl ?_
        refine aw_mul aj_d298 rfl (a := (S.1 0).toInt) (b := (10 : Int)) rfl rfl (by omega) (by omega) (fun x70 ex70 => ?_)
        refine aw_l0 aj_d298 rfl rfl hlv63_1 ?_
        refine aw_add aj_d298 rfl (a := x70.toInt) (b := t.toInt) rfl rfl (by omega) (by omega) (fun x71 ex71 => ?_)
        refine aw_ld (k := 14) hU.1 aj_d298 (Or.inl ⟨rfl, rfl⟩) rfl (by decide) (by decide) rfl (a := x71.toInt) rfl (by omega) (by omega) (fun x72 ex72 => ?_)
        have bx72 : 0 ≤ x72.toInt ∧ x72.toInt ≤ 30 := by
          rw [ex72]
          exact aw_bd_a hs (hI64).1 (k := 14) (by decide) (by decide) rfl (by decide) rfl (by omega)
        refine aw_c (tgt := 34) aj_d298 rfl rfl (fun q73 => ?_) (fun q73 => ?_)
        · have q73 : x.toInt ≥ x72.toInt := aw_t_ge (a := x.toInt) (b := x72.toInt) rfl rfl q73
          refine aw_n aj_d298 rfl rfl ?_
          refine aw_e aj_d298 rfl rfl ?_
          exact ⟨rfl, _, rfl, Or.inr rfl⟩
        · have q73 : x.toInt < x72.toInt := aw_t_ge (a := x.toInt) (b := x72.toInt) rfl rfl q73
          refine aw_n aj_d298 rfl rfl ?_
          refine aw_n aj_d298 rfl rfl ?_
          refine aw_e aj_d298 rfl rfl ?_
          exact ⟨rfl, _, rfl, Or.inl ⟨rfl, by omega, by omega⟩⟩
  · skip
    show aw_W _ _ _ _ 5 lv63 [.int b66] _ _
    refine aw_z (tgt := 34) aj_d298 rfl rfl (fun q74 => ?_) (fun q74 => ?_)
    · have q74 : (0 : Int) = (0 : Int) := aw_t_eq (a := (0 : Int)) (b := (0 : Int)) hb66 rfl q74
      refine aw_n aj_d298 rfl rfl ?_
      refine aw_e aj_d298 rfl rfl ?_
      exact ⟨rfl, _, rfl, Or.inr rfl⟩
    · have q74 : (0 : Int) ≠ (0 : Int) := aw_t_eq (a := (0 : Int)) (b := (0 : Int)) hb66 rfl q74
      exfalso
      omega
theorem arc_291 (hU : aw_U tb s h) (hG : aw_Gs G) : ak_CT ak_TR (aw_SP s h G) aw_kap tb 1 ac_c291 := by
  refine aw_ofK (F := []) (A := []) hU hG ⟨(fun _ z => nomatch z), (fun _ z => nomatch z)⟩ (fun d hd S as hI hA hQ => ?_)
  obtain ⟨v0, as, rfl, g0, hA⟩ := cw_gAc hA
  obtain ⟨v1, as, rfl, g1, hA⟩ := cw_gAc hA
  cases cw_gAn hA
  obtain rfl := aw_117 hU.2.2 g0
  obtain ⟨x1, rfl, b1⟩ := ak_gi g1
  refine aw_mono ?_ (ar_isTable hU hI.1 hd)
  rintro r S' ⟨rfl, b, rfl, hb⟩
  refine ⟨(show 0 ≤ b.toInt ∧ b.toInt ≤ 1 by omega), hI, aw_fr_rf, ⟨fun _ => ⟨Int.le_of_eq (Int.add_zero _), (fun e he => nomatch he), (fun e he => nomatch he)⟩, fun _ => ⟨Int.le_of_eq (Int.add_zero _), (fun e he => nomatch he), (fun e he => nomatch he)⟩⟩, ?_⟩
  rintro ⟨y, hy, hn⟩ e he
  cases hy
  simp only [List.mem_cons, List.not_mem_nil, or_false] at he
  subst he
  exact ⟨x1, rfl, (show 0 ≤ x1.toInt ∧ x1.toInt ≤ 9 by omega)⟩
theorem arc_298 (hU : aw_U tb s h) (hG : aw_Gs G) : ak_CT ak_TR (aw_SP s h G) aw_kap tb 2 ac_c298 := by
  refine aw_ofK (F := []) (A := []) hU hG ⟨(fun _ z => nomatch z), (fun _ z => nomatch z)⟩ (fun d hd S as hI hA hQ => ?_)
  obtain ⟨v0, as, rfl, g0, hA⟩ := cw_gAc hA
  obtain ⟨v1, as, rfl, g1, hA⟩ := cw_gAc hA
  obtain ⟨v2, as, rfl, g2, hA⟩ := cw_gAc hA
  cases cw_gAn hA
  obtain rfl := aw_117 hU.2.2 g0
  obtain ⟨x1, rfl, b1⟩ := ak_gi g1
  obtain ⟨x2, rfl, b2⟩ := ak_gi g2
  refine aw_mono ?_ (ar_isRow hU hI.1 hd)
  rintro r S' ⟨rfl, b, rfl, hb⟩
  refine ⟨(show 0 ≤ b.toInt ∧ b.toInt ≤ 1 by omega), hI, aw_fr_rf, ⟨fun _ => ⟨Int.le_of_eq (Int.add_zero _), (fun e he => nomatch he), (fun e he => nomatch he)⟩, fun _ => ⟨Int.le_of_eq (Int.add_zero _), (fun e he => nomatch he), (fun e he => nomatch he)⟩⟩, ?_⟩
  rintro ⟨y, hy, hn⟩ e he
  cases hy
  simp only [List.mem_cons, List.not_mem_nil, or_false] at he
  rcases he with rfl | rfl
  · exact ⟨x1, rfl, (show 0 ≤ x1.toInt ∧ x1.toInt ≤ 9 by omega)⟩
  · exact ⟨x2, rfl, (show 0 ≤ x2.toInt ∧ x2.toInt ≤ 29 by omega)⟩
end ARA6
