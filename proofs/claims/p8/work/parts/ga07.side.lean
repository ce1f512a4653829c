/-! ROWS COPIED, SIDES, TESTS (printed by wip/p2/ref/r07.py) -/
/-- the special cells but kinds and values are the same -/
def aw_sk (S S' : aj_S) : Prop := (∀ k ∈ ar_sf, S'.1 k = S.1 k) ∧ (∀ k ∈ ar_sa, k ≠ 17 → k ≠ 18 → S'.2.2.1 k = S.2.2.1 k) ∧ ∀ k ∈ ar_sl, S'.2.2.2 k = S.2.2.2 k
section ARA7
variable {tb : aj_T} {s : List Nat} {h : aj_H} {S S' S1 S2 : aj_S} {d n : Nat} {g g' : aw_gh} {F A : List Nat} {G : aj_S → Prop} {nm : Int64 → Prop} {fl : Bool} {la ho hu ht q : Nat}
theorem aw_sk_rf : aw_sk S S := ⟨fun _ _ => rfl, fun _ _ _ _ => rfl, fun _ _ => rfl⟩
theorem aw_sk_sm (h1 : aw_sm S1 S2) (h0 : aw_sk S S1) : aw_sk S S2 := ⟨fun k q => (h1.1 k q).trans (h0.1 k q), fun k q a b => (h1.2.1 k q).trans (h0.2.1 k q a b), fun k q => (h1.2.2 k q).trans (h0.2.2 k q)⟩
theorem aw_skv_sm (h1 : aw_sm S1 S2) (h0 : aw_sk S S1 ∧ aw_kv S1) : aw_sk S S2 ∧ aw_kv S2 := ⟨aw_sk_sm h1 h0.1, aw_kv_sm h1 h0.2⟩
theorem aw_G_sk (hG : aw_G g S) (hm : aw_sk S S') (hv : aw_kv S') : aw_G g S' := by
  have f0 := hm.1 0 (by decide)
  have f23 := hm.1 23 (by decide)
  have f24 := hm.1 24 (by decide)
  have f26 := hm.1 26 (by decide)
  have f27 := hm.1 27 (by decide)
  have f28 := hm.1 28 (by decide)
  have f29 := hm.1 29 (by decide)
  have f30 := hm.1 30 (by decide)
  have f32 := hm.1 32 (by decide)
  have f37 := hm.1 37 (by decide)
  have f45 := hm.1 45 (by decide)
  have a1 := hm.2.1 1 (by decide) (by decide) (by decide)
  have a2 := hm.2.2 2 (by decide)
  have a3 := hm.2.1 3 (by decide) (by decide) (by decide)
  have a5 := hm.2.1 5 (by decide) (by decide) (by decide)
  have a7 := hm.2.1 7 (by decide) (by decide) (by decide)
  have a8 := hm.2.2 8 (by decide)
  have a10 := hm.2.1 10 (by decide) (by decide) (by decide)
  have a11 := hm.2.1 11 (by decide) (by decide) (by decide)
  have a12 := hm.2.1 12 (by decide) (by decide) (by decide)
  have a21 := hm.2.1 21 (by decide) (by decide) (by decide)
  unfold aw_G aw_GA aw_GB aw_GC aw_GD aw_GE aw_hold aw_held aw_tok aw_tT aw_tJ aw_tN aw_tF aw_h aw_hh at hG ⊢
  rw [f0, f23, f24, f26, f27, f28, f29, f30, f32, f37, f45, a1, a2, a3, a5, a7, a8, a10, a11, a12, a21]
  exact ⟨hG.1, hG.2.1, hG.2.2.1, hG.2.2.2.1, hv, hG.2.2.2.2.2⟩
theorem aw_fr_sk (h1 : (ar_sf.all fun k => !F.contains k) = true) (h2 : (ar_sa.all fun k => k == 17 || (k == 18 || !A.contains k)) = true) (h3 : (ar_sl.all fun k => !A.contains k) = true) (h : aw_fr F A S S') : aw_sk S S' := by
  refine ⟨fun k q => (h.1 k ?_).1, fun k q a b => (h.2 k ?_).1, fun k q => (h.2 k ?_).2⟩
  · have := List.all_eq_true.mp h1 k q
    simpa using this
  · have := List.all_eq_true.mp h2 k q
    simpa [a, b] using this
  · have := List.all_eq_true.mp h3 k q
    simpa using this
/-- a kind and its value, written -/
theorem aw_kv_2 {j j' : Nat} {x y : Int32} (hk : aw_kv S) (he : j = j') (hx : x.toInt = 1 → 0 ≤ y.toInt ∧ y.toInt ≤ 7) : aw_kv (aw_wa (aw_wa S 17 j x) 18 j' y) := by
  subst he
  intro k hk2 h1
  have e17 : (aw_wa (aw_wa S 17 j x) 18 j y).2.2.1 17 k = if k = j then x else S.2.2.1 17 k := rfl
  have e18 : (aw_wa (aw_wa S 17 j x) 18 j y).2.2.1 18 k = if k = j then y else S.2.2.1 18 k := rfl
  rw [e17] at h1
  rw [e18]
  by_cases e : k = j
  · rw [if_pos e] at h1 ⊢
    exact hx h1
  · rw [if_neg e] at h1 ⊢
    exact hk k hk2 h1
theorem aw_sk_2 {j j' : Nat} {x y : Int32} (h0 : aw_sk S S1) : aw_sk S (aw_wa (aw_wa S1 17 j x) 18 j' y) := by
  refine ⟨h0.1, fun k q a b => ?_, h0.2.2⟩
  rw [← h0.2.1 k q a b]
  show (if k = 18 then _ else (if k = 17 then _ else S1.2.2.1 k)) = _
  rw [if_neg b, if_neg a]
theorem aw_nar4_01 {x : Int32} (hx : 0 ≤ x.toInt ∧ x.toInt ≤ 1) : aj_nar 4 x = x := by
  have : x = 0 ∨ x = 1 := by
    rcases (show x.toInt = 0 ∨ x.toInt = 1 by omega) with e | e
    · exact Or.inl (Int32.toInt_inj.mp (by rw [e]; rfl))
    · exact Or.inr (Int32.toInt_inj.mp (by rw [e]; rfl))
  rcases this with rfl | rfl <;> decide
theorem ar_copyRow (hU : aw_U tb s h) (hT : ak_Ty ak_TN s (aj_mh h S)) (hkv : aw_kv S) (hd : 2 ≤ d) {t r u v : Int32} (h1 : 0 ≤ t.toInt ∧ t.toInt ≤ 49) (h2 : 0 ≤ r.toInt ∧ r.toInt ≤ 29) (h3 : 0 ≤ u.toInt ∧ u.toInt ≤ 49) (h4 : 0 ≤ v.toInt ∧ v.toInt ≤ 29) : aw_K tb h d 252 [.ref 117, .int t, .int r, .int u, .int v] S (ar_QN s h [] [17, 18, 19] S (fun S' => aw_sk S S' ∧ aw_kv S')) := by
  obtain ⟨d, rfl⟩ : ∃ e, d = e + 1 := ⟨d - 1, by omega⟩
  have hG0 : aw_sk S S ∧ aw_kv S := ⟨aw_sk_rf, hkv⟩
  have hs : aw_sT s := aw_hy_sT hU.2.2
  refine aw_m aj_m252_at rfl (Nat.le_of_ble_eq_true rfl) ?_
  show aw_W _ _ _ _ 0 [(0, .ref 117), (1, .int t), (2, .int r), (3, .int u), (4, .int v)] [] _ _
  obtain ⟨lv1, elv1⟩ : ∃ l : aj_V, l = [(0, .ref 117), (1, .int t), (2, .int r), (3, .int u), (4, .int v)] := ⟨_, rfl⟩
  rw [← elv1]
  have hlv1_0 : aj_lv lv1 0 = some (.ref 117) := by rw [elv1]; rfl
  have hlv1_1 : aj_lv lv1 1 = some (.int t) := by rw [elv1]; rfl
  have hlv1_2 : aj_lv lv1 2 = some (.int r) := by rw [elv1]; rfl
  have hlv1_3 : aj_lv lv1 3 = some (.int u) := by rw [elv1]; rfl
  have hlv1_4 : aj_lv lv1 4 = some (.int v) := by rw [elv1]; rfl
  have hI2 : aw_I s h (aw_sm S) S := ⟨hT, aw_sm_rf⟩
  have fr3 : aw_fr [] [17, 18, 19] S S := aw_fr_rf
  refine aw_n aj_d252 rfl rfl ?_
  refine aw_t0 (j := 5) aj_d252 rfl (by decide) rfl ?_
  obtain ⟨lv4, elv4⟩ : ∃ l, l = aj_set1 lv1 5 (.int (Int32.ofInt 0)) := ⟨_, rfl⟩
  rw [← elv4]
  have hlv4_0 : aj_lv lv4 0 = some (.ref 117) := cw_e1 elv4 hlv1_0 (by decide) (Or.inl (by decide))
  have hlv4_1 : aj_lv lv4 1 = some (.int t) := cw_e1 elv4 hlv1_1 (by decide) (Or.inl (by decide))
  have hlv4_2 : aj_lv lv4 2 = some (.int r) := cw_e1 elv4 hlv1_2 (by decide) (Or.inl (by decide))
  have hlv4_3 : aj_lv lv4 3 = some (.int u) := cw_e1 elv4 hlv1_3 (by decide) (Or.inl (by decide))
  have hlv4_4 : aj_lv lv4 4 = some (.int v) := cw_e1 elv4 hlv1_4 (by decide) (Or.inr rfl)
  have hlv4_5 : aj_lv lv4 5 = some (.int (Int32.ofInt 0)) := by rw [elv4]; exact ak_set1_eq _ _ _
  show aw_W _ _ _ _ 3 lv4 [] _ _
  have L3_4 : ∀ (N : Nat) (S6 : aj_S) (lv7 : aj_V) (x8 : Int32), (aj_lv lv7 0 = some (.ref 117)) → (aj_lv lv7 1 = some (.int t)) → (aj_lv lv7 2 = some (.int r)) → (aj_lv lv7 3 = some (.int u)) → (aj_lv lv7 4 = some (.int v)) → (aj_lv lv7 5 = some (.int x8)) → (aw_I s h ((fun X => aw_sk S X ∧ aw_kv X)) S6) → (aw_fr [] [17, 18, 19] S S6) → (0 ≤ x8.toInt ∧ x8.toInt ≤ 8) → (8 - x8.toInt).toNat < N → aw_W tb h d aj_m252 3 lv7 [] S6 ((ar_QN s h [] [17, 18, 19] S (fun S' => aw_sk S S' ∧ aw_kv S'))) := by
    intro N
    induction N with
    | zero =>
      intro S6 lv7 x8 hlv7_0 hlv7_1 hlv7_2 hlv7_3 hlv7_4 hlv7_5 hI9 fr10 bx8 hm
      omega
    | succ N ihL3_4 =>
      intro S6 lv7 x8 hlv7_0 hlv7_1 hlv7_2 hlv7_3 hlv7_4 hlv7_5 hI9 fr10 bx8 hm
      have hI11 : aw_I s h (aw_sm S6) S6 := ⟨hI9.1, aw_sm_rf⟩
      refine aw_l0 aj_d252 rfl rfl hlv7_5 ?_
      refine aw_n aj_d252 rfl rfl ?_
      refine aw_c (tgt := 66) aj_d252 rfl rfl (fun q12 => ?_) (fun q12 => ?_)
      · have q12 : x8.toInt ≥ (8 : Int) := aw_t_ge (a := x8.toInt) (b := (8 : Int)) rfl rfl q12
        refine aw_n aj_d252 rfl rfl ?_
        refine aw_t0 (j := 5) aj_d252 rfl (by decide) rfl ?_
        obtain ⟨lv13, elv13⟩ : ∃ l, l = aj_set1 lv7 5 (.int (Int32.ofInt 0)) := ⟨_, rfl⟩
        rw [← elv13]
        have hlv13_0 : aj_lv lv13 0 = some (.ref 117) := cw_e1 elv13 hlv7_0 (by decide) (Or.inl (by decide))
        have hlv13_1 : aj_lv lv13 1 = some (.int t) := cw_e1 elv13 hlv7_1 (by decide) (Or.inl (by decide))
        have hlv13_2 : aj_lv lv13 2 = some (.int r) := cw_e1 elv13 hlv7_2 (by decide) (Or.inl (by decide))
        have hlv13_3 : aj_lv lv13 3 = some (.int u) := cw_e1 elv13 hlv7_3 (by decide) (Or.inl (by decide))
        have hlv13_4 : aj_lv lv13 4 = some (.int v) := cw_e1 elv13 hlv7_4 (by decide) (Or.inr rfl)
        have hlv13_5 : aj_lv lv13 5 = some (.int (Int32.ofInt 0)) := by rw [elv13]; exact ak_set1_eq _ _ _
        show aw_W _ _ _ _ 69 lv13 [] _ _
        have L69_13 : ∀ (N : Nat) (S15 : aj_S) (lv16 : aj_V) (x17 : Int32), (aj_lv lv16 0 = some (.ref 117)) → (aj_lv lv16 1 = some (.int t)) → (aj_lv lv16 2 = some (.int r)) → (aj_lv lv16 3 = some (.int u)) → (aj_lv lv16 4 = some (.int v)) → (aj_lv lv16 5 = some (.int x17)) → (aw_I s h ((fun X => aw_sk S X ∧ aw_kv X)) S15) → (aw_fr [] [17, 18, 19] S S15) → (0 ≤ x17.toInt ∧ x17.toInt ≤ 32) → (32 - x17.toInt).toNat < N → aw_W tb h d aj_m252 69 lv16 [] S15 ((ar_QN s h [] [17, 18, 19] S (fun S' => aw_sk S S' ∧ aw_kv S'))) := by
          intro N
          induction N with
          | zero =>
            intro S15 lv16 x17 hlv16_0 hlv16_1 hlv16_2 hlv16_3 hlv16_4 hlv16_5 hI18 fr19 bx17 hm
            omega
          | succ N ihL69_13 =>
            intro S15 lv16 x17 hlv16_0 hlv16_1 hlv16_2 hlv16_3 hlv16_4 hlv16_5 hI18 fr19 bx17 hm
            have hI20 : aw_I s h (aw_sm S15) S15 := ⟨hI18.1, aw_sm_rf⟩
            refine aw_l0 aj_d252 rfl rfl hlv16_5 ?_
            refine aw_n aj_d252 rfl rfl ?_
            refine aw_c (tgt := 111) aj_d252 rfl rfl (fun q21 => ?_) (fun q21 => ?_)
            · have q21 : x17.toInt ≥ (32 : Int) := aw_t_ge (a := x17.toInt) (b := (32 : Int)) rfl rfl q21
              refine aw_e aj_d252 rfl rfl ?_
              exact ⟨(hI20).1, fr19, rfl, hI18.2⟩
            · have q21 : x17.toInt < (32 : Int) := aw_t_ge (a := x17.toInt) (b := (32 : Int)) rfl rfl q21
              refine aw_l2 aj_d252 rfl rfl hlv16_0 ?_
              refine aw_g hU.1 aj_d252 rfl rfl (by decide) (v := .ref 136) rfl ?_
              refine aw_l2 aj_d252 rfl rfl hlv16_0 ?_
              refine aw_l0 aj_d252 rfl rfl hlv16_3 ?_
              refine aw_l0 aj_d252 rfl rfl hlv16_4 ?_
              refine aw_k hU.1 aj_d252 rfl rfl [_, _] rfl rfl rfl (Nat.le_of_ble_eq_true rfl) (ar_at (by omega) (a := u.toInt) (b := v.toInt) rfl rfl (by omega) (by omega)) ?_
              rintro _ zx22 ⟨fx22, x22, rfl, ex22⟩
              rw [fx22]
              show aw_W _ _ _ _ 87 lv16 [.int x22, .ref 136] _ _
              refine aw_l0 aj_d252 rfl rfl hlv16_5 ?_
              refine aw_add aj_d252 rfl (a := ((u.toInt * 30 + v.toInt) * 32)) (b := x17.toInt) ex22 rfl (by omega) (by omega) (fun x23 ex23 => ?_)
              refine aw_l2 aj_d252 rfl rfl hlv16_0 ?_
              refine aw_g hU.1 aj_d252 rfl rfl (by decide) (v := .ref 136) rfl ?_
              refine aw_l2 aj_d252 rfl rfl hlv16_0 ?_
              refine aw_l0 aj_d252 rfl rfl hlv16_1 ?_
              refine aw_l0 aj_d252 rfl rfl hlv16_2 ?_
              refine aw_k hU.1 aj_d252 rfl rfl [_, _] rfl rfl rfl (Nat.le_of_ble_eq_true rfl) (ar_at (by omega) (a := t.toInt) (b := r.toInt) rfl rfl (by omega) (by omega)) ?_
              rintro _ zx24 ⟨fx24, x24, rfl, ex24⟩
              rw [fx24]
              show aw_W _ _ _ _ 100 lv16 [.int x24, .ref 136, .int x23, .ref 136] _ _
              refine aw_l0 aj_d252 rfl rfl hlv16_5 ?_
              refine aw_add aj_d252 rfl (a := ((t.toInt * 30 + r.toInt) * 32)) (b := x17.toInt) ex24 rfl (by omega) (by omega) (fun x25 ex25 => ?_)
              refine aw_ld (k := 19) hU.1 aj_d252 (Or.inl ⟨rfl, rfl⟩) rfl (by decide) (by decide) rfl (a := x25.toInt) rfl (by omega) (by omega) (fun x26 ex26 => ?_)
              refine aw_st (k := 19) hU.1 aj_d252 (Or.inl ⟨rfl, rfl⟩) rfl (by decide) (by decide) rfl (a := x23.toInt) rfl (by omega) (by omega) ?_
              have hI27 := aw_I_a (aw_UV hU aw_Gs_sm) (k := 19) (j := (x23.toInt).toNat) (v := aj_nar 0 x26) hI20 (by decide) (by decide) (by decide) rfl (by decide) (by decide) rfl (aw_full _)
              have fr28 := aw_fr_a (k := 19) (j := (x23.toInt).toNat) (v := aj_nar 0 x26) (by decide) fr19
              refine aw_inc aj_d252 rfl hlv16_5 (a := x17.toInt) rfl (by omega) (by omega) (by decide) (by decide) (fun x29 ex29 => ?_)
              obtain ⟨lv30, elv30⟩ : ∃ l, l = aj_set1 lv16 5 (.int x29) := ⟨_, rfl⟩
              rw [← elv30]
              have hlv30_0 : aj_lv lv30 0 = some (.ref 117) := cw_e1 elv30 hlv16_0 (by decide) (Or.inl (by decide))
              have hlv30_1 : aj_lv lv30 1 = some (.int t) := cw_e1 elv30 hlv16_1 (by decide) (Or.inl (by decide))
              have hlv30_2 : aj_lv lv30 2 = some (.int r) := cw_e1 elv30 hlv16_2 (by decide) (Or.inl (by decide))
              have hlv30_3 : aj_lv lv30 3 = some (.int u) := cw_e1 elv30 hlv16_3 (by decide) (Or.inl (by decide))
              have hlv30_4 : aj_lv lv30 4 = some (.int v) := cw_e1 elv30 hlv16_4 (by decide) (Or.inr rfl)
              have hlv30_5 : aj_lv lv30 5 = some (.int x29) := by rw [elv30]; exact ak_set1_eq _ _ _
              show aw_W _ _ _ _ 108 lv30 [] _ _
              refine aw_n aj_d252 rfl rfl ?_
              exact ihL69_13 (aw_wa S15 19 (x23.toInt).toNat (aj_nar 0 x26)) lv30 (x29) hlv30_0 hlv30_1 hlv30_2 hlv30_3 hlv30_4 hlv30_5 ⟨(hI27).1, (aw_skv_sm hI27.2 hI18.2)⟩ fr28 (by omega) (by omega)
        exact L69_13 _ S6 lv13 ((Int32.ofInt 0)) hlv13_0 hlv13_1 hlv13_2 hlv13_3 hlv13_4 hlv13_5 ⟨(hI11).1, hI9.2⟩ fr10 (by first | omega | decide) (Nat.lt_succ_self _)
      · have q12 : x8.toInt < (8 : Int) := aw_t_ge (a := x8.toInt) (b := (8 : Int)) rfl rfl q12
        refine aw_l2 aj_d252 rfl rfl hlv7_0 ?_
        refine aw_g hU.1 aj_d252 rfl rfl (by decide) (v := .ref 134) rfl ?_
        refine aw_l0 aj_d252 rfl rfl hlv7_3 ?_
        refine aw_l0 aj_d252 rfl rfl hlv7_4 ?_
        refine aw_l0 aj_d252 rfl rfl hlv7_5 ?_
        refine aw_ks aj_d252 rfl rfl rfl [_, _, _] rfl rfl (Nat.le_of_ble_eq_true rfl) (ar_cellAt (by omega) (a := u.toInt) (b := v.toInt) (c := x8.toInt) rfl rfl rfl (by omega) (by omega) (by omega)) ?_
        rintro _ zx31 ⟨fx31, x31, rfl, ex31⟩
        rw [fx31]
        show aw_W _ _ _ _ 22 lv7 [.int x31, .ref 134] _ _
        refine aw_l2 aj_d252 rfl rfl hlv7_0 ?_
        refine aw_g hU.1 aj_d252 rfl rfl (by decide) (v := .ref 134) rfl ?_
        refine aw_l0 aj_d252 rfl rfl hlv7_1 ?_
        refine aw_l0 aj_d252 rfl rfl hlv7_2 ?_
        refine aw_l0 aj_d252 rfl rfl hlv7_5 ?_
        refine aw_ks aj_d252 rfl rfl rfl [_, _, _] rfl rfl (Nat.le_of_ble_eq_true rfl) (ar_cellAt (by omega) (a := t.toInt) (b := r.toInt) (c := x8.toInt) rfl rfl rfl (by omega) (by omega) (by omega)) ?_
        rintro _ zx32 ⟨fx32, x32, rfl, ex32⟩
        rw [fx32]
        show aw_W _ _ _ _ 33 lv7 [.int x32, .ref 134, .int x31, .ref 134] _ _
        refine aw_ld (k := 17) hU.1 aj_d252 (Or.inr (Or.inr (Or.inr ⟨rfl, rfl⟩))) rfl (by decide) (by decide) rfl (a := ((t.toInt * 30 + r.toInt) * 8 + x8.toInt)) ex32 (by omega) (by omega) (fun x33 ex33 => ?_)
        have bx33 : 0 ≤ x33.toInt ∧ x33.toInt ≤ 1 := by
          rw [ex33]
          exact aw_bd_a hs (hI11).1 (k := 17) (by decide) (by decide) rfl (by decide) rfl (by omega)
        refine aw_st (k := 17) hU.1 aj_d252 (Or.inr (Or.inr (Or.inr ⟨rfl, rfl⟩))) rfl (by decide) (by decide) rfl (a := ((u.toInt * 30 + v.toInt) * 8 + x8.toInt)) ex31 (by omega) (by omega) ?_
        have hI34 : aw_I s h (aw_sm (aw_wa S6 17 (((u.toInt * 30 + v.toInt) * 8 + x8.toInt)).toNat (aj_nar 4 x33))) (aw_wa S6 17 (((u.toInt * 30 + v.toInt) * 8 + x8.toInt)).toNat (aj_nar 4 x33)) := ⟨aw_T_a hU.2.1 hs hU.1.1 (hI11).1 (by decide) (by decide) rfl (by decide) (by decide) rfl (aw_nar4 (aw_bp (a := x33.toInt) rfl (by omega) (by omega)) (by decide) (by decide)), aw_sm_rf⟩
        have fr35 := aw_fr_a (k := 17) (j := (((u.toInt * 30 + v.toInt) * 8 + x8.toInt)).toNat) (v := aj_nar 4 x33) (by decide) fr10
        refine aw_l2 aj_d252 rfl rfl hlv7_0 ?_
        refine aw_g hU.1 aj_d252 rfl rfl (by decide) (v := .ref 135) rfl ?_
        refine aw_l0 aj_d252 rfl rfl hlv7_3 ?_
        refine aw_l0 aj_d252 rfl rfl hlv7_4 ?_
        refine aw_l0 aj_d252 rfl rfl hlv7_5 ?_
        refine aw_ks aj_d252 rfl rfl rfl [_, _, _] rfl rfl (Nat.le_of_ble_eq_true rfl) (ar_cellAt (by omega) (a := u.toInt) (b := v.toInt) (c := x8.toInt) rfl rfl rfl (by omega) (by omega) (by omega)) ?_
        rintro _ zx36 ⟨fx36, x36, rfl, ex36⟩
        rw [fx36]
        show aw_W _ _ _ _ 47 lv7 [.int x36, .ref 135] _ _
        refine aw_l2 aj_d252 rfl rfl hlv7_0 ?_
        refine aw_g hU.1 aj_d252 rfl rfl (by decide) (v := .ref 135) rfl ?_
        refine aw_l0 aj_d252 rfl rfl hlv7_1 ?_
        refine aw_l0 aj_d252 rfl rfl hlv7_2 ?_
        refine aw_l0 aj_d252 rfl rfl hlv7_5 ?_
        refine aw_ks aj_d252 rfl rfl rfl [_, _, _] rfl rfl (Nat.le_of_ble_eq_true rfl) (ar_cellAt (by omega) (a := t.toInt) (b := r.toInt) (c := x8.toInt) rfl rfl rfl (by omega) (by omega) (by omega)) ?_
        rintro _ zx37 ⟨fx37, x37, rfl, ex37⟩
        rw [fx37]
        show aw_W _ _ _ _ 58 lv7 [.int x37, .ref 135, .int x36, .ref 135] _ _
        refine aw_ld (k := 18) hU.1 aj_d252 (Or.inl ⟨rfl, rfl⟩) rfl (by decide) (by decide) rfl (a := ((t.toInt * 30 + r.toInt) * 8 + x8.toInt)) ex37 (by omega) (by omega) (fun x38 ex38 => ?_)
        refine aw_st (k := 18) hU.1 aj_d252 (Or.inl ⟨rfl, rfl⟩) rfl (by decide) (by decide) rfl (a := ((u.toInt * 30 + v.toInt) * 8 + x8.toInt)) ex36 (by omega) (by omega) ?_
        have hI39 : aw_I s h (aw_sm (aw_wa (aw_wa S6 17 (((u.toInt * 30 + v.toInt) * 8 + x8.toInt)).toNat (aj_nar 4 x33)) 18 (((u.toInt * 30 + v.toInt) * 8 + x8.toInt)).toNat (aj_nar 0 x38))) (aw_wa (aw_wa S6 17 (((u.toInt * 30 + v.toInt) * 8 + x8.toInt)).toNat (aj_nar 4 x33)) 18 (((u.toInt * 30 + v.toInt) * 8 + x8.toInt)).toNat (aj_nar 0 x38)) := ⟨aw_T_a hU.2.1 hs hU.1.1 (hI34).1 (by decide) (by decide) rfl (by decide) (by decide) rfl (aw_full _), aw_sm_rf⟩
        have fr40 := aw_fr_a (k := 18) (j := (((u.toInt * 30 + v.toInt) * 8 + x8.toInt)).toNat) (v := aj_nar 0 x38) (by decide) fr35
        have hG41 : aw_sk S (aw_wa (aw_wa S6 17 (((u.toInt * 30 + v.toInt) * 8 + x8.toInt)).toNat (aj_nar 4 x33)) 18 (((u.toInt * 30 + v.toInt) * 8 + x8.toInt)).toNat (aj_nar 0 x38)) ∧ aw_kv (aw_wa (aw_wa S6 17 (((u.toInt * 30 + v.toInt) * 8 + x8.toInt)).toNat (aj_nar 4 x33)) 18 (((u.toInt * 30 + v.toInt) * 8 + x8.toInt)).toNat (aj_nar 0 x38)) := by
          refine ⟨aw_sk_2 (hI9.2).1, aw_kv_2 (hI9.2).2 (by congr 1) ?_⟩
          rw [aw_nar4_01 (by omega)]
          intro z
          have y := (hI9.2).2 (((t.toInt * 30 + r.toInt) * 8 + x8.toInt)).toNat (by omega) (by rw [ex33] at z; exact z)
          show 0 ≤ (x38).toInt ∧ (x38).toInt ≤ 7
          rw [ex38]
          exact y
        have hI42 : aw_I s h (aw_sm (aw_wa (aw_wa S6 17 (((u.toInt * 30 + v.toInt) * 8 + x8.toInt)).toNat (aj_nar 4 x33)) 18 (((u.toInt * 30 + v.toInt) * 8 + x8.toInt)).toNat (aj_nar 0 x38))) (aw_wa (aw_wa S6 17 (((u.toInt * 30 + v.toInt) * 8 + x8.toInt)).toNat (aj_nar 4 x33)) 18 (((u.toInt * 30 + v.toInt) * 8 + x8.toInt)).toNat (aj_nar 0 x38)) := ⟨(hI39).1, aw_sm_rf⟩
        refine aw_inc aj_d252 rfl hlv7_5 (a := x8.toInt) rfl (by omega) (by omega) (by decide) (by decide) (fun x43 ex43 => ?_)
        obtain ⟨lv44, elv44⟩ : ∃ l, l = aj_set1 lv7 5 (.int x43) := ⟨_, rfl⟩
        rw [← elv44]
        have hlv44_0 : aj_lv lv44 0 = some (.ref 117) := cw_e1 elv44 hlv7_0 (by decide) (Or.inl (by decide))
        have hlv44_1 : aj_lv lv44 1 = some (.int t) := cw_e1 elv44 hlv7_1 (by decide) (Or.inl (by decide))
        have hlv44_2 : aj_lv lv44 2 = some (.int r) := cw_e1 elv44 hlv7_2 (by decide) (Or.inl (by decide))
        have hlv44_3 : aj_lv lv44 3 = some (.int u) := cw_e1 elv44 hlv7_3 (by decide) (Or.inl (by decide))
        have hlv44_4 : aj_lv lv44 4 = some (.int v) := cw_e1 elv44 hlv7_4 (by decide) (Or.inr rfl)
        have hlv44_5 : aj_lv lv44 5 = some (.int x43) := by rw [elv44]; exact ak_set1_eq _ _ _
        show aw_W _ _ _ _ 63 lv44 [] _ _
        refine aw_n aj_d252 rfl rfl ?_
        exact ihL3_4 (aw_wa (aw_wa S6 17 (((u.toInt * 30 + v.toInt) * 8 + x8.toInt)).toNat (aj_nar 4 x33)) 18 (((u.toInt * 30 + v.toInt) * 8 + x8.toInt)).toNat (aj_nar 0 x38)) lv44 (x43) hlv44_0 hlv44_1 hlv44_2 hlv44_3 hlv44_4 hlv44_5 ⟨(hI42).1, hG41⟩ fr40 (by omega) (by omega)
  exact L3_4 _ S lv4 ((Int32.ofInt 0)) hlv4_0 hlv4_1 hlv4_2 hlv4_3 hlv4_4 hlv4_5 ⟨(hI2).1, hG0⟩ fr3 (by first | omega | decide) (Nat.lt_succ_self _)
theorem arc_252 (hU : aw_U tb s h) : ak_CT ak_TR (aw_SP s h (aw_G g)) aw_kap tb 2 ac_c252 := by
  refine ar_ofP (F := []) (A := [17, 18, 19]) hU aw_Gs_G ⟨rfl, rfl, rfl, rfl, rfl, rfl, rfl⟩ ⟨(fun _ z => nomatch z), by decide⟩ (fun d hd S as hI hA hQ => ?_)
  obtain ⟨v0, as, rfl, g0, hA⟩ := cw_gAc hA
  obtain ⟨v1, as, rfl, g1, hA⟩ := cw_gAc hA
  obtain ⟨v2, as, rfl, g2, hA⟩ := cw_gAc hA
  obtain ⟨v3, as, rfl, g3, hA⟩ := cw_gAc hA
  obtain ⟨v4, as, rfl, g4, hA⟩ := cw_gAc hA
  cases cw_gAn hA
  obtain rfl := aw_117 hU.2.2 g0
  obtain ⟨x1, rfl, b1⟩ := ak_gi g1
  obtain ⟨x2, rfl, b2⟩ := ak_gi g2
  obtain ⟨x3, rfl, b3⟩ := ak_gi g3
  obtain ⟨x4, rfl, b4⟩ := ak_gi g4
  refine aw_mono ?_ (ar_copyRow hU hI.1 hI.2.2.2.2.2.1 hd b1 b2 b3 b4)
  rintro r S' ⟨k1, k2, rfl, k3, k4⟩
  exact ⟨k1, k2, trivial, aw_G_sk hI.2 k3 k4, Int.le_of_eq (congrArg Int32.toInt (k2.1 30 (by decide)).1).symm⟩
theorem ar_sided (hU : aw_U tb s h) (hT : ak_Ty ak_TN s (aj_mh h S)) (hkv : aw_kv S) (hd : 4 ≤ d) {t r k v x : Int32} (h1 : 20 ≤ t.toInt ∧ t.toInt ≤ 49) (h2 : 0 ≤ r.toInt ∧ r.toInt ≤ 29) (h3 : (k.toInt = 1 → 0 ≤ v.toInt ∧ v.toInt ≤ 7) ∧ (k.toInt = 2 → -1 ≤ v.toInt ∧ v.toInt ≤ 5)) (h4 : 0 ≤ x.toInt ∧ x.toInt ≤ 1023) : aw_K tb h d 257 [.ref 117, .int t, .int r, .int k, .int v, .int x] S (fun r S' => S' = S ∧ ∃ b : Int32, r = some (.int b)) := by
  obtain ⟨d, rfl⟩ : ∃ e, d = e + 1 := ⟨d - 1, by omega⟩
  have hs : aw_sT s := aw_hy_sT hU.2.2
  refine aw_m aj_m257_at rfl (Nat.le_of_ble_eq_true rfl) ?_
  show aw_W _ _ _ _ 0 [(0, .ref 117), (1, .int t), (2, .int r), (3, .int k), (4, .int v), (5, .int x)] [] _ _
  obtain ⟨lv45, elv45⟩ : ∃ l : aj_V, l = [(0, .ref 117), (1, .int t), (2, .int r), (3, .int k), (4, .int v), (5, .int x)] := ⟨_, rfl⟩
  rw [← elv45]
  have hlv45_0 : aj_lv lv45 0 = some (.ref 117) := by rw [elv45]; rfl
  have hlv45_1 : aj_lv lv45 1 = some (.int t) := by rw [elv45]; rfl
  have hlv45_2 : aj_lv lv45 2 = some (.int r) := by rw [elv45]; rfl
  have hlv45_3 : aj_lv lv45 3 = some (.int k) := by rw [elv45]; rfl
  have hlv45_4 : aj_lv lv45 4 = some (.int v) := by rw [elv45]; rfl
  have hlv45_5 : aj_lv lv45 5 = some (.int x) := by rw [elv45]; rfl
  have hI46 : aw_I s h (aw_sm S) S := ⟨hT, aw_sm_rf⟩
  have fr47 : aw_fr [] [] S S := aw_fr_rf
  refine aw_l0 aj_d257 rfl rfl hlv45_3 ?_
  refine aw_n aj_d257 rfl rfl ?_
  refine aw_c (tgt := 18) aj_d257 rfl rfl (fun q48 => ?_) (fun q48 => ?_)
  · have q48 : k.toInt ≠ (2 : Int) := aw_t_ne (a := k.toInt) (b := (2 : Int)) rfl rfl q48
    refine aw_l2 aj_d257 rfl rfl hlv45_0 ?_
    refine aw_l2 aj_d257 rfl rfl hlv45_0 ?_
    have b49 : 0 ≤ (S.1 37).toInt ∧ (S.1 37).toInt ≤ 1 := aw_bd_f hs (hI46).1 (by decide) rfl
    refine aw_g hU.1 aj_d257 rfl rfl (by decide) (v := .int (S.1 37)) rfl ?_
    refine aw_l0 aj_d257 rfl rfl hlv45_3 ?_
    refine aw_l0 aj_d257 rfl rfl hlv45_4 ?_
    refine aw_l0 aj_d257 rfl rfl hlv45_5 ?_
    refine aw_k hU.1 aj_d257 rfl rfl [_, _, _, _] rfl rfl rfl (Nat.le_of_ble_eq_true rfl) (ar_valued hU (hI46).1 (by omega) (k := k) (v := v) (x := x) (by omega) h3.1 (by omega)) ?_
    rintro _ zb50 ⟨fb50, b50, rfl⟩
    rw [fb50]
    show aw_W _ _ _ _ 31 lv45 [.int b50] _ _
    refine aw_e aj_d257 rfl rfl ?_
    exact ⟨rfl, _, rfl⟩
  · have q48 : k.toInt = (2 : Int) := aw_t_ne (a := k.toInt) (b := (2 : Int)) rfl rfl q48
    refine aw_l2 aj_d257 rfl rfl hlv45_0 ?_
    refine aw_l0 aj_d257 rfl rfl hlv45_1 ?_
    refine aw_l0 aj_d257 rfl rfl hlv45_2 ?_
    refine aw_l0 aj_d257 rfl rfl hlv45_4 ?_
    refine aw_l0 aj_d257 rfl rfl hlv45_5 ?_
    refine aw_k hU.1 aj_d257 rfl rfl [_, _, _, _] rfl rfl rfl (Nat.le_of_ble_eq_true rfl) (ar_valueAt hU (hI46).1 hkv (by omega) (by omega) (by omega) (by omega) (by omega) (by omega)) ?_
    rintro _ zb51 ⟨fb51, b51, rfl⟩
    rw [fb51]
    show aw_W _ _ _ _ 15 lv45 [.int b51] _ _
    refine aw_n aj_d257 rfl rfl ?_
    refine aw_e aj_d257 rfl rfl ?_
    exact ⟨rfl, _, rfl⟩
theorem ar_side (hU : aw_U tb s h) (hT : ak_Ty ak_TN s (aj_mh h S)) (hG : aw_G (nm, fl, la, 0, 0, ht) S) (hd : 7 ≤ d) {x : Int32} (hx : 20 ≤ x.toInt ∧ x.toInt ≤ 48) : aw_K tb h d 255 [.ref 117, .int x] S (ar_QT s h (nm, fl, la, 0, 0, ht) [24, 25, 26, 27, 28, 29, 30, 31, 33, 34, 35, 36, 38, 39, 52, 53, 54] [] S (fun S' => ((S'.1 32).toInt ≠ 0 → (S'.1 52).toInt = 1 → 0 ≤ (S'.1 53).toInt ∧ (S'.1 53).toInt ≤ 7) ∧ ((S'.1 52).toInt = 2 → -1 ≤ (S'.1 53).toInt ∧ (S'.1 53).toInt ≤ 5))) := by
  obtain ⟨d, rfl⟩ : ∃ e, d = e + 1 := ⟨d - 1, by omega⟩
  have hs : aw_sT s := aw_hy_sT hU.2.2
  refine aw_m aj_m255_at rfl (Nat.le_of_ble_eq_true rfl) ?_
  show aw_W _ _ _ _ 0 [(0, .ref 117), (1, .int x)] [] _ _
  obtain ⟨lv52, elv52⟩ : ∃ l : aj_V, l = [(0, .ref 117), (1, .int x)] := ⟨_, rfl⟩
  rw [← elv52]
  have hlv52_0 : aj_lv lv52 0 = some (.ref 117) := by rw [elv52]; rfl
  have hlv52_1 : aj_lv lv52 1 = some (.int x) := by rw [elv52]; rfl
  have hI53 : aw_I s h (aw_sm S) S := ⟨hT, aw_sm_rf⟩
  have fr54 : aw_fr [24, 25, 26, 27, 28, 29, 30, 31, 33, 34, 35, 36, 38, 39, 52, 53, 54] [] S S := aw_fr_rf
  refine aw_l2 aj_d255 rfl rfl hlv52_0 ?_
  have b55 : 0 ≤ (S.1 26).toInt ∧ (S.1 26).toInt ≤ 5 := aw_bd_f hs (hI53).1 (by decide) rfl
  refine aw_g hU.1 aj_d255 rfl rfl (by decide) (v := .int (S.1 26)) rfl ?_
  refine aw_n aj_d255 rfl rfl ?_
  refine aw_c (tgt := 56) aj_d255 rfl rfl (fun q56 => ?_) (fun q56 => ?_)
  · have q56 : (S.1 26).toInt ≠ (1 : Int) := aw_t_ne (a := (S.1 26).toInt) (b := (1 : Int)) rfl rfl q56
    refine aw_l2 aj_d255 rfl rfl hlv52_0 ?_
    refine aw_g hU.1 aj_d255 rfl rfl (by decide) (v := .int (S.1 26)) rfl ?_
    refine aw_n aj_d255 rfl rfl ?_
    refine aw_c (tgt := 92) aj_d255 rfl rfl (fun q57 => ?_) (fun q57 => ?_)
    · have q57 : (S.1 26).toInt = (2 : Int) := aw_t_eq (a := (S.1 26).toInt) (b := (2 : Int)) rfl rfl q57
      refine aw_l2 aj_d255 rfl rfl hlv52_0 ?_
      have b59 : 0 ≤ (S.1 30).toInt ∧ (S.1 30).toInt ≤ 1001 := aw_bd_f hs (hI53).1 (by decide) rfl
      refine aw_k hU.1 aj_d255 rfl rfl [] rfl rfl rfl (Nat.le_of_ble_eq_true rfl) (ar_term hU (hI53).1 hG (by omega)) ?_
      rintro _ S58 ⟨hT58, fc58, ⟨b58, rfl, hb58, hG58, ck58⟩ | ⟨b58, rfl, hb58, hG58, ck58, tv58⟩⟩
      · skip
        have ck58 : ((S.1 30)).toInt ≤ (S58.1 30).toInt := ck58
        have fr60 := aw_fr_tr fr54 (aw_fr_sub (F := [24, 25, 26, 27, 28, 29, 30, 31, 33, 34, 35, 36, 38, 39]) (A := []) (by decide) (by decide) fc58)
        have hI61 : aw_I s h (aw_sm S58) S58 := ⟨hT58, aw_sm_rf⟩
        show aw_W _ _ _ _ 96 lv52 [.int b58] _ _
        refine aw_z (tgt := 101) aj_d255 rfl rfl (fun q62 => ?_) (fun q62 => ?_)
        · have q62 : (0 : Int) ≠ (0 : Int) := aw_t_ne (a := (0 : Int)) (b := (0 : Int)) hb58 rfl q62
          exfalso
          omega
        · have q62 : (0 : Int) = (0 : Int) := aw_t_ne (a := (0 : Int)) (b := (0 : Int)) hb58 rfl q62
          refine aw_n aj_d255 rfl rfl ?_
          refine aw_e aj_d255 rfl rfl ?_
          have b63 : 0 ≤ (S58.1 30).toInt ∧ (S58.1 30).toInt ≤ 1001 := aw_bd_f hs (hI61).1 (by decide) rfl
          exact ⟨(hI61).1, fr60, Or.inl ⟨_, rfl, rfl, hG58, (show _ ≤ ((S58.1 30)).toInt by omega)⟩⟩
      · skip
        have ck58 : ((S.1 30)).toInt + 1 ≤ (S58.1 30).toInt := ck58
        have fr64 := aw_fr_tr fr54 (aw_fr_sub (F := [24, 25, 26, 27, 28, 29, 30, 31, 33, 34, 35, 36, 38, 39]) (A := []) (by decide) (by decide) fc58)
        have hI65 : aw_I s h (aw_sm S58) S58 := ⟨hT58, aw_sm_rf⟩
        show aw_W _ _ _ _ 96 lv52 [.int b58] _ _
        refine aw_z (tgt := 101) aj_d255 rfl rfl (fun q66 => ?_) (fun q66 => ?_)
        · have q66 : (1 : Int) ≠ (0 : Int) := aw_t_ne (a := (1 : Int)) (b := (0 : Int)) hb58 rfl q66
          refine aw_l2 aj_d255 rfl rfl hlv52_0 ?_
          refine aw_l2 aj_d255 rfl rfl hlv52_0 ?_
          have b67 : 0 ≤ (S58.1 38).toInt ∧ (S58.1 38).toInt ≤ 1 := aw_bd_f hs (hI65).1 (by decide) rfl
          refine aw_g hU.1 aj_d255 rfl rfl (by decide) (v := .int (S58.1 38)) rfl ?_
          refine aw_p hU.1 aj_d255 rfl rfl (by decide) rfl ?_
          have hI68 := aw_I_f (aw_UV hU aw_Gs_sm) (k := 52) (v := (S58.1 38)) hI65 (by decide) (by decide) rfl (aw_bp (a := (S58.1 38).toInt) rfl (by omega) (by omega))
          have fr69 := aw_fr_f (k := 52) (v := (S58.1 38)) (by decide) fr64
          refine aw_l2 aj_d255 rfl rfl hlv52_0 ?_
          refine aw_l2 aj_d255 rfl rfl hlv52_0 ?_
          refine aw_g hU.1 aj_d255 rfl rfl (by decide) (v := .int (S58.1 39)) rfl ?_
          refine aw_p hU.1 aj_d255 rfl rfl (by decide) rfl ?_
          have hI70 := aw_I_f (aw_UV hU aw_Gs_sm) (k := 53) (v := (S58.1 39)) hI68 (by decide) (by decide) rfl (aw_full _)
          have fr71 := aw_fr_f (k := 53) (v := (S58.1 39)) (by decide) fr69
          refine aw_l2 aj_d255 rfl rfl hlv52_0 ?_
          refine aw_l2 aj_d255 rfl rfl hlv52_0 ?_
          have b72 : 0 ≤ (S.1 54).toInt ∧ (S.1 54).toInt ≤ 1 := aw_bd_f hs (hI53).1 (by decide) rfl
          have c73 : (S58.1 54).toInt = (S.1 54).toInt := (congrArg Int32.toInt (fc58.1 54 (by decide)).1).trans rfl
          have b74 : 0 ≤ (S58.1 54).toInt ∧ (S58.1 54).toInt ≤ 1 := aw_bd_f hs (hI65).1 (by decide) rfl
          refine aw_g hU.1 aj_d255 rfl rfl (by decide) (v := .int (S58.1 54)) rfl ?_
          refine aw_z (tgt := 140) aj_d255 rfl rfl (fun q75 => ?_) (fun q75 => ?_)
          · have q75 : (S.1 54).toInt ≠ (0 : Int) := aw_t_ne (a := (S.1 54).toInt) (b := (0 : Int)) c73 rfl q75
            refine aw_n aj_d255 rfl rfl ?_
            refine aw_n aj_d255 rfl rfl ?_
            refine aw_p hU.1 aj_d255 rfl rfl (by decide) rfl ?_
            have hI76 := aw_I_f (aw_UV hU aw_Gs_sm) (k := 54) (v := (Int32.ofInt 1)) hI70 (by decide) (by decide) rfl (aw_bp (a := (1 : Int)) rfl (by omega) (by omega))
            have fr77 := aw_fr_f (k := 54) (v := (Int32.ofInt 1)) (by decide) fr71
            refine aw_n aj_d255 rfl rfl ?_
            refine aw_e aj_d255 rfl rfl ?_
            have b78 : 0 ≤ (S58.1 30).toInt ∧ (S58.1 30).toInt ≤ 1001 := aw_bd_f hs (hI65).1 (by decide) rfl
            have b79 : 0 ≤ (S.1 32).toInt ∧ (S.1 32).toInt ≤ 1 := aw_bd_f hs (hI53).1 (by decide) rfl
            have c80 : (S58.1 32).toInt = (S.1 32).toInt := (congrArg Int32.toInt (fc58.1 32 (by decide)).1).trans rfl
            have b81 : 0 ≤ (S58.1 32).toInt ∧ (S58.1 32).toInt ≤ 1 := aw_bd_f hs (hI65).1 (by decide) rfl
            exact ⟨(hI76).1, fr77, Or.inr ⟨_, rfl, rfl, (aw_G_sm hI76.2 hG58), (show _ + 1 ≤ ((S58.1 30)).toInt by omega), ⟨fun y z => (by have y : ((S58.1 32)).toInt ≠ 0 := y; have z : ((S58.1 38)).toInt = 1 := z; show 0 ≤ ((S58.1 39)).toInt ∧ ((S58.1 39)).toInt ≤ 7; have u := tv58; have u := (show ((S58.1 32)).toInt ≠ 0 → ((S58.1 38)).toInt = 1 → 0 ≤ ((S58.1 39)).toInt ∧ ((S58.1 39)).toInt ≤ 7 from u) (by omega) (by omega); omega), fun z => (by have z : ((S58.1 38)).toInt = 2 := z; omega)⟩⟩⟩
          · have q75 : (S.1 54).toInt = (0 : Int) := aw_t_ne (a := (S.1 54).toInt) (b := (0 : Int)) c73 rfl q75
            refine aw_l2 aj_d255 rfl rfl hlv52_0 ?_
            refine aw_g hU.1 aj_d255 rfl rfl (by decide) (v := .int (S58.1 38)) rfl ?_
            refine aw_n aj_d255 rfl rfl ?_
            refine aw_c (tgt := 144) aj_d255 rfl rfl (fun q82 => ?_) (fun q82 => ?_)
            · have q82 : (S58.1 38).toInt ≠ (1 : Int) := aw_t_ne (a := (S58.1 38).toInt) (b := (1 : Int)) rfl rfl q82
              refine aw_n aj_d255 rfl rfl ?_
              refine aw_p hU.1 aj_d255 rfl rfl (by decide) rfl ?_
              have hI83 := aw_I_f (aw_UV hU aw_Gs_sm) (k := 54) (v := (Int32.ofInt 0)) hI70 (by decide) (by decide) rfl (aw_bp (a := (0 : Int)) rfl (by omega) (by omega))
              have fr84 := aw_fr_f (k := 54) (v := (Int32.ofInt 0)) (by decide) fr71
              refine aw_n aj_d255 rfl rfl ?_
              refine aw_e aj_d255 rfl rfl ?_
              have b85 : 0 ≤ (S58.1 30).toInt ∧ (S58.1 30).toInt ≤ 1001 := aw_bd_f hs (hI65).1 (by decide) rfl
              have b86 : 0 ≤ (S.1 32).toInt ∧ (S.1 32).toInt ≤ 1 := aw_bd_f hs (hI53).1 (by decide) rfl
              have c87 : (S58.1 32).toInt = (S.1 32).toInt := (congrArg Int32.toInt (fc58.1 32 (by decide)).1).trans rfl
              have b88 : 0 ≤ (S58.1 32).toInt ∧ (S58.1 32).toInt ≤ 1 := aw_bd_f hs (hI65).1 (by decide) rfl
              exact ⟨(hI83).1, fr84, Or.inr ⟨_, rfl, rfl, (aw_G_sm hI83.2 hG58), (show _ + 1 ≤ ((S58.1 30)).toInt by omega), ⟨fun y z => (by have y : ((S58.1 32)).toInt ≠ 0 := y; have z : ((S58.1 38)).toInt = 1 := z; show 0 ≤ ((S58.1 39)).toInt ∧ ((S58.1 39)).toInt ≤ 7; have u := tv58; have u := (show ((S58.1 32)).toInt ≠ 0 → ((S58.1 38)).toInt = 1 → 0 ≤ ((S58.1 39)).toInt ∧ ((S58.1 39)).toInt ≤ 7 from u) (by omega) (by omega); omega), fun z => (by have z : ((S58.1 38)).toInt = 2 := z; omega)⟩⟩⟩
            · have q82 : (S58.1 38).toInt = (1 : Int) := aw_t_ne (a := (S58.1 38).toInt) (b := (1 : Int)) rfl rfl q82
              refine aw_l2 aj_d255 rfl rfl hlv52_0 ?_
              refine aw_g hU.1 aj_d255 rfl rfl (by decide) (v := .int (S58.1 39)) rfl ?_
              refine aw_z (tgt := 144) aj_d255 rfl rfl (fun q89 => ?_) (fun q89 => ?_)
              · have q89 : (S58.1 39).toInt ≥ (0 : Int) := aw_t_ge (a := (S58.1 39).toInt) (b := (0 : Int)) rfl rfl q89
                refine aw_n aj_d255 rfl rfl ?_
                refine aw_p hU.1 aj_d255 rfl rfl (by decide) rfl ?_
                have hI90 := aw_I_f (aw_UV hU aw_Gs_sm) (k := 54) (v := (Int32.ofInt 0)) hI70 (by decide) (by decide) rfl (aw_bp (a := (0 : Int)) rfl (by omega) (by omega))
                have fr91 := aw_fr_f (k := 54) (v := (Int32.ofInt 0)) (by decide) fr71
                refine aw_n aj_d255 rfl rfl ?_
                refine aw_e aj_d255 rfl rfl ?_
                have b92 : 0 ≤ (S58.1 30).toInt ∧ (S58.1 30).toInt ≤ 1001 := aw_bd_f hs (hI65).1 (by decide) rfl
                have b93 : 0 ≤ (S.1 32).toInt ∧ (S.1 32).toInt ≤ 1 := aw_bd_f hs (hI53).1 (by decide) rfl
                have c94 : (S58.1 32).toInt = (S.1 32).toInt := (congrArg Int32.toInt (fc58.1 32 (by decide)).1).trans rfl
                have b95 : 0 ≤ (S58.1 32).toInt ∧ (S58.1 32).toInt ≤ 1 := aw_bd_f hs (hI65).1 (by decide) rfl
                exact ⟨(hI90).1, fr91, Or.inr ⟨_, rfl, rfl, (aw_G_sm hI90.2 hG58), (show _ + 1 ≤ ((S58.1 30)).toInt by omega), ⟨fun y z => (by have y : ((S58.1 32)).toInt ≠ 0 := y; have z : ((S58.1 38)).toInt = 1 := z; show 0 ≤ ((S58.1 39)).toInt ∧ ((S58.1 39)).toInt ≤ 7; have u := tv58; have u := (show ((S58.1 32)).toInt ≠ 0 → ((S58.1 38)).toInt = 1 → 0 ≤ ((S58.1 39)).toInt ∧ ((S58.1 39)).toInt ≤ 7 from u) (by omega) (by omega); omega), fun z => (by have z : ((S58.1 38)).toInt = 2 := z; omega)⟩⟩⟩
              · have q89 : (S58.1 39).toInt < (0 : Int) := aw_t_ge (a := (S58.1 39).toInt) (b := (0 : Int)) rfl rfl q89
                refine aw_n aj_d255 rfl rfl ?_
                refine aw_n aj_d255 rfl rfl ?_
                refine aw_p hU.1 aj_d255 rfl rfl (by decide) rfl ?_
                have hI96 := aw_I_f (aw_UV hU aw_Gs_sm) (k := 54) (v := (Int32.ofInt 1)) hI70 (by decide) (by decide) rfl (aw_bp (a := (1 : Int)) rfl (by omega) (by omega))
                have fr97 := aw_fr_f (k := 54) (v := (Int32.ofInt 1)) (by decide) fr71
                refine aw_n aj_d255 rfl rfl ?_
                refine aw_e aj_d255 rfl rfl ?_
                have b98 : 0 ≤ (S58.1 30).toInt ∧ (S58.1 30).toInt ≤ 1001 := aw_bd_f hs (hI65).1 (by decide) rfl
                have b99 : 0 ≤ (S.1 32).toInt ∧ (S.1 32).toInt ≤ 1 := aw_bd_f hs (hI53).1 (by decide) rfl
                have c100 : (S58.1 32).toInt = (S.1 32).toInt := (congrArg Int32.toInt (fc58.1 32 (by decide)).1).trans rfl
                have b101 : 0 ≤ (S58.1 32).toInt ∧ (S58.1 32).toInt ≤ 1 := aw_bd_f hs (hI65).1 (by decide) rfl
                exact ⟨(hI96).1, fr97, Or.inr ⟨_, rfl, rfl, (aw_G_sm hI96.2 hG58), (show _ + 1 ≤ ((S58.1 30)).toInt by omega), ⟨fun y z => (by have y : ((S58.1 32)).toInt ≠ 0 := y; have z : ((S58.1 38)).toInt = 1 := z; show 0 ≤ ((S58.1 39)).toInt ∧ ((S58.1 39)).toInt ≤ 7; have u := tv58; have u := (show ((S58.1 32)).toInt ≠ 0 → ((S58.1 38)).toInt = 1 → 0 ≤ ((S58.1 39)).toInt ∧ ((S58.1 39)).toInt ≤ 7 from u) (by omega) (by omega); omega), fun z => (by have z : ((S58.1 38)).toInt = 2 := z; omega)⟩⟩⟩
        · have q66 : (1 : Int) = (0 : Int) := aw_t_ne (a := (1 : Int)) (b := (0 : Int)) hb58 rfl q66
          exfalso
          omega
    · have q57 : (S.1 26).toInt ≠ (2 : Int) := aw_t_eq (a := (S.1 26).toInt) (b := (2 : Int)) rfl rfl q57
      refine aw_l2 aj_d255 rfl rfl hlv52_0 ?_
      refine aw_n aj_d255 rfl rfl ?_
      refine aw_k hU.1 aj_d255 rfl rfl [_] rfl rfl rfl (Nat.le_of_ble_eq_true rfl) (ar_isSign hU (by omega) (b := (45 : Int)) rfl) ?_
      rintro _ S103 ⟨eS103, b102, rfl, kb102⟩
      rw [eS103]
      rcases kb102 with ⟨hb102, pb102, qb102⟩ | ⟨hb102, pb102⟩
      · skip
        have pb102 : ((S.1 26)).toInt = 3 := pb102
        have qb102 : ((S.1 29)).toInt = (45 : Int) := qb102
        show aw_W _ _ _ _ 70 lv52 [.int b102] _ _
        refine aw_z (tgt := 92) aj_d255 rfl rfl (fun q104 => ?_) (fun q104 => ?_)
        · have q104 : (1 : Int) ≠ (0 : Int) := aw_t_ne (a := (1 : Int)) (b := (0 : Int)) hb102 rfl q104
          refine aw_l2 aj_d255 rfl rfl hlv52_0 ?_
          have b106 : 0 ≤ (S.1 30).toInt ∧ (S.1 30).toInt ≤ 1001 := aw_bd_f hs (hI53).1 (by decide) rfl
          refine aw_k hU.1 aj_d255 rfl rfl [] rfl rfl rfl (Nat.le_of_ble_eq_true rfl) (ar_term hU (hI53).1 hG (by omega)) ?_
          rintro _ S105 ⟨hT105, fc105, ⟨b105, rfl, hb105, hG105, ck105⟩ | ⟨b105, rfl, hb105, hG105, ck105, tv105⟩⟩
          · skip
            have ck105 : ((S.1 30)).toInt ≤ (S105.1 30).toInt := ck105
            have fr107 := aw_fr_tr fr54 (aw_fr_sub (F := [24, 25, 26, 27, 28, 29, 30, 31, 33, 34, 35, 36, 38, 39]) (A := []) (by decide) (by decide) fc105)
            have hI108 : aw_I s h (aw_sm S105) S105 := ⟨hT105, aw_sm_rf⟩
            show aw_W _ _ _ _ 96 lv52 [.int b105] _ _
            refine aw_z (tgt := 101) aj_d255 rfl rfl (fun q109 => ?_) (fun q109 => ?_)
            · have q109 : (0 : Int) ≠ (0 : Int) := aw_t_ne (a := (0 : Int)) (b := (0 : Int)) hb105 rfl q109
              exfalso
              omega
            · have q109 : (0 : Int) = (0 : Int) := aw_t_ne (a := (0 : Int)) (b := (0 : Int)) hb105 rfl q109
              refine aw_n aj_d255 rfl rfl ?_
              refine aw_e aj_d255 rfl rfl ?_
              have b110 : 0 ≤ (S105.1 30).toInt ∧ (S105.1 30).toInt ≤ 1001 := aw_bd_f hs (hI108).1 (by decide) rfl
              exact ⟨(hI108).1, fr107, Or.inl ⟨_, rfl, rfl, hG105, (show _ ≤ ((S105.1 30)).toInt by omega)⟩⟩
          · skip
            have ck105 : ((S.1 30)).toInt + 1 ≤ (S105.1 30).toInt := ck105
            have fr111 := aw_fr_tr fr54 (aw_fr_sub (F := [24, 25, 26, 27, 28, 29, 30, 31, 33, 34, 35, 36, 38, 39]) (A := []) (by decide) (by decide) fc105)
            have hI112 : aw_I s h (aw_sm S105) S105 := ⟨hT105, aw_sm_rf⟩
            show aw_W _ _ _ _ 96 lv52 [.int b105] _ _
            refine aw_z (tgt := 101) aj_d255 rfl rfl (fun q113 => ?_) (fun q113 => ?_)
            · have q113 : (1 : Int) ≠ (0 : Int) := aw_t_ne (a := (1 : Int)) (b := (0 : Int)) hb105 rfl q113
              refine aw_l2 aj_d255 rfl rfl hlv52_0 ?_
              refine aw_l2 aj_d255 rfl rfl hlv52_0 ?_
              have b114 : 0 ≤ (S105.1 38).toInt ∧ (S105.1 38).toInt ≤ 1 := aw_bd_f hs (hI112).1 (by decide) rfl
              refine aw_g hU.1 aj_d255 rfl rfl (by decide) (v := .int (S105.1 38)) rfl ?_
              refine aw_p hU.1 aj_d255 rfl rfl (by decide) rfl ?_
              have hI115 := aw_I_f (aw_UV hU aw_Gs_sm) (k := 52) (v := (S105.1 38)) hI112 (by decide) (by decide) rfl (aw_bp (a := (S105.1 38).toInt) rfl (by omega) (by omega))
              have fr116 := aw_fr_f (k := 52) (v := (S105.1 38)) (by decide) fr111
              refine aw_l2 aj_d255 rfl rfl hlv52_0 ?_
              refine aw_l2 aj_d255 rfl rfl hlv52_0 ?_
              refine aw_g hU.1 aj_d255 rfl rfl (by decide) (v := .int (S105.1 39)) rfl ?_
              refine aw_p hU.1 aj_d255 rfl rfl (by decide) rfl ?_
              have hI117 := aw_I_f (aw_UV hU aw_Gs_sm) (k := 53) (v := (S105.1 39)) hI115 (by decide) (by decide) rfl (aw_full _)
              have fr118 := aw_fr_f (k := 53) (v := (S105.1 39)) (by decide) fr116
              refine aw_l2 aj_d255 rfl rfl hlv52_0 ?_
              refine aw_l2 aj_d255 rfl rfl hlv52_0 ?_
              have b119 : 0 ≤ (S.1 54).toInt ∧ (S.1 54).toInt ≤ 1 := aw_bd_f hs (hI53).1 (by decide) rfl
              have c120 : (S105.1 54).toInt = (S.1 54).toInt := (congrArg Int32.toInt (fc105.1 54 (by decide)).1).trans rfl
              have b121 : 0 ≤ (S105.1 54).toInt ∧ (S105.1 54).toInt ≤ 1 := aw_bd_f hs (hI112).1 (by decide) rfl
              refine aw_g hU.1 aj_d255 rfl rfl (by decide) (v := .int (S105.1 54)) rfl ?_
              refine aw_z (tgt := 140) aj_d255 rfl rfl (fun q122 => ?_) (fun q122 => ?_)
              · have q122 : (S.1 54).toInt ≠ (0 : Int) := aw_t_ne (a := (S.1 54).toInt) (b := (0 : Int)) c120 rfl q122
                refine aw_n aj_d255 rfl rfl ?_
                refine aw_n aj_d255 rfl rfl ?_
                refine aw_p hU.1 aj_d255 rfl rfl (by decide) rfl ?_
                have hI123 := aw_I_f (aw_UV hU aw_Gs_sm) (k := 54) (v := (Int32.ofInt 1)) hI117 (by decide) (by decide) rfl (aw_bp (a := (1 : Int)) rfl (by omega) (by omega))
                have fr124 := aw_fr_f (k := 54) (v := (Int32.ofInt 1)) (by decide) fr118
                refine aw_n aj_d255 rfl rfl ?_
                refine aw_e aj_d255 rfl rfl ?_
                have b125 : 0 ≤ (S105.1 30).toInt ∧ (S105.1 30).toInt ≤ 1001 := aw_bd_f hs (hI112).1 (by decide) rfl
                have b126 : 0 ≤ (S.1 32).toInt ∧ (S.1 32).toInt ≤ 1 := aw_bd_f hs (hI53).1 (by decide) rfl
                have c127 : (S105.1 32).toInt = (S.1 32).toInt := (congrArg Int32.toInt (fc105.1 32 (by decide)).1).trans rfl
                have b128 : 0 ≤ (S105.1 32).toInt ∧ (S105.1 32).toInt ≤ 1 := aw_bd_f hs (hI112).1 (by decide) rfl
                exact ⟨(hI123).1, fr124, Or.inr ⟨_, rfl, rfl, (aw_G_sm hI123.2 hG105), (show _ + 1 ≤ ((S105.1 30)).toInt by omega), ⟨fun y z => (by have y : ((S105.1 32)).toInt ≠ 0 := y; have z : ((S105.1 38)).toInt = 1 := z; show 0 ≤ ((S105.1 39)).toInt ∧ ((S105.1 39)).toInt ≤ 7; have u := tv105; have u := (show ((S105.1 32)).toInt ≠ 0 → ((S105.1 38)).toInt = 1 → 0 ≤ ((S105.1 39)).toInt ∧ ((S105.1 39)).toInt ≤ 7 from u) (by omega) (by omega); omega), fun z => (by have z : ((S105.1 38)).toInt = 2 := z; omega)⟩⟩⟩
              · have q122 : (S.1 54).toInt = (0 : Int) := aw_t_ne (a := (S.1 54).toInt) (b := (0 : Int)) c120 rfl q122
                refine aw_l2 aj_d255 rfl rfl hlv52_0 ?_
                refine aw_g hU.1 aj_d255 rfl rfl (by decide) (v := .int (S105.1 38)) rfl ?_
                refine aw_n aj_d255 rfl rfl ?_
                refine aw_c (tgt := 144) aj_d255 rfl rfl (fun q129 => ?_) (fun q129 => ?_)
                · have q129 : (S105.1 38).toInt ≠ (1 : Int) := aw_t_ne (a := (S105.1 38).toInt) (b := (1 : Int)) rfl rfl q129
                  refine aw_n aj_d255 rfl rfl ?_
                  refine aw_p hU.1 aj_d255 rfl rfl (by decide) rfl ?_
                  have hI130 := aw_I_f (aw_UV hU aw_Gs_sm) (k := 54) (v := (Int32.ofInt 0)) hI117 (by decide) (by decide) rfl (aw_bp (a := (0 : Int)) rfl (by omega) (by omega))
                  have fr131 := aw_fr_f (k := 54) (v := (Int32.ofInt 0)) (by decide) fr118
                  refine aw_n aj_d255 rfl rfl ?_
                  refine aw_e aj_d255 rfl rfl ?_
                  have b132 : 0 ≤ (S105.1 30).toInt ∧ (S105.1 30).toInt ≤ 1001 := aw_bd_f hs (hI112).1 (by decide) rfl
                  have b133 : 0 ≤ (S.1 32).toInt ∧ (S.1 32).toInt ≤ 1 := aw_bd_f hs (hI53).1 (by decide) rfl
                  have c134 : (S105.1 32).toInt = (S.1 32).toInt := (congrArg Int32.toInt (fc105.1 32 (by decide)).1).trans rfl
                  have b135 : 0 ≤ (S105.1 32).toInt ∧ (S105.1 32).toInt ≤ 1 := aw_bd_f hs (hI112).1 (by decide) rfl
                  exact ⟨(hI130).1, fr131, Or.inr ⟨_, rfl, rfl, (aw_G_sm hI130.2 hG105), (show _ + 1 ≤ ((S105.1 30)).toInt by omega), ⟨fun y z => (by have y : ((S105.1 32)).toInt ≠ 0 := y; have z : ((S105.1 38)).toInt = 1 := z; show 0 ≤ ((S105.1 39)).toInt ∧ ((S105.1 39)).toInt ≤ 7; have u := tv105; have u := (show ((S105.1 32)).toInt ≠ 0 → ((S105.1 38)).toInt = 1 → 0 ≤ ((S105.1 39)).toInt ∧ ((S105.1 39)).toInt ≤ 7 from u) (by omega) (by omega); omega), fun z => (by have z : ((S105.1 38)).toInt = 2 := z; omega)⟩⟩⟩
                · have q129 : (S105.1 38).toInt = (1 : Int) := aw_t_ne (a := (S105.1 38).toInt) (b := (1 : Int)) rfl rfl q129
                  refine aw_l2 aj_d255 rfl rfl hlv52_0 ?_
                  refine aw_g hU.1 aj_d255 rfl rfl (by decide) (v := .int (S105.1 39)) rfl ?_
                  refine aw_z (tgt := 144) aj_d255 rfl rfl (fun q136 => ?_) (fun q136 => ?_)
                  · have q136 : (S105.1 39).toInt ≥ (0 : Int) := aw_t_ge (a := (S105.1 39).toInt) (b := (0 : Int)) rfl rfl q136
                    refine aw_n aj_d255 rfl rfl ?_
                    refine aw_p hU.1 aj_d255 rfl rfl (by decide) rfl ?_
                    have hI137 := aw_I_f (aw_UV hU aw_Gs_sm) (k := 54) (v := (Int32.ofInt 0)) hI117 (by decide) (by decide) rfl (aw_bp (a := (0 : Int)) rfl (by omega) (by omega))
                    have fr138 := aw_fr_f (k := 54) (v := (Int32.ofInt 0)) (by decide) fr118
                    refine aw_n aj_d255 rfl rfl ?_
                    refine aw_e aj_d255 rfl rfl ?_
                    have b139 : 0 ≤ (S105.1 30).toInt ∧ (S105.1 30).toInt ≤ 1001 := aw_bd_f hs (hI112).1 (by decide) rfl
                    have b140 : 0 ≤ (S.1 32).toInt ∧ (S.1 32).toInt ≤ 1 := aw_bd_f hs (hI53).1 (by decide) rfl
                    have c141 : (S105.1 32).toInt = (S.1 32).toInt := (congrArg Int32.toInt (fc105.1 32 (by decide)).1).trans rfl
                    have b142 : 0 ≤ (S105.1 32).toInt ∧ (S105.1 32).toInt ≤ 1 := aw_bd_f hs (hI112).1 (by decide) rfl
                    exact ⟨(hI137).1, fr138, Or.inr ⟨_, rfl, rfl, (aw_G_sm hI137.2 hG105), (show _ + 1 ≤ ((S105.1 30)).toInt by omega), ⟨fun y z => (by have y : ((S105.1 32)).toInt ≠ 0 := y; have z : ((S105.1 38)).toInt = 1 := z; show 0 ≤ ((S105.1 39)).toInt ∧ ((S105.1 39)).toInt ≤ 7; have u := tv105; have u := (show ((S105.1 32)).toInt ≠ 0 → ((S105.1 38)).toInt = 1 → 0 ≤ ((S105.1 39)).toInt ∧ ((S105.1 39)).toInt ≤ 7 from u) (by omega) (by omega); omega), fun z => (by have z : ((S105.1 38)).toInt = 2 := z; omega)⟩⟩⟩
                  · have q136 : (S105.1 39).toInt < (0 : Int) := aw_t_ge (a := (S105.1 39).toInt) (b := (0 : Int)) rfl rfl q136
                    refine aw_n aj_d255 rfl rfl ?_
                    refine aw_n aj_d255 rfl rfl ?_
                    refine aw_p hU.1 aj_d255 rfl rfl (by decide) rfl ?_
                    have hI143 := aw_I_f (aw_UV hU aw_Gs_sm) (k := 54) (v := (Int32.ofInt 1)) hI117 (by decide) (by decide) rfl (aw_bp (a := (1 : Int)) rfl (by omega) (by omega))
                    have fr144 := aw_fr_f (k := 54) (v := (Int32.ofInt 1)) (by decide) fr118
                    refine aw_n aj_d255 rfl rfl ?_
                    refine aw_e aj_d255 rfl rfl ?_
                    have b145 : 0 ≤ (S105.1 30).toInt ∧ (S105.1 30).toInt ≤ 1001 := aw_bd_f hs (hI112).1 (by decide) rfl
                    have b146 : 0 ≤ (S.1 32).toInt ∧ (S.1 32).toInt ≤ 1 := aw_bd_f hs (hI53).1 (by decide) rfl
                    have c147 : (S105.1 32).toInt = (S.1 32).toInt := (congrArg Int32.toInt (fc105.1 32 (by decide)).1).trans rfl
                    have b148 : 0 ≤ (S105.1 32).toInt ∧ (S105.1 32).toInt ≤ 1 := aw_bd_f hs (hI112).1 (by decide) rfl
                    exact ⟨(hI143).1, fr144, Or.inr ⟨_, rfl, rfl, (aw_G_sm hI143.2 hG105), (show _ + 1 ≤ ((S105.1 30)).toInt by omega), ⟨fun y z => (by have y : ((S105.1 32)).toInt ≠ 0 := y; have z : ((S105.1 38)).toInt = 1 := z; show 0 ≤ ((S105.1 39)).toInt ∧ ((S105.1 39)).toInt ≤ 7; have u := tv105; have u := (show ((S105.1 32)).toInt ≠ 0 → ((S105.1 38)).toInt = 1 → 0 ≤ ((S105.1 39)).toInt ∧ ((S105.1 39)).toInt ≤ 7 from u) (by omega) (by omega); omega), fun z => (by have z : ((S105.1 38)).toInt = 2 := z; omega)⟩⟩⟩
            · have q113 : (1 : Int) = (0 : Int) := aw_t_ne (a := (1 : Int)) (b := (0 : Int)) hb105 rfl q113
              exfalso
              omega
        · have q104 : (1 : Int) = (0 : Int) := aw_t_ne (a := (1 : Int)) (b := (0 : Int)) hb102 rfl q104
          exfalso
          omega
      · skip
        have pb102 : ¬ (((S.1 26)).toInt = 3 ∧ ((S.1 29)).toInt = (45 : Int)) := pb102
        show aw_W _ _ _ _ 70 lv52 [.int b102] _ _
        refine aw_z (tgt := 92) aj_d255 rfl rfl (fun q149 => ?_) (fun q149 => ?_)
        · have q149 : (0 : Int) ≠ (0 : Int) := aw_t_ne (a := (0 : Int)) (b := (0 : Int)) hb102 rfl q149
          exfalso
          omega
        · have q149 : (0 : Int) = (0 : Int) := aw_t_ne (a := (0 : Int)) (b := (0 : Int)) hb102 rfl q149
          refine aw_l2 aj_d255 rfl rfl hlv52_0 ?_
          refine aw_n aj_d255 rfl rfl ?_
          refine aw_k hU.1 aj_d255 rfl rfl [_] rfl rfl rfl (Nat.le_of_ble_eq_true rfl) (ar_isSign hU (by omega) (b := (63 : Int)) rfl) ?_
          rintro _ S151 ⟨eS151, b150, rfl, kb150⟩
          rw [eS151]
          rcases kb150 with ⟨hb150, pb150, qb150⟩ | ⟨hb150, pb150⟩
          · skip
            have pb150 : ((S.1 26)).toInt = 3 := pb150
            have qb150 : ((S.1 29)).toInt = (63 : Int) := qb150
            show aw_W _ _ _ _ 79 lv52 [.int b150] _ _
            refine aw_z (tgt := 92) aj_d255 rfl rfl (fun q152 => ?_) (fun q152 => ?_)
            · have q152 : (1 : Int) ≠ (0 : Int) := aw_t_ne (a := (1 : Int)) (b := (0 : Int)) hb150 rfl q152
              refine aw_l2 aj_d255 rfl rfl hlv52_0 ?_
              have b154 : 0 ≤ (S.1 30).toInt ∧ (S.1 30).toInt ≤ 1001 := aw_bd_f hs (hI53).1 (by decide) rfl
              refine aw_k hU.1 aj_d255 rfl rfl [] rfl rfl rfl (Nat.le_of_ble_eq_true rfl) (ar_term hU (hI53).1 hG (by omega)) ?_
              rintro _ S153 ⟨hT153, fc153, ⟨b153, rfl, hb153, hG153, ck153⟩ | ⟨b153, rfl, hb153, hG153, ck153, tv153⟩⟩
              · skip
                have ck153 : ((S.1 30)).toInt ≤ (S153.1 30).toInt := ck153
                have fr155 := aw_fr_tr fr54 (aw_fr_sub (F := [24, 25, 26, 27, 28, 29, 30, 31, 33, 34, 35, 36, 38, 39]) (A := []) (by decide) (by decide) fc153)
                have hI156 : aw_I s h (aw_sm S153) S153 := ⟨hT153, aw_sm_rf⟩
                show aw_W _ _ _ _ 96 lv52 [.int b153] _ _
                refine aw_z (tgt := 101) aj_d255 rfl rfl (fun q157 => ?_) (fun q157 => ?_)
                · have q157 : (0 : Int) ≠ (0 : Int) := aw_t_ne (a := (0 : Int)) (b := (0 : Int)) hb153 rfl q157
                  exfalso
                  omega
                · have q157 : (0 : Int) = (0 : Int) := aw_t_ne (a := (0 : Int)) (b := (0 : Int)) hb153 rfl q157
                  refine aw_n aj_d255 rfl rfl ?_
                  refine aw_e aj_d255 rfl rfl ?_
                  have b158 : 0 ≤ (S153.1 30).toInt ∧ (S153.1 30).toInt ≤ 1001 := aw_bd_f hs (hI156).1 (by decide) rfl
                  exact ⟨(hI156).1, fr155, Or.inl ⟨_, rfl, rfl, hG153, (show _ ≤ ((S153.1 30)).toInt by omega)⟩⟩
              · skip
                have ck153 : ((S.1 30)).toInt + 1 ≤ (S153.1 30).toInt := ck153
                have fr159 := aw_fr_tr fr54 (aw_fr_sub (F := [24, 25, 26, 27, 28, 29, 30, 31, 33, 34, 35, 36, 38, 39]) (A := []) (by decide) (by decide) fc153)
                have hI160 : aw_I s h (aw_sm S153) S153 := ⟨hT153, aw_sm_rf⟩
                show aw_W _ _ _ _ 96 lv52 [.int b153] _ _
                refine aw_z (tgt := 101) aj_d255 rfl rfl (fun q161 => ?_) (fun q161 => ?_)
                · have q161 : (1 : Int) ≠ (0 : Int) := aw_t_ne (a := (1 : Int)) (b := (0 : Int)) hb153 rfl q161
                  refine aw_l2 aj_d255 rfl rfl hlv52_0 ?_
                  refine aw_l2 aj_d255 rfl rfl hlv52_0 ?_
                  have b162 : 0 ≤ (S153.1 38).toInt ∧ (S153.1 38).toInt ≤ 1 := aw_bd_f hs (hI160).1 (by decide) rfl
                  refine aw_g hU.1 aj_d255 rfl rfl (by decide) (v := .int (S153.1 38)) rfl ?_
                  refine aw_p hU.1 aj_d255 rfl rfl (by decide) rfl ?_
                  have hI163 := aw_I_f (aw_UV hU aw_Gs_sm) (k := 52) (v := (S153.1 38)) hI160 (by decide) (by decide) rfl (aw_bp (a := (S153.1 38).toInt) rfl (by omega) (by omega))
                  have fr164 := aw_fr_f (k := 52) (v := (S153.1 38)) (by decide) fr159
                  refine aw_l2 aj_d255 rfl rfl hlv52_0 ?_
                  refine aw_l2 aj_d255 rfl rfl hlv52_0 ?_
                  refine aw_g hU.1 aj_d255 rfl rfl (by decide) (v := .int (S153.1 39)) rfl ?_
                  refine aw_p hU.1 aj_d255 rfl rfl (by decide) rfl ?_
                  have hI165 := aw_I_f (aw_UV hU aw_Gs_sm) (k := 53) (v := (S153.1 39)) hI163 (by decide) (by decide) rfl (aw_full _)
                  have fr166 := aw_fr_f (k := 53) (v := (S153.1 39)) (by decide) fr164
                  refine aw_l2 aj_d255 rfl rfl hlv52_0 ?_
                  refine aw_l2 aj_d255 rfl rfl hlv52_0 ?_
                  have b167 : 0 ≤ (S.1 54).toInt ∧ (S.1 54).toInt ≤ 1 := aw_bd_f hs (hI53).1 (by decide) rfl
                  have c168 : (S153.1 54).toInt = (S.1 54).toInt := (congrArg Int32.toInt (fc153.1 54 (by decide)).1).trans rfl
                  have b169 : 0 ≤ (S153.1 54).toInt ∧ (S153.1 54).toInt ≤ 1 := aw_bd_f hs (hI160).1 (by decide) rfl
                  refine aw_g hU.1 aj_d255 rfl rfl (by decide) (v := .int (S153.1 54)) rfl ?_
                  refine aw_z (tgt := 140) aj_d255 rfl rfl (fun q170 => ?_) (fun q170 => ?_)
                  · have q170 : (S.1 54).toInt ≠ (0 : Int) := aw_t_ne (a := (S.1 54).toInt) (b := (0 : Int)) c168 rfl q170
                    refine aw_n aj_d255 rfl rfl ?_
                    refine aw_n aj_d255 rfl rfl ?_
                    refine aw_p hU.1 aj_d255 rfl rfl (by decide) rfl ?_
                    have hI171 := aw_I_f (aw_UV hU aw_Gs_sm) (k := 54) (v := (Int32.ofInt 1)) hI165 (by decide) (by decide) rfl (aw_bp (a := (1 : Int)) rfl (by omega) (by omega))
                    have fr172 := aw_fr_f (k := 54) (v := (Int32.ofInt 1)) (by decide) fr166
                    refine aw_n aj_d255 rfl rfl ?_
                    refine aw_e aj_d255 rfl rfl ?_
                    have b173 : 0 ≤ (S153.1 30).toInt ∧ (S153.1 30).toInt ≤ 1001 := aw_bd_f hs (hI160).1 (by decide) rfl
                    have b174 : 0 ≤ (S.1 32).toInt ∧ (S.1 32).toInt ≤ 1 := aw_bd_f hs (hI53).1 (by decide) rfl
                    have c175 : (S153.1 32).toInt = (S.1 32).toInt := (congrArg Int32.toInt (fc153.1 32 (by decide)).1).trans rfl
                    have b176 : 0 ≤ (S153.1 32).toInt ∧ (S153.1 32).toInt ≤ 1 := aw_bd_f hs (hI160).1 (by decide) rfl
                    exact ⟨(hI171).1, fr172, Or.inr ⟨_, rfl, rfl, (aw_G_sm hI171.2 hG153), (show _ + 1 ≤ ((S153.1 30)).toInt by omega), ⟨fun y z => (by have y : ((S153.1 32)).toInt ≠ 0 := y; have z : ((S153.1 38)).toInt = 1 := z; show 0 ≤ ((S153.1 39)).toInt ∧ ((S153.1 39)).toInt ≤ 7; have u := tv153; have u := (show ((S153.1 32)).toInt ≠ 0 → ((S153.1 38)).toInt = 1 → 0 ≤ ((S153.1 39)).toInt ∧ ((S153.1 39)).toInt ≤ 7 from u) (by omega) (by omega); omega), fun z => (by have z : ((S153.1 38)).toInt = 2 := z; omega)⟩⟩⟩
                  · have q170 : (S.1 54).toInt = (0 : Int) := aw_t_ne (a := (S.1 54).toInt) (b := (0 : Int)) c168 rfl q170
                    refine aw_l2 aj_d255 rfl rfl hlv52_0 ?_
                    refine aw_g hU.1 aj_d255 rfl rfl (by decide) (v := .int (S153.1 38)) rfl ?_
                    refine aw_n aj_d255 rfl rfl ?_
                    refine aw_c (tgt := 144) aj_d255 rfl rfl (fun q177 => ?_) (fun q177 => ?_)
                    · have q177 : (S153.1 38).toInt ≠ (1 : Int) := aw_t_ne (a := (S153.1 38).toInt) (b := (1 : Int)) rfl rfl q177
                      refine aw_n aj_d255 rfl rfl ?_
                      refine aw_p hU.1 aj_d255 rfl rfl (by decide) rfl ?_
                      have hI178 := aw_I_f (aw_UV hU aw_Gs_sm) (k := 54) (v := (Int32.ofInt 0)) hI165 (by decide) (by decide) rfl (aw_bp (a := (0 : Int)) rfl (by omega) (by omega))
                      have fr179 := aw_fr_f (k := 54) (v := (Int32.ofInt 0)) (by decide) fr166
                      refine aw_n aj_d255 rfl rfl ?_
                      refine aw_e aj_d255 rfl rfl ?_
                      have b180 : 0 ≤ (S153.1 30).toInt ∧ (S153.1 30).toInt ≤ 1001 := aw_bd_f hs (hI160).1 (by decide) rfl
                      have b181 : 0 ≤ (S.1 32).toInt ∧ (S.1 32).toInt ≤ 1 := aw_bd_f hs (hI53).1 (by decide) rfl
                      have c182 : (S153.1 32).toInt = (S.1 32).toInt := (congrArg Int32.toInt (fc153.1 32 (by decide)).1).trans rfl
                      have b183 : 0 ≤ (S153.1 32).toInt ∧ (S153.1 32).toInt ≤ 1 := aw_bd_f hs (hI160).1 (by decide) rfl
                      exact ⟨(hI178).1, fr179, Or.inr ⟨_, rfl, rfl, (aw_G_sm hI178.2 hG153), (show _ + 1 ≤ ((S153.1 30)).toInt by omega), ⟨fun y z => (by have y : ((S153.1 32)).toInt ≠ 0 := y; have z : ((S153.1 38)).toInt = 1 := z; show 0 ≤ ((S153.1 39)).toInt ∧ ((S153.1 39)).toInt ≤ 7; have u := tv153; have u := (show ((S153.1 32)).toInt ≠ 0 → ((S153.1 38)).toInt = 1 → 0 ≤ ((S153.1 39)).toInt ∧ ((S153.1 39)).toInt ≤ 7 from u) (by omega) (by omega); omega), fun z => (by have z : ((S153.1 38)).toInt = 2 := z; omega)⟩⟩⟩
                    · have q177 : (S153.1 38).toInt = (1 : Int) := aw_t_ne (a := (S153.1 38).toInt) (b := (1 : Int)) rfl rfl q177
                      refine aw_l2 aj_d255 rfl rfl hlv52_0 ?_
                      refine aw_g hU.1 aj_d255 rfl rfl (by decide) (v := .int (S153.1 39)) rfl ?_
                      refine aw_z (tgt := 144) aj_d255 rfl rfl (fun q184 => ?_) (fun q184 => ?_)
                      · have q184 : (S153.1 39).toInt ≥ (0 : Int) := aw_t_ge (a := (S153.1 39).toInt) (b := (0 : Int)) rfl rfl q184
                        refine aw_n aj_d255 rfl rfl ?_
                        refine aw_p hU.1 aj_d255 rfl rfl (by decide) rfl ?_
                        have hI185 := aw_I_f (aw_UV hU aw_Gs_sm) (k := 54) (v := (Int32.ofInt 0)) hI165 (by decide) (by decide) rfl (aw_bp (a := (0 : Int)) rfl (by omega) (by omega))
                        have fr186 := aw_fr_f (k := 54) (v := (Int32.ofInt 0)) (by decide) fr166
                        refine aw_n aj_d255 rfl rfl ?_
                        refine aw_e aj_d255 rfl rfl ?_
                        have b187 : 0 ≤ (S153.1 30).toInt ∧ (S153.1 30).toInt ≤ 1001 := aw_bd_f hs (hI160).1 (by decide) rfl
                        have b188 : 0 ≤ (S.1 32).toInt ∧ (S.1 32).toInt ≤ 1 := aw_bd_f hs (hI53).1 (by decide) rfl
                        have c189 : (S153.1 32).toInt = (S.1 32).toInt := (congrArg Int32.toInt (fc153.1 32 (by decide)).1).trans rfl
                        have b190 : 0 ≤ (S153.1 32).toInt ∧ (S153.1 32).toInt ≤ 1 := aw_bd_f hs (hI160).1 (by decide) rfl
                        exact ⟨(hI185).1, fr186, Or.inr ⟨_, rfl, rfl, (aw_G_sm hI185.2 hG153), (show _ + 1 ≤ ((S153.1 30)).toInt by omega), ⟨fun y z => (by have y : ((S153.1 32)).toInt ≠ 0 := y; have z : ((S153.1 38)).toInt = 1 := z; show 0 ≤ ((S153.1 39)).toInt ∧ ((S153.1 39)).toInt ≤ 7; have u := tv153; have u := (show ((S153.1 32)).toInt ≠ 0 → ((S153.1 38)).toInt = 1 → 0 ≤ ((S153.1 39)).toInt ∧ ((S153.1 39)).toInt ≤ 7 from u) (by omega) (by omega); omega), fun z => (by have z : ((S153.1 38)).toInt = 2 := z; omega)⟩⟩⟩
                      · have q184 : (S153.1 39).toInt < (0 : Int) := aw_t_ge (a := (S153.1 39).toInt) (b := (0 : Int)) rfl rfl q184
                        refine aw_n aj_d255 rfl rfl ?_
                        refine aw_n aj_d255 rfl rfl ?_
                        refine aw_p hU.1 aj_d255 rfl rfl (by decide) rfl ?_
                        have hI191 := aw_I_f (aw_UV hU aw_Gs_sm) (k := 54) (v := (Int32.ofInt 1)) hI165 (by decide) (by decide) rfl (aw_bp (a := (1 : Int)) rfl (by omega) (by omega))
                        have fr192 := aw_fr_f (k := 54) (v := (Int32.ofInt 1)) (by decide) fr166
                        refine aw_n aj_d255 rfl rfl ?_
                        refine aw_e aj_d255 rfl rfl ?_
                        have b193 : 0 ≤ (S153.1 30).toInt ∧ (S153.1 30).toInt ≤ 1001 := aw_bd_f hs (hI160).1 (by decide) rfl
                        have b194 : 0 ≤ (S.1 32).toInt ∧ (S.1 32).toInt ≤ 1 := aw_bd_f hs (hI53).1 (by decide) rfl
                        have c195 : (S153.1 32).toInt = (S.1 32).toInt := (congrArg Int32.toInt (fc153.1 32 (by decide)).1).trans rfl
                        have b196 : 0 ≤ (S153.1 32).toInt ∧ (S153.1 32).toInt ≤ 1 := aw_bd_f hs (hI160).1 (by decide) rfl
                        exact ⟨(hI191).1, fr192, Or.inr ⟨_, rfl, rfl, (aw_G_sm hI191.2 hG153), (show _ + 1 ≤ ((S153.1 30)).toInt by omega), ⟨fun y z => (by have y : ((S153.1 32)).toInt ≠ 0 := y; have z : ((S153.1 38)).toInt = 1 := z; show 0 ≤ ((S153.1 39)).toInt ∧ ((S153.1 39)).toInt ≤ 7; have u := tv153; have u := (show ((S153.1 32)).toInt ≠ 0 → ((S153.1 38)).toInt = 1 → 0 ≤ ((S153.1 39)).toInt ∧ ((S153.1 39)).toInt ≤ 7 from u) (by omega) (by omega); omega), fun z => (by have z : ((S153.1 38)).toInt = 2 := z; omega)⟩⟩⟩
                · have q161 : (1 : Int) = (0 : Int) := aw_t_ne (a := (1 : Int)) (b := (0 : Int)) hb153 rfl q161
                  exfalso
                  omega
            · have q152 : (1 : Int) = (0 : Int) := aw_t_ne (a := (1 : Int)) (b := (0 : Int)) hb150 rfl q152
              exfalso
              omega
          · skip
            have pb150 : ¬ (((S.1 26)).toInt = 3 ∧ ((S.1 29)).toInt = (63 : Int)) := pb150
            show aw_W _ _ _ _ 79 lv52 [.int b150] _ _
            refine aw_z (tgt := 92) aj_d255 rfl rfl (fun q197 => ?_) (fun q197 => ?_)
            · have q197 : (0 : Int) ≠ (0 : Int) := aw_t_ne (a := (0 : Int)) (b := (0 : Int)) hb150 rfl q197
              exfalso
              omega
            · have q197 : (0 : Int) = (0 : Int) := aw_t_ne (a := (0 : Int)) (b := (0 : Int)) hb150 rfl q197
              refine aw_l2 aj_d255 rfl rfl hlv52_0 ?_
              refine aw_n aj_d255 rfl rfl ?_
              refine aw_l2 aj_d255 rfl rfl hlv52_0 ?_
              have b198 : 0 ≤ (S.1 27).toInt ∧ (S.1 27).toInt ≤ 4000 := aw_bd_f hs (hI53).1 (by decide) rfl
              refine aw_g hU.1 aj_d255 rfl rfl (by decide) (v := .int (S.1 27)) rfl ?_
              refine aw_k hU.1 aj_d255 rfl rfl [_, _] rfl rfl rfl (Nat.le_of_ble_eq_true rfl) (ar_stop hU (hI53).1 (by omega) (a := (1 : Int)) rfl) ?_
              rintro _ S199 ⟨hT199, fc199, rfl, hz199⟩
              have hG199 := aw_G_stop hG fc199 (by omega)
              have fr200 := aw_fr_tr fr54 (aw_fr_sub (F := [24, 25, 31]) (A := []) (by decide) (by decide) fc199)
              have hI201 : aw_I s h (aw_sm S199) S199 := ⟨hT199, aw_sm_rf⟩
              show aw_W _ _ _ _ 91 lv52 [.int (Int32.ofInt 0)] _ _
              refine aw_e aj_d255 rfl rfl ?_
              have b202 : 0 ≤ (S.1 30).toInt ∧ (S.1 30).toInt ≤ 1001 := aw_bd_f hs (hI53).1 (by decide) rfl
              have c203 : (S199.1 30).toInt = (S.1 30).toInt := (congrArg Int32.toInt (fc199.1 30 (by decide)).1).trans rfl
              have b204 : 0 ≤ (S199.1 30).toInt ∧ (S199.1 30).toInt ≤ 1001 := aw_bd_f hs (hI201).1 (by decide) rfl
              exact ⟨(hI201).1, fr200, Or.inl ⟨_, rfl, rfl, hG199, (show _ ≤ ((S199.1 30)).toInt by omega)⟩⟩
  · have q56 : (S.1 26).toInt = (1 : Int) := aw_t_ne (a := (S.1 26).toInt) (b := (1 : Int)) rfl rfl q56
    refine aw_l2 aj_d255 rfl rfl hlv52_0 ?_
    have b206 : 0 ≤ (S.1 30).toInt ∧ (S.1 30).toInt ≤ 1001 := aw_bd_f hs (hI53).1 (by decide) rfl
    refine aw_k hU.1 aj_d255 rfl rfl [] rfl rfl rfl (Nat.le_of_ble_eq_true rfl) (ar_named hU (hI53).1 hG (by omega)) ?_
    rintro _ S205 ⟨hT205, fc205, ⟨b205, rfl, hb205, hG205, ck205, hz205⟩ | ⟨b205, rfl, hb205, hG205, ck205, cj205, k1205, nm205⟩⟩
    · skip
      have ck205 : ((S.1 30)).toInt ≤ (S205.1 30).toInt := ck205
      have fr207 := aw_fr_tr fr54 (aw_fr_sub (F := [24, 25, 26, 27, 28, 29, 30, 31, 33, 34]) (A := []) (by decide) (by decide) fc205)
      have hI208 : aw_I s h (aw_sm S205) S205 := ⟨hT205, aw_sm_rf⟩
      show aw_W _ _ _ _ 12 lv52 [.int b205] _ _
      refine aw_z (tgt := 17) aj_d255 rfl rfl (fun q209 => ?_) (fun q209 => ?_)
      · have q209 : (0 : Int) ≠ (0 : Int) := aw_t_ne (a := (0 : Int)) (b := (0 : Int)) hb205 rfl q209
        exfalso
        omega
      · have q209 : (0 : Int) = (0 : Int) := aw_t_ne (a := (0 : Int)) (b := (0 : Int)) hb205 rfl q209
        refine aw_n aj_d255 rfl rfl ?_
        refine aw_e aj_d255 rfl rfl ?_
        have b210 : 0 ≤ (S205.1 30).toInt ∧ (S205.1 30).toInt ≤ 1001 := aw_bd_f hs (hI208).1 (by decide) rfl
        exact ⟨(hI208).1, fr207, Or.inl ⟨_, rfl, rfl, hG205, (show _ ≤ ((S205.1 30)).toInt by omega)⟩⟩
    · skip
      have cj205 : (S205.1 30).toInt = ((S.1 30)).toInt + 1 := cj205
      have fr211 := aw_fr_tr fr54 (aw_fr_sub (F := [24, 25, 26, 27, 28, 29, 30, 31, 33, 34]) (A := []) (by decide) (by decide) fc205)
      have hI212 : aw_I s h (aw_sm S205) S205 := ⟨hT205, aw_sm_rf⟩
      show aw_W _ _ _ _ 12 lv52 [.int b205] _ _
      refine aw_z (tgt := 17) aj_d255 rfl rfl (fun q213 => ?_) (fun q213 => ?_)
      · have q213 : (1 : Int) ≠ (0 : Int) := aw_t_ne (a := (1 : Int)) (b := (0 : Int)) hb205 rfl q213
        refine aw_l2 aj_d255 rfl rfl hlv52_0 ?_
        refine aw_n aj_d255 rfl rfl ?_
        refine aw_p hU.1 aj_d255 rfl rfl (by decide) rfl ?_
        have hI214 := aw_I_f (aw_UV hU aw_Gs_sm) (k := 52) (v := (Int32.ofInt 2)) hI212 (by decide) (by decide) rfl (aw_bp (a := (2 : Int)) rfl (by omega) (by omega))
        have fr215 := aw_fr_f (k := 52) (v := (Int32.ofInt 2)) (by decide) fr211
        refine aw_l2 aj_d255 rfl rfl hlv52_0 ?_
        refine aw_l2 aj_d255 rfl rfl hlv52_0 ?_
        refine aw_l0 aj_d255 rfl rfl hlv52_1 ?_
        have b216 : 0 ≤ (S205.1 30).toInt ∧ (S205.1 30).toInt ≤ 1001 := aw_bd_f hs (hI212).1 (by decide) rfl
        refine aw_k hU.1 aj_d255 rfl rfl [_] rfl rfl rfl (Nat.le_of_ble_eq_true rfl) (aw_toK hU aw_Gs_G (con := ac_c256) (by omega) (ar_256 hU.2.1 (aw_SPc hU.2.2 aw_Gs_G) aw_kpc (arc_218 hU)) ⟨(hI214).1, (aw_G_sm hI214.2 hG205)⟩ ⟨(aw_g117 hU.2.2), (cw_gw (a := x.toInt) rfl (by omega) (by omega)), trivial⟩ (fun e he => nomatch he)) ?_
        rintro r217 S217 ⟨hr217, hJ217, fc217, po217, -⟩
        have hT217 := hJ217.1
        replace fc217 := aw_fr_sub (F' := [24, 25]) (A' := []) (by decide) (by decide) fc217
        have fr218 := aw_fr_tr fr215 (aw_fr_sub (F := [24, 25]) (A := []) (by decide) (by decide) fc217)
        have hI219 : aw_I s h (aw_sm S217) S217 := ⟨hT217, aw_sm_rf⟩
        obtain ⟨b217, rfl, bb217⟩ := cw_rI hr217
        show aw_W _ _ _ _ 28 lv52 [.int b217, .ref 117] _ _
        refine aw_p hU.1 aj_d255 rfl rfl (by decide) rfl ?_
        have hI220 := aw_I_f (aw_UV hU aw_Gs_sm) (k := 53) (v := b217) hI219 (by decide) (by decide) rfl (aw_full _)
        have fr221 := aw_fr_f (k := 53) (v := b217) (by decide) fr218
        refine aw_l2 aj_d255 rfl rfl hlv52_0 ?_
        refine aw_l2 aj_d255 rfl rfl hlv52_0 ?_
        have b222 : 0 ≤ (S.1 54).toInt ∧ (S.1 54).toInt ≤ 1 := aw_bd_f hs (hI53).1 (by decide) rfl
        have c223 : (S205.1 54).toInt = (S.1 54).toInt := (congrArg Int32.toInt (fc205.1 54 (by decide)).1).trans rfl
        have b224 : 0 ≤ (S205.1 54).toInt ∧ (S205.1 54).toInt ≤ 1 := aw_bd_f hs (hI212).1 (by decide) rfl
        have c225 : (S217.1 54).toInt = (S.1 54).toInt := (congrArg Int32.toInt (fc217.1 54 (by decide)).1).trans c223
        have b226 : 0 ≤ (S217.1 54).toInt ∧ (S217.1 54).toInt ≤ 1 := aw_bd_f hs (hI219).1 (by decide) rfl
        refine aw_g hU.1 aj_d255 rfl rfl (by decide) (v := .int (S217.1 54)) rfl ?_
        refine aw_z (tgt := 46) aj_d255 rfl rfl (fun q227 => ?_) (fun q227 => ?_)
        · have q227 : (S.1 54).toInt ≠ (0 : Int) := aw_t_ne (a := (S.1 54).toInt) (b := (0 : Int)) c225 rfl q227
          refine aw_n aj_d255 rfl rfl ?_
          refine aw_n aj_d255 rfl rfl ?_
          refine aw_p hU.1 aj_d255 rfl rfl (by decide) rfl ?_
          have hI228 := aw_I_f (aw_UV hU aw_Gs_sm) (k := 54) (v := (Int32.ofInt 1)) hI220 (by decide) (by decide) rfl (aw_bp (a := (1 : Int)) rfl (by omega) (by omega))
          have fr229 := aw_fr_f (k := 54) (v := (Int32.ofInt 1)) (by decide) fr221
          refine aw_n aj_d255 rfl rfl ?_
          refine aw_e aj_d255 rfl rfl ?_
          have c230 : (S217.1 30).toInt = (S205.1 30).toInt := (congrArg Int32.toInt (fc217.1 30 (by decide)).1).trans rfl
          have b231 : 0 ≤ (S217.1 30).toInt ∧ (S217.1 30).toInt ≤ 1001 := aw_bd_f hs (hI219).1 (by decide) rfl
          have b232 : 0 ≤ (S.1 32).toInt ∧ (S.1 32).toInt ≤ 1 := aw_bd_f hs (hI53).1 (by decide) rfl
          have c233 : (S205.1 32).toInt = (S.1 32).toInt := (congrArg Int32.toInt (fc205.1 32 (by decide)).1).trans rfl
          have b234 : 0 ≤ (S205.1 32).toInt ∧ (S205.1 32).toInt ≤ 1 := aw_bd_f hs (hI212).1 (by decide) rfl
          have c235 : (S217.1 32).toInt = (S.1 32).toInt := (congrArg Int32.toInt (fc217.1 32 (by decide)).1).trans c233
          have b236 : 0 ≤ (S217.1 32).toInt ∧ (S217.1 32).toInt ≤ 1 := aw_bd_f hs (hI219).1 (by decide) rfl
          have c237 : (S217.1 52).toInt = (2 : Int) := (congrArg Int32.toInt (fc217.1 52 (by decide)).1).trans rfl
          have b238 : 0 ≤ (S217.1 52).toInt ∧ (S217.1 52).toInt ≤ 2 := aw_bd_f hs (hI219).1 (by decide) rfl
          exact ⟨(hI228).1, fr229, Or.inr ⟨_, rfl, rfl, (aw_G_sm hI228.2 hJ217.2), (show _ + 1 ≤ ((S217.1 30)).toInt by omega), ⟨fun y z => (by have z : ((S217.1 52)).toInt = 1 := z; omega), fun z => (by show -1 ≤ (b217).toInt ∧ (b217).toInt ≤ 5; omega)⟩⟩⟩
        · have q227 : (S.1 54).toInt = (0 : Int) := aw_t_ne (a := (S.1 54).toInt) (b := (0 : Int)) c225 rfl q227
          refine aw_l2 aj_d255 rfl rfl hlv52_0 ?_
          refine aw_g hU.1 aj_d255 rfl rfl (by decide) (v := .int b217) rfl ?_
          refine aw_z (tgt := 50) aj_d255 rfl rfl (fun q239 => ?_) (fun q239 => ?_)
          · have q239 : b217.toInt ≥ (0 : Int) := aw_t_ge (a := b217.toInt) (b := (0 : Int)) rfl rfl q239
            refine aw_n aj_d255 rfl rfl ?_
            refine aw_p hU.1 aj_d255 rfl rfl (by decide) rfl ?_
            have hI240 := aw_I_f (aw_UV hU aw_Gs_sm) (k := 54) (v := (Int32.ofInt 0)) hI220 (by decide) (by decide) rfl (aw_bp (a := (0 : Int)) rfl (by omega) (by omega))
            have fr241 := aw_fr_f (k := 54) (v := (Int32.ofInt 0)) (by decide) fr221
            refine aw_n aj_d255 rfl rfl ?_
            refine aw_e aj_d255 rfl rfl ?_
            have c242 : (S217.1 30).toInt = (S205.1 30).toInt := (congrArg Int32.toInt (fc217.1 30 (by decide)).1).trans rfl
            have b243 : 0 ≤ (S217.1 30).toInt ∧ (S217.1 30).toInt ≤ 1001 := aw_bd_f hs (hI219).1 (by decide) rfl
            have b244 : 0 ≤ (S.1 32).toInt ∧ (S.1 32).toInt ≤ 1 := aw_bd_f hs (hI53).1 (by decide) rfl
            have c245 : (S205.1 32).toInt = (S.1 32).toInt := (congrArg Int32.toInt (fc205.1 32 (by decide)).1).trans rfl
            have b246 : 0 ≤ (S205.1 32).toInt ∧ (S205.1 32).toInt ≤ 1 := aw_bd_f hs (hI212).1 (by decide) rfl
            have c247 : (S217.1 32).toInt = (S.1 32).toInt := (congrArg Int32.toInt (fc217.1 32 (by decide)).1).trans c245
            have b248 : 0 ≤ (S217.1 32).toInt ∧ (S217.1 32).toInt ≤ 1 := aw_bd_f hs (hI219).1 (by decide) rfl
            have c249 : (S217.1 52).toInt = (2 : Int) := (congrArg Int32.toInt (fc217.1 52 (by decide)).1).trans rfl
            have b250 : 0 ≤ (S217.1 52).toInt ∧ (S217.1 52).toInt ≤ 2 := aw_bd_f hs (hI219).1 (by decide) rfl
            exact ⟨(hI240).1, fr241, Or.inr ⟨_, rfl, rfl, (aw_G_sm hI240.2 hJ217.2), (show _ + 1 ≤ ((S217.1 30)).toInt by omega), ⟨fun y z => (by have z : ((S217.1 52)).toInt = 1 := z; omega), fun z => (by show -1 ≤ (b217).toInt ∧ (b217).toInt ≤ 5; omega)⟩⟩⟩
          · have q239 : b217.toInt < (0 : Int) := aw_t_ge (a := b217.toInt) (b := (0 : Int)) rfl rfl q239
            refine aw_n aj_d255 rfl rfl ?_
            refine aw_n aj_d255 rfl rfl ?_
            refine aw_p hU.1 aj_d255 rfl rfl (by decide) rfl ?_
            have hI251 := aw_I_f (aw_UV hU aw_Gs_sm) (k := 54) (v := (Int32.ofInt 1)) hI220 (by decide) (by decide) rfl (aw_bp (a := (1 : Int)) rfl (by omega) (by omega))
            have fr252 := aw_fr_f (k := 54) (v := (Int32.ofInt 1)) (by decide) fr221
            refine aw_n aj_d255 rfl rfl ?_
            refine aw_e aj_d255 rfl rfl ?_
            have c253 : (S217.1 30).toInt = (S205.1 30).toInt := (congrArg Int32.toInt (fc217.1 30 (by decide)).1).trans rfl
            have b254 : 0 ≤ (S217.1 30).toInt ∧ (S217.1 30).toInt ≤ 1001 := aw_bd_f hs (hI219).1 (by decide) rfl
            have b255 : 0 ≤ (S.1 32).toInt ∧ (S.1 32).toInt ≤ 1 := aw_bd_f hs (hI53).1 (by decide) rfl
            have c256 : (S205.1 32).toInt = (S.1 32).toInt := (congrArg Int32.toInt (fc205.1 32 (by decide)).1).trans rfl
            have b257 : 0 ≤ (S205.1 32).toInt ∧ (S205.1 32).toInt ≤ 1 := aw_bd_f hs (hI212).1 (by decide) rfl
            have c258 : (S217.1 32).toInt = (S.1 32).toInt := (congrArg Int32.toInt (fc217.1 32 (by decide)).1).trans c256
            have b259 : 0 ≤ (S217.1 32).toInt ∧ (S217.1 32).toInt ≤ 1 := aw_bd_f hs (hI219).1 (by decide) rfl
            have c260 : (S217.1 52).toInt = (2 : Int) := (congrArg Int32.toInt (fc217.1 52 (by decide)).1).trans rfl
            have b261 : 0 ≤ (S217.1 52).toInt ∧ (S217.1 52).toInt ≤ 2 := aw_bd_f hs (hI219).1 (by decide) rfl
            exact ⟨(hI251).1, fr252, Or.inr ⟨_, rfl, rfl, (aw_G_sm hI251.2 hJ217.2), (show _ + 1 ≤ ((S217.1 30)).toInt by omega), ⟨fun y z => (by have z : ((S217.1 52)).toInt = 1 := z; omega), fun z => (by show -1 ≤ (b217).toInt ∧ (b217).toInt ≤ 5; omega)⟩⟩⟩
      · have q213 : (1 : Int) = (0 : Int) := aw_t_ne (a := (1 : Int)) (b := (0 : Int)) hb205 rfl q213
        exfalso
        omega
end ARA7
