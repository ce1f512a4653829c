/-! JOINS (printed by wip/p2/ref/r11.py) -/
/-- the column c of the next slot stands in slot t -/
def ar_fd (S : aj_S) (t c : Nat) : Prop := ∃ i : Nat, (i : Int) < (S.2.2.1 15 t).toInt ∧ S.2.2.2 16 (t * 8 + i) = S.2.2.2 16 ((t + 1) * 8 + c)
noncomputable def ar_nw (S : aj_S) (t : Nat) : Nat → Nat
  | 0 => 0
  | c + 1 => ar_nw S t c + @ite Nat (ar_fd S t c) (Classical.propDecidable _) 0 1
def ar_J2 (S S2 : aj_S) : Prop := (∀ j, j < 392 → S2.2.2.2 16 j = S.2.2.2 16 j) ∧ ∀ j, j < 49 → S2.2.2.1 15 j = S.2.2.1 15 j
def ar_J (S S2 : aj_S) (t : Nat) : Prop := ar_J2 S S2 ∧ ((S2.2.2.1 14 49).toInt ≤ 0 ∨ 1 ≤ (S2.2.2.1 14 (t + 1)).toInt)
def ar_JP (S : aj_S) (t : Nat) : Prop := 0 ≤ (S.2.2.1 15 t).toInt ∧ 0 ≤ (S.2.2.1 15 (t + 1)).toInt ∧ (S.2.2.1 15 t).toInt + ar_nw S t (S.2.2.1 15 (t + 1)).toInt.toNat ≤ 6
section ARA11
variable {tb : aj_T} {s : List Nat} {h : aj_H} {S S' S1 S2 : aj_S} {d n : Nat} {g g' : aw_gh} {F A : List Nat} {G : aj_S → Prop} {nm : Int64 → Prop} {fl : Bool} {la ho hu ht q t c : Nat} {f : Nat → Int32} {m : Int}
theorem ar_nw_1 (h : ar_fd S t c) : ar_nw S t (c + 1) = ar_nw S t c := by
  show ar_nw S t c + @ite Nat (ar_fd S t c) (Classical.propDecidable _) 0 1 = _
  rw [if_pos h]
  rfl
theorem ar_nw_2 (h : ¬ ar_fd S t c) : ar_nw S t (c + 1) = ar_nw S t c + 1 := by
  show ar_nw S t c + @ite Nat (ar_fd S t c) (Classical.propDecidable _) 0 1 = _
  rw [if_neg h]
theorem ar_nw_le {c' : Nat} (h : c ≤ c') : ar_nw S t c ≤ ar_nw S t c' := by
  induction c' with
  | zero =>
    obtain rfl : c = 0 := by omega
    exact Nat.le_refl _
  | succ c' ih =>
    by_cases e : c = c' + 1
    · subst e
      exact Nat.le_refl _
    · exact Nat.le_trans (ih (by omega)) (Nat.le_add_right _ _)
theorem ar_J2_rf : ar_J2 S S := ⟨fun _ _ => rfl, fun _ _ => rfl⟩
theorem ar_J_eq (h14 : S2.2.2.1 14 = S1.2.2.1 14) (h15 : S2.2.2.1 15 = S1.2.2.1 15) (h16 : S2.2.2.2 16 = S1.2.2.2 16) (hJ : ar_J S S1 t) : ar_J S S2 t := by
  unfold ar_J ar_J2 at hJ ⊢
  rw [h14, h15, h16]
  exact hJ
theorem ar_J_col {j : Nat} {v : Int64} (hj : 392 ≤ j) (hJ : ar_J S S2 t) : ar_J S (aw_wb S2 16 j v) t := by
  refine ⟨⟨fun i hi => ?_, hJ.1.2⟩, hJ.2⟩
  rw [← hJ.1.1 i hi]
  show (vp_updL (S2.2.2.2 16) j v) i = _
  unfold vp_updL
  rw [if_neg (by omega)]
theorem ar_J_0 {x y : Int32} (ht : t ≤ 47) (hy : y.toInt ≤ 0 ∨ 1 ≤ (S.2.2.1 14 (t + 1)).toInt) : ar_J S (aw_wa (aw_wa S 15 49 x) 14 49 y) t := by
  refine ⟨⟨fun _ _ => rfl, fun i hi => ?_⟩, ?_⟩
  · show (upd (S.2.2.1 15) 49 x) i = _
    unfold upd
    rw [if_neg (by omega)]
  · show ((upd (S.2.2.1 14) 49 y) 49).toInt ≤ 0 ∨ 1 ≤ ((upd (S.2.2.1 14) 49 y) (t + 1)).toInt
    unfold upd
    rw [if_pos rfl, if_neg (by omega)]
    exact hy
theorem ar_fd_of (hJ : ar_J2 S S2) (ht : t ≤ 47) (hc : c < 8) (h6 : (S2.2.2.1 15 t).toInt ≤ 6) {v : Int64} {i : Nat} (hi : i = (t + 1) * 8 + c) (hv : v = S2.2.2.2 16 i) {b : Int32} (hf : aw_find233 S2 t v b) : (0 ≤ b.toInt ∧ b.toInt ≤ 5 ∧ ar_fd S t c) ∨ (b.toInt = -1 ∧ ¬ ar_fd S t c) := by
  subst hi
  rw [hJ.1 _ (by omega)] at hv
  rw [hJ.2 t (by omega)] at h6
  unfold aw_find233 at hf
  rw [hJ.2 t (by omega)] at hf
  rcases hf with ⟨i, e1, e2, e3⟩ | ⟨e1, e2⟩
  · rw [hJ.1 _ (by omega)] at e3
    exact Or.inl ⟨by omega, by omega, i, e2, e3.trans hv⟩
  · refine Or.inr ⟨e1, fun ⟨i, q1, q2⟩ => ?_⟩
    refine e2 i q1 ?_
    rw [hJ.1 _ (by omega), q2, ← hv]
theorem ar_div {a b : Int} (h1 : 0 ≤ a) (h2 : 1 ≤ b) : 0 ≤ a / b ∧ a / b ≤ a := ⟨Int.ediv_nonneg h1 (by omega), Int.ediv_le_self _ h1⟩
theorem ar_mod {a b : Int} (h2 : 1 ≤ b) : 0 ≤ a % b ∧ a % b < b := ⟨Int.emod_nonneg _ (by omega), Int.emod_lt_of_pos _ (by omega)⟩
theorem ar_mulb {a b : Int} (h1 : 0 ≤ a ∧ a ≤ 30) (h2 : 0 ≤ b ∧ b ≤ 30) : 0 ≤ a * b ∧ a * b ≤ 900 ∧ (a * b ≤ 0 ∨ 1 ≤ b) := by
  refine ⟨Int.mul_nonneg h1.1 h2.1, ?_, ?_⟩
  · have := Int.mul_le_mul h1.2 h2.2 h2.1 (by decide)
    omega
  · by_cases z : 1 ≤ b
    · exact Or.inr z
    · obtain rfl : b = 0 := by omega
      exact Or.inl (by simp)
theorem ar_join_L420_79 (hU : aw_U tb s h) (hd : 4 ≤ d + 1) (x0 : Nat) (hj : ar_JP S x0) (N88 : Nat) (S18 : aj_S) (x20 : Int32) (x21 : Int32) (x22 : Int32) (x23 : Int32) (ihL88_16 : ∀ (S18 : aj_S) (lv19 : aj_V) (x20 : Int32) (x21 : Int32) (x22 : Int32) (x23 : Int32), (aj_lv lv19 0 = some (.ref 117)) → (aj_lv lv19 1 = some (.int x20)) → (aj_lv lv19 3 = some (.int x21)) → (aj_lv lv19 4 = some (.int x22)) → (aj_lv lv19 5 = some (.int x23)) → (aw_I s h (aw_G g) S18) → (aw_fr [24, 25, 31] [14, 15, 16, 17, 18, 19] S S18) → (20 ≤ x20.toInt ∧ x20.toInt ≤ 47) → (21 ≤ x21.toInt ∧ x21.toInt ≤ 48) → (0 ≤ x22.toInt ∧ x22.toInt ≤ 6) → (0 ≤ x23.toInt ∧ x23.toInt ≤ 6) → ((S.1 30).toInt + 0 ≤ (S18.1 30).toInt) → (ar_J S S18 (x20.toInt).toNat) → (x21.toInt = x20.toInt + 1) → (x22.toInt = (S.2.2.1 15 (x20.toInt).toNat).toInt) → (x0 = (x20.toInt).toNat) → (6 - x23.toInt).toNat < N88 → aw_W tb h d aj_m276 88 lv19 [] S18 ((ar_QB s h [24, 25, 31] [14, 15, 16, 17, 18, 19] S (fun S' => aw_G g S' ∧ (S.1 30).toInt ≤ (S'.1 30).toInt) (fun S' => aw_G g S' ∧ (S.1 30).toInt + 0 ≤ (S'.1 30).toInt)))) (hm88 : (6 - x23.toInt).toNat < N88 + 1) (N127 : Nat) (S31 : aj_S) (x33 : Int32) (x34 : Int32) (x35 : Int32) (x36 : Int32) (ihL127_29 : ∀ (S31 : aj_S) (lv32 : aj_V) (x33 : Int32) (x34 : Int32) (x35 : Int32) (x36 : Int32), (aj_lv lv32 0 = some (.ref 117)) → (aj_lv lv32 1 = some (.int x33)) → (aj_lv lv32 3 = some (.int x34)) → (aj_lv lv32 4 = some (.int x35)) → (aj_lv lv32 5 = some (.int x36)) → (aw_I s h (aw_G g) S31) → (aw_fr [24, 25, 31] [14, 15, 16, 17, 18, 19] S S31) → (20 ≤ x33.toInt ∧ x33.toInt ≤ 47) → (21 ≤ x34.toInt ∧ x34.toInt ≤ 48) → (0 ≤ x35.toInt ∧ x35.toInt ≤ 6) → (0 ≤ x36.toInt ∧ x36.toInt ≤ 30) → ((S.1 30).toInt + 0 ≤ (S31.1 30).toInt) → (ar_J S S31 (x33.toInt).toNat) → (x34.toInt = x33.toInt + 1) → (x35.toInt = (S.2.2.1 15 (x33.toInt).toNat).toInt) → (x0 = (x33.toInt).toNat) → (30 - x36.toInt).toNat < N127 → aw_W tb h d aj_m276 127 lv32 [] S31 ((ar_QB s h [24, 25, 31] [14, 15, 16, 17, 18, 19] S (fun S' => aw_G g S' ∧ (S.1 30).toInt ≤ (S'.1 30).toInt) (fun S' => aw_G g S' ∧ (S.1 30).toInt + 0 ≤ (S'.1 30).toInt)))) (hm127 : (30 - x36.toInt).toNat < N127 + 1) (N166 : Nat) (S45 : aj_S) (x47 : Int32) (x48 : Int32) (x49 : Int32) (x50 : Int32) (ihL166_43 : ∀ (S45 : aj_S) (lv46 : aj_V) (x47 : Int32) (x48 : Int32) (x49 : Int32) (x50 : Int32), (aj_lv lv46 0 = some (.ref 117)) → (aj_lv lv46 1 = some (.int x47)) → (aj_lv lv46 3 = some (.int x48)) → (aj_lv lv46 4 = some (.int x49)) → (aj_lv lv46 5 = some (.int x50)) → (aw_I s h (aw_G g) S45) → (aw_fr [24, 25, 31] [14, 15, 16, 17, 18, 19] S S45) → (20 ≤ x47.toInt ∧ x47.toInt ≤ 47) → (21 ≤ x48.toInt ∧ x48.toInt ≤ 48) → (0 ≤ x49.toInt ∧ x49.toInt ≤ 6) → (0 ≤ x50.toInt ∧ x50.toInt ≤ 6) → ((S.1 30).toInt + 0 ≤ (S45.1 30).toInt) → (ar_J S S45 (x47.toInt).toNat) → (x48.toInt = x47.toInt + 1) → (x49.toInt = (S.2.2.1 15 (x47.toInt).toNat).toInt + ar_nw S (x47.toInt).toNat (x50.toInt).toNat) → (x50.toInt ≤ (S.2.2.1 15 ((x47.toInt).toNat + 1)).toInt) → (x0 = (x47.toInt).toNat) → (6 - x50.toInt).toNat < N166 → aw_W tb h d aj_m276 166 lv46 [] S45 ((ar_QB s h [24, 25, 31] [14, 15, 16, 17, 18, 19] S (fun S' => aw_G g S' ∧ (S.1 30).toInt ≤ (S'.1 30).toInt) (fun S' => aw_G g S' ∧ (S.1 30).toInt + 0 ≤ (S'.1 30).toInt)))) (hm166 : (6 - x50.toInt).toNat < N166 + 1) (N405 : Nat) (S60 : aj_S) (x62 : Int32) (x63 : Int32) (x64 : Int32) (x65 : Int32) (ihL405_58 : ∀ (S60 : aj_S) (lv61 : aj_V) (x62 : Int32) (x63 : Int32) (x64 : Int32) (x65 : Int32), (aj_lv lv61 0 = some (.ref 117)) → (aj_lv lv61 1 = some (.int x62)) → (aj_lv lv61 3 = some (.int x63)) → (aj_lv lv61 4 = some (.int x64)) → (aj_lv lv61 5 = some (.int x65)) → (aw_I s h (aw_G g) S60) → (aw_fr [24, 25, 31] [14, 15, 16, 17, 18, 19] S S60) → (20 ≤ x62.toInt ∧ x62.toInt ≤ 47) → (21 ≤ x63.toInt ∧ x63.toInt ≤ 48) → (0 ≤ x64.toInt ∧ x64.toInt ≤ 6) → (0 ≤ x65.toInt ∧ x65.toInt ≤ 30) → ((S.1 30).toInt + 0 ≤ (S60.1 30).toInt) → (ar_J S S60 (x62.toInt).toNat) → (x63.toInt = x62.toInt + 1) → (x0 = (x62.toInt).toNat) → (30 - x65.toInt).toNat < N405 → aw_W tb h d aj_m276 405 lv61 [] S60 ((ar_QB s h [24, 25, 31] [14, 15, 16, 17, 18, 19] S (fun S' => aw_G g S' ∧ (S.1 30).toInt ≤ (S'.1 30).toInt) (fun S' => aw_G g S' ∧ (S.1 30).toInt + 0 ≤ (S'.1 30).toInt)))) (hm405 : (30 - x65.toInt).toNat < N405 + 1) : ∀ (N : Nat) (S81 : aj_S) (lv82 : aj_V) (x83 : Int32) (x84 : Int32) (x85 : Int32) (x86 : Int32) (x87 : Int32), (aj_lv lv82 0 = some (.ref 117)) → (aj_lv lv82 1 = some (.int x83)) → (aj_lv lv82 3 = some (.int x84)) → (aj_lv lv82 4 = some (.int x85)) → (aj_lv lv82 5 = some (.int x86)) → (aj_lv lv82 6 = some (.int x87)) → (aw_I s h (aw_G g) S81) → (aw_fr [24, 25, 31] [14, 15, 16, 17, 18, 19] S S81) → (20 ≤ x83.toInt ∧ x83.toInt ≤ 47) → (21 ≤ x84.toInt ∧ x84.toInt ≤ 48) → (0 ≤ x85.toInt ∧ x85.toInt ≤ 6) → (0 ≤ x86.toInt ∧ x86.toInt ≤ 29) → (0 ≤ x87.toInt ∧ x87.toInt ≤ 32) → ((S.1 30).toInt + 0 ≤ (S81.1 30).toInt) → (ar_J S S81 (x83.toInt).toNat) → (x84.toInt = x83.toInt + 1) → (x86.toInt = x65.toInt) → (x86.toInt < (S81.2.2.1 14 49).toInt) → (x0 = (x83.toInt).toNat) → (32 - x87.toInt).toNat < N → aw_W tb h d aj_m276 420 lv82 [] S81 ((ar_QB s h [24, 25, 31] [14, 15, 16, 17, 18, 19] S (fun S' => aw_G g S' ∧ (S.1 30).toInt ≤ (S'.1 30).toInt) (fun S' => aw_G g S' ∧ (S.1 30).toInt + 0 ≤ (S'.1 30).toInt))) := by
  have hs : aw_sT s := aw_hy_sT hU.2.2
  intro N420
  induction N420 with
  | zero =>
    intro S81 lv82 x83 x84 x85 x86 x87 hlv82_0 hlv82_1 hlv82_3 hlv82_4 hlv82_5 hlv82_6 hI88 fr89 bx83 bx84 bx85 bx86 bx87 ck420 J420 b420 e420 r420 x420 hm420
    omega
  | succ N420 ihL420_79 =>
    intro S81 lv82 x83 x84 x85 x86 x87 hlv82_0 hlv82_1 hlv82_3 hlv82_4 hlv82_5 hlv82_6 hI88 fr89 bx83 bx84 bx85 bx86 bx87 ck420 J420 b420 e420 r420 x420 hm420
    have hI90 : aw_I s h (aw_sm S81) S81 := ⟨hI88.1, aw_sm_rf⟩
    have b91 : 0 ≤ (S81.1 30).toInt ∧ (S81.1 30).toInt ≤ 1001 := aw_bd_f hs (hI90).1 (by decide) rfl
    have hjx := hj
    rw [x420] at hjx
    obtain ⟨hj1, hj2, hj3⟩ := hjx
    refine aw_l0 aj_d276 rfl rfl hlv82_6 ?_
    refine aw_n aj_d276 rfl rfl ?_
    refine aw_c (tgt := 474) aj_d276 rfl rfl (fun q92 => ?_) (fun q92 => ?_)
    · have q92 : x87.toInt ≥ (32 : Int) := aw_t_ge (a := x87.toInt) (b := (32 : Int)) rfl rfl q92
      refine aw_inc aj_d276 rfl hlv82_5 (a := x86.toInt) rfl (by omega) (by omega) (by decide) (by decide) (fun x93 ex93 => ?_)
      obtain ⟨lv94, elv94⟩ : ∃ l, l = aj_set1 lv82 5 (.int x93) := ⟨_, rfl⟩
      rw [← elv94]
      have hlv94_0 : aj_lv lv94 0 = some (.ref 117) := cw_e1 elv94 hlv82_0 (by decide) (Or.inl (by decide))
      have hlv94_1 : aj_lv lv94 1 = some (.int x83) := cw_e1 elv94 hlv82_1 (by decide) (Or.inl (by decide))
      have hlv94_3 : aj_lv lv94 3 = some (.int x84) := cw_e1 elv94 hlv82_3 (by decide) (Or.inl (by decide))
      have hlv94_4 : aj_lv lv94 4 = some (.int x85) := cw_e1 elv94 hlv82_4 (by decide) (Or.inr rfl)
      have hlv94_5 : aj_lv lv94 5 = some (.int x93) := by rw [elv94]; exact ak_set1_eq _ _ _
      show aw_W _ _ _ _ 477 lv94 [] _ _
      refine aw_n aj_d276 rfl rfl ?_
      exact ihL405_58 S81 lv94 (x83) (x84) (x85) (x93) hlv94_0 hlv94_1 hlv94_3 hlv94_4 hlv94_5 ⟨(hI90).1, hI88.2⟩ fr89 (by omega) (by omega) (by omega) (by omega) (show _ ≤ ((S81.1 30)).toInt by omega) J420 (by omega) (by omega) (by omega)
    · have q92 : x87.toInt < (32 : Int) := aw_t_ge (a := x87.toInt) (b := (32 : Int)) rfl rfl q92
      refine aw_l2 aj_d276 rfl rfl hlv82_0 ?_
      refine aw_g hU.1 aj_d276 rfl rfl (by decide) (v := .ref 136) rfl ?_
      refine aw_l2 aj_d276 rfl rfl hlv82_0 ?_
      refine aw_n aj_d276 rfl rfl ?_
      refine aw_l0 aj_d276 rfl rfl hlv82_5 ?_
      refine aw_k hU.1 aj_d276 rfl rfl [_, _] rfl rfl rfl (Nat.le_of_ble_eq_true rfl) (ar_at (by omega) (a := (49 : Int)) (b := x86.toInt) rfl rfl (by omega) (by omega)) ?_
      rintro _ zx95 ⟨fx95, x95, rfl, ex95⟩
      rw [fx95]
      show aw_W _ _ _ _ 439 lv82 [.int x95, .ref 136] _ _
      refine aw_l0 aj_d276 rfl rfl hlv82_6 ?_
      refine aw_add aj_d276 rfl (a := (((49 : Int) * 30 + x86.toInt) * 32)) (b := x87.toInt) ex95 rfl (by omega) (by omega) (fun x96 ex96 => ?_)
      refine aw_n aj_d276 rfl rfl ?_
      refine aw_ld (k := 19) hU.1 aj_d276 (Or.inl ⟨rfl, rfl⟩) rfl (by decide) (by decide) rfl (a := x96.toInt) rfl (by omega) (by omega) (fun x97 ex97 => ?_)
      refine aw_l2 aj_d276 rfl rfl hlv82_0 ?_
      refine aw_g hU.1 aj_d276 rfl rfl (by decide) (v := .ref 136) rfl ?_
      refine aw_l2 aj_d276 rfl rfl hlv82_0 ?_
      refine aw_l0 aj_d276 rfl rfl hlv82_3 ?_
      refine aw_l0 aj_d276 rfl rfl hlv82_5 ?_
      refine aw_l2 aj_d276 rfl rfl hlv82_0 ?_
      refine aw_g hU.1 aj_d276 rfl rfl (by decide) (v := .ref 131) rfl ?_
      refine aw_l0 aj_d276 rfl rfl hlv82_3 ?_
      have ib98 : (x84.toInt).toNat = (x83.toInt).toNat + 1 := by omega
      refine aw_ld (k := 14) hU.1 aj_d276 (Or.inl ⟨rfl, rfl⟩) rfl (by decide) (by decide) rfl (a := x84.toInt) rfl (by omega) (by omega) (fun x99 ex99 => ?_)
      have bx99 : 0 ≤ x99.toInt ∧ x99.toInt ≤ 30 := by
        rw [ex99]
        exact aw_bd_a hs (hI90).1 (k := 14) (by decide) (by decide) rfl (by decide) rfl (by omega)
      have ftx99 : x99.toInt = (S81.2.2.1 14 (x84.toInt).toNat).toInt := congrArg Int32.toInt (ex99.trans (congrFun rfl _))
      rw [ib98] at ftx99
      have jb := J420.2
      refine aw_rem aj_d276 rfl (a := x86.toInt) (b := x99.toInt) rfl rfl (by omega) (by omega) (fun x100 ex100 => ?_)
      have dvx100 := ar_mod (a := x86.toInt) (b := x99.toInt) (by omega)
      rw [← ex100] at dvx100
      refine aw_k hU.1 aj_d276 rfl rfl [_, _] rfl rfl rfl (Nat.le_of_ble_eq_true rfl) (ar_at (by omega) (a := x84.toInt) (b := x100.toInt) rfl rfl (by omega) (by omega)) ?_
      rintro _ zx101 ⟨fx101, x101, rfl, ex101⟩
      rw [fx101]
      show aw_W _ _ _ _ 462 lv82 [.int x101, .ref 136, .int x97, .int x96, .ref 136] _ _
      refine aw_l0 aj_d276 rfl rfl hlv82_6 ?_
      refine aw_add aj_d276 rfl (a := ((x84.toInt * 30 + x100.toInt) * 32)) (b := x87.toInt) ex101 rfl (by omega) (by omega) (fun x102 ex102 => ?_)
      refine aw_ld (k := 19) hU.1 aj_d276 (Or.inl ⟨rfl, rfl⟩) rfl (by decide) (by decide) rfl (a := x102.toInt) rfl (by omega) (by omega) (fun x103 ex103 => ?_)
      refine aw_any aj_d276 rfl rfl (fun x104 ex104 => ?_)
      refine aw_st (k := 19) hU.1 aj_d276 (Or.inl ⟨rfl, rfl⟩) rfl (by decide) (by decide) rfl (a := x96.toInt) rfl (by omega) (by omega) ?_
      have hI105 := aw_I_a (aw_UV hU aw_Gs_sm) (k := 19) (j := (x96.toInt).toNat) (v := aj_nar 0 x104) hI90 (by decide) (by decide) (by decide) rfl (by decide) (by decide) rfl (aw_full _)
      have fr106 := aw_fr_a (k := 19) (j := (x96.toInt).toNat) (v := aj_nar 0 x104) (by decide) fr89
      refine aw_inc aj_d276 rfl hlv82_6 (a := x87.toInt) rfl (by omega) (by omega) (by decide) (by decide) (fun x107 ex107 => ?_)
      obtain ⟨lv108, elv108⟩ : ∃ l, l = aj_set1 lv82 6 (.int x107) := ⟨_, rfl⟩
      rw [← elv108]
      have hlv108_0 : aj_lv lv108 0 = some (.ref 117) := cw_e1 elv108 hlv82_0 (by decide) (Or.inl (by decide))
      have hlv108_1 : aj_lv lv108 1 = some (.int x83) := cw_e1 elv108 hlv82_1 (by decide) (Or.inl (by decide))
      have hlv108_3 : aj_lv lv108 3 = some (.int x84) := cw_e1 elv108 hlv82_3 (by decide) (Or.inl (by decide))
      have hlv108_4 : aj_lv lv108 4 = some (.int x85) := cw_e1 elv108 hlv82_4 (by decide) (Or.inl (by decide))
      have hlv108_5 : aj_lv lv108 5 = some (.int x86) := cw_e1 elv108 hlv82_5 (by decide) (Or.inr rfl)
      have hlv108_6 : aj_lv lv108 6 = some (.int x107) := by rw [elv108]; exact ak_set1_eq _ _ _
      show aw_W _ _ _ _ 471 lv108 [] _ _
      refine aw_n aj_d276 rfl rfl ?_
      exact ihL420_79 (aw_wa S81 19 (x96.toInt).toNat (aj_nar 0 x104)) lv108 (x83) (x84) (x85) (x86) (x107) hlv108_0 hlv108_1 hlv108_3 hlv108_4 hlv108_5 hlv108_6 ⟨(hI105).1, (aw_G_sm hI105.2 hI88.2)⟩ fr106 (by omega) (by omega) (by omega) (by omega) (by omega) (show _ ≤ ((S81.1 30)).toInt by omega) (ar_J_eq rfl rfl rfl J420) (by omega) (by omega) (by rw [show ((aw_wa S81 19 (x96.toInt).toNat (aj_nar 0 x104)).2.2.1 14) = S81.2.2.1 14 from rfl]; omega) (by omega) (by omega)
theorem ar_join_L405_58 (hU : aw_U tb s h) (hd : 4 ≤ d + 1) (x0 : Nat) (hj : ar_JP S x0) (N88 : Nat) (S18 : aj_S) (x20 : Int32) (x21 : Int32) (x22 : Int32) (x23 : Int32) (ihL88_16 : ∀ (S18 : aj_S) (lv19 : aj_V) (x20 : Int32) (x21 : Int32) (x22 : Int32) (x23 : Int32), (aj_lv lv19 0 = some (.ref 117)) → (aj_lv lv19 1 = some (.int x20)) → (aj_lv lv19 3 = some (.int x21)) → (aj_lv lv19 4 = some (.int x22)) → (aj_lv lv19 5 = some (.int x23)) → (aw_I s h (aw_G g) S18) → (aw_fr [24, 25, 31] [14, 15, 16, 17, 18, 19] S S18) → (20 ≤ x20.toInt ∧ x20.toInt ≤ 47) → (21 ≤ x21.toInt ∧ x21.toInt ≤ 48) → (0 ≤ x22.toInt ∧ x22.toInt ≤ 6) → (0 ≤ x23.toInt ∧ x23.toInt ≤ 6) → ((S.1 30).toInt + 0 ≤ (S18.1 30).toInt) → (ar_J S S18 (x20.toInt).toNat) → (x21.toInt = x20.toInt + 1) → (x22.toInt = (S.2.2.1 15 (x20.toInt).toNat).toInt) → (x0 = (x20.toInt).toNat) → (6 - x23.toInt).toNat < N88 → aw_W tb h d aj_m276 88 lv19 [] S18 ((ar_QB s h [24, 25, 31] [14, 15, 16, 17, 18, 19] S (fun S' => aw_G g S' ∧ (S.1 30).toInt ≤ (S'.1 30).toInt) (fun S' => aw_G g S' ∧ (S.1 30).toInt + 0 ≤ (S'.1 30).toInt)))) (hm88 : (6 - x23.toInt).toNat < N88 + 1) (N127 : Nat) (S31 : aj_S) (x33 : Int32) (x34 : Int32) (x35 : Int32) (x36 : Int32) (ihL127_29 : ∀ (S31 : aj_S) (lv32 : aj_V) (x33 : Int32) (x34 : Int32) (x35 : Int32) (x36 : Int32), (aj_lv lv32 0 = some (.ref 117)) → (aj_lv lv32 1 = some (.int x33)) → (aj_lv lv32 3 = some (.int x34)) → (aj_lv lv32 4 = some (.int x35)) → (aj_lv lv32 5 = some (.int x36)) → (aw_I s h (aw_G g) S31) → (aw_fr [24, 25, 31] [14, 15, 16, 17, 18, 19] S S31) → (20 ≤ x33.toInt ∧ x33.toInt ≤ 47) → (21 ≤ x34.toInt ∧ x34.toInt ≤ 48) → (0 ≤ x35.toInt ∧ x35.toInt ≤ 6) → (0 ≤ x36.toInt ∧ x36.toInt ≤ 30) → ((S.1 30).toInt + 0 ≤ (S31.1 30).toInt) → (ar_J S S31 (x33.toInt).toNat) → (x34.toInt = x33.toInt + 1) → (x35.toInt = (S.2.2.1 15 (x33.toInt).toNat).toInt) → (x0 = (x33.toInt).toNat) → (30 - x36.toInt).toNat < N127 → aw_W tb h d aj_m276 127 lv32 [] S31 ((ar_QB s h [24, 25, 31] [14, 15, 16, 17, 18, 19] S (fun S' => aw_G g S' ∧ (S.1 30).toInt ≤ (S'.1 30).toInt) (fun S' => aw_G g S' ∧ (S.1 30).toInt + 0 ≤ (S'.1 30).toInt)))) (hm127 : (30 - x36.toInt).toNat < N127 + 1) (N166 : Nat) (S45 : aj_S) (x47 : Int32) (x48 : Int32) (x49 : Int32) (x50 : Int32) (ihL166_43 : ∀ (S45 : aj_S) (lv46 : aj_V) (x47 : Int32) (x48 : Int32) (x49 : Int32) (x50 : Int32), (aj_lv lv46 0 = some (.ref 117)) → (aj_lv lv46 1 = some (.int x47)) → (aj_lv lv46 3 = some (.int x48)) → (aj_lv lv46 4 = some (.int x49)) → (aj_lv lv46 5 = some (.int x50)) → (aw_I s h (aw_G g) S45) → (aw_fr [24, 25, 31] [14, 15, 16, 17, 18, 19] S S45) → (20 ≤ x47.toInt ∧ x47.toInt ≤ 47) → (21 ≤ x48.toInt ∧ x48.toInt ≤ 48) → (0 ≤ x49.toInt ∧ x49.toInt ≤ 6) → (0 ≤ x50.toInt ∧ x50.toInt ≤ 6) → ((S.1 30).toInt + 0 ≤ (S45.1 30).toInt) → (ar_J S S45 (x47.toInt).toNat) → (x48.toInt = x47.toInt + 1) → (x49.toInt = (S.2.2.1 15 (x47.toInt).toNat).toInt + ar_nw S (x47.toInt).toNat (x50.toInt).toNat) → (x50.toInt ≤ (S.2.2.1 15 ((x47.toInt).toNat + 1)).toInt) → (x0 = (x47.toInt).toNat) → (6 - x50.toInt).toNat < N166 → aw_W tb h d aj_m276 166 lv46 [] S45 ((ar_QB s h [24, 25, 31] [14, 15, 16, 17, 18, 19] S (fun S' => aw_G g S' ∧ (S.1 30).toInt ≤ (S'.1 30).toInt) (fun S' => aw_G g S' ∧ (S.1 30).toInt + 0 ≤ (S'.1 30).toInt)))) (hm166 : (6 - x50.toInt).toNat < N166 + 1) : ∀ (N : Nat) (S60 : aj_S) (lv61 : aj_V) (x62 : Int32) (x63 : Int32) (x64 : Int32) (x65 : Int32), (aj_lv lv61 0 = some (.ref 117)) → (aj_lv lv61 1 = some (.int x62)) → (aj_lv lv61 3 = some (.int x63)) → (aj_lv lv61 4 = some (.int x64)) → (aj_lv lv61 5 = some (.int x65)) → (aw_I s h (aw_G g) S60) → (aw_fr [24, 25, 31] [14, 15, 16, 17, 18, 19] S S60) → (20 ≤ x62.toInt ∧ x62.toInt ≤ 47) → (21 ≤ x63.toInt ∧ x63.toInt ≤ 48) → (0 ≤ x64.toInt ∧ x64.toInt ≤ 6) → (0 ≤ x65.toInt ∧ x65.toInt ≤ 30) → ((S.1 30).toInt + 0 ≤ (S60.1 30).toInt) → (ar_J S S60 (x62.toInt).toNat) → (x63.toInt = x62.toInt + 1) → (x0 = (x62.toInt).toNat) → (30 - x65.toInt).toNat < N → aw_W tb h d aj_m276 405 lv61 [] S60 ((ar_QB s h [24, 25, 31] [14, 15, 16, 17, 18, 19] S (fun S' => aw_G g S' ∧ (S.1 30).toInt ≤ (S'.1 30).toInt) (fun S' => aw_G g S' ∧ (S.1 30).toInt + 0 ≤ (S'.1 30).toInt))) := by
  have hs : aw_sT s := aw_hy_sT hU.2.2
  intro N405
  induction N405 with
  | zero =>
    intro S60 lv61 x62 x63 x64 x65 hlv61_0 hlv61_1 hlv61_3 hlv61_4 hlv61_5 hI66 fr67 bx62 bx63 bx64 bx65 ck405 J405 b405 x405 hm405
    omega
  | succ N405 ihL405_58 =>
    intro S60 lv61 x62 x63 x64 x65 hlv61_0 hlv61_1 hlv61_3 hlv61_4 hlv61_5 hI66 fr67 bx62 bx63 bx64 bx65 ck405 J405 b405 x405 hm405
    have hI68 : aw_I s h (aw_sm S60) S60 := ⟨hI66.1, aw_sm_rf⟩
    have b69 : 0 ≤ (S60.1 30).toInt ∧ (S60.1 30).toInt ≤ 1001 := aw_bd_f hs (hI68).1 (by decide) rfl
    have hjx := hj
    rw [x405] at hjx
    obtain ⟨hj1, hj2, hj3⟩ := hjx
    refine aw_l0 aj_d276 rfl rfl hlv61_5 ?_
    refine aw_l2 aj_d276 rfl rfl hlv61_0 ?_
    refine aw_g hU.1 aj_d276 rfl rfl (by decide) (v := .ref 131) rfl ?_
    refine aw_n aj_d276 rfl rfl ?_
    refine aw_ld (k := 14) hU.1 aj_d276 (Or.inl ⟨rfl, rfl⟩) rfl (by decide) (by decide) rfl (a := (49 : Int)) rfl (by omega) (by omega) (fun x70 ex70 => ?_)
    have bx70 : 0 ≤ x70.toInt ∧ x70.toInt ≤ 30 := by
      rw [ex70]
      exact aw_bd_a hs (hI68).1 (k := 14) (by decide) (by decide) rfl (by decide) rfl (by omega)
    have ftx70 : x70.toInt = (S60.2.2.1 14 49).toInt := congrArg Int32.toInt (ex70.trans (congrFun rfl _))
    refine aw_c (tgt := 480) aj_d276 rfl rfl (fun q71 => ?_) (fun q71 => ?_)
    · have q71 : x65.toInt ≥ x70.toInt := aw_t_ge (a := x65.toInt) (b := x70.toInt) rfl rfl q71
      refine aw_l2 aj_d276 rfl rfl hlv61_0 ?_
      refine aw_g hU.1 aj_d276 rfl rfl (by decide) (v := .ref 132) rfl ?_
      refine aw_n aj_d276 rfl rfl ?_
      refine aw_l0 aj_d276 rfl rfl hlv61_4 ?_
      refine aw_st (k := 15) hU.1 aj_d276 (Or.inl ⟨rfl, rfl⟩) rfl (by decide) (by decide) rfl (a := (49 : Int)) rfl (by omega) (by omega) ?_
      have hI72 := aw_I_a (aw_UV hU aw_Gs_sm) (k := 15) (j := ((49 : Int)).toNat) (v := aj_nar 0 x64) hI68 (by decide) (by decide) (by decide) rfl (by decide) (by decide) rfl (aw_bp (a := x64.toInt) rfl (by omega) (by omega))
      have fr73 := aw_fr_a (k := 15) (j := ((49 : Int)).toNat) (v := aj_nar 0 x64) (by decide) fr67
      refine aw_l2 aj_d276 rfl rfl hlv61_0 ?_
      refine aw_n aj_d276 rfl rfl ?_
      refine aw_l0 aj_d276 rfl rfl hlv61_1 ?_
      refine aw_k hU.1 aj_d276 rfl rfl [_, _] rfl rfl rfl (Nat.le_of_ble_eq_true rfl) (aw_toK hU aw_Gs_G (con := ac_c251) (by omega) (ar_251 hU.2.1 (aw_SPc hU.2.2 aw_Gs_G) aw_kpc (arc_252 hU)) ⟨(hI72).1, (aw_G_sm hI72.2 hI66.2)⟩ ⟨(aw_g117 hU.2.2), (cw_gw (a := (49 : Int)) rfl (by omega) (by omega)), (cw_gw (a := x62.toInt) rfl (by omega) (by omega)), trivial⟩ (fun e he => nomatch he)) ?_
      rintro r74 S74 ⟨hr74, hJ74, fc74, po74, -⟩
      have hT74 := hJ74.1
      replace fc74 := aw_fr_sub (F' := []) (A' := [14, 15, 16, 17, 18, 19]) (by decide) (by decide) fc74
      have fr75 := aw_fr_tr fr73 (aw_fr_sub (F := []) (A := [14, 15, 16, 17, 18, 19]) (by decide) (by decide) fc74)
      have hI76 : aw_I s h (aw_sm S74) S74 := ⟨hT74, aw_sm_rf⟩
      obtain rfl := cw_rN hr74
      show aw_W _ _ _ _ 496 lv61 [] _ _
      refine aw_n aj_d276 rfl rfl ?_
      refine aw_e aj_d276 rfl rfl ?_
      have c77 : (S74.1 30).toInt = (S60.1 30).toInt := (congrArg Int32.toInt (fc74.1 30 (by decide)).1).trans rfl
      have b78 : 0 ≤ (S74.1 30).toInt ∧ (S74.1 30).toInt ≤ 1001 := aw_bd_f hs (hI76).1 (by decide) rfl
      exact ⟨(hI76).1, fr75, Or.inr ⟨_, rfl, rfl, hJ74.2, (show _ + 0 ≤ ((S74.1 30)).toInt by omega)⟩⟩
    · have q71 : x65.toInt < x70.toInt := aw_t_ge (a := x65.toInt) (b := x70.toInt) rfl rfl q71
      refine aw_n aj_d276 rfl rfl ?_
      refine aw_t0 (j := 6) aj_d276 rfl (by decide) rfl ?_
      obtain ⟨lv79, elv79⟩ : ∃ l, l = aj_set1 lv61 6 (.int (Int32.ofInt 0)) := ⟨_, rfl⟩
      rw [← elv79]
      have hlv79_0 : aj_lv lv79 0 = some (.ref 117) := cw_e1 elv79 hlv61_0 (by decide) (Or.inl (by decide))
      have hlv79_1 : aj_lv lv79 1 = some (.int x62) := cw_e1 elv79 hlv61_1 (by decide) (Or.inl (by decide))
      have hlv79_3 : aj_lv lv79 3 = some (.int x63) := cw_e1 elv79 hlv61_3 (by decide) (Or.inl (by decide))
      have hlv79_4 : aj_lv lv79 4 = some (.int x64) := cw_e1 elv79 hlv61_4 (by decide) (Or.inl (by decide))
      have hlv79_5 : aj_lv lv79 5 = some (.int x65) := cw_e1 elv79 hlv61_5 (by decide) (Or.inr rfl)
      have hlv79_6 : aj_lv lv79 6 = some (.int (Int32.ofInt 0)) := by rw [elv79]; exact ak_set1_eq _ _ _
      show aw_W _ _ _ _ 420 lv79 [] _ _
      exact (ar_join_L420_79 hU hd x0 hj N88 S18 x20 x21 x22 x23 ihL88_16 hm88 N127 S31 x33 x34 x35 x36 ihL127_29 hm127 N166 S45 x47 x48 x49 x50 ihL166_43 hm166 N405 S60 x62 x63 x64 x65 ihL405_58 hm405) _ S60 lv79 (x62) (x63) (x64) (x65) ((Int32.ofInt 0)) hlv79_0 hlv79_1 hlv79_3 hlv79_4 hlv79_5 hlv79_6 ⟨(hI68).1, hI66.2⟩ fr67 (by omega) (by omega) (by omega) (by omega) (by first | omega | decide) (show _ ≤ ((S60.1 30)).toInt by omega) J405 (by omega) (by omega) (by rw [show (S60.2.2.1 14) = S60.2.2.1 14 from rfl]; omega) (by omega) (Nat.lt_succ_self _)
theorem ar_join_L225_149 (hU : aw_U tb s h) (hd : 4 ≤ d + 1) (x0 : Nat) (hj : ar_JP S x0) (N88 : Nat) (S18 : aj_S) (x20 : Int32) (x21 : Int32) (x22 : Int32) (x23 : Int32) (ihL88_16 : ∀ (S18 : aj_S) (lv19 : aj_V) (x20 : Int32) (x21 : Int32) (x22 : Int32) (x23 : Int32), (aj_lv lv19 0 = some (.ref 117)) → (aj_lv lv19 1 = some (.int x20)) → (aj_lv lv19 3 = some (.int x21)) → (aj_lv lv19 4 = some (.int x22)) → (aj_lv lv19 5 = some (.int x23)) → (aw_I s h (aw_G g) S18) → (aw_fr [24, 25, 31] [14, 15, 16, 17, 18, 19] S S18) → (20 ≤ x20.toInt ∧ x20.toInt ≤ 47) → (21 ≤ x21.toInt ∧ x21.toInt ≤ 48) → (0 ≤ x22.toInt ∧ x22.toInt ≤ 6) → (0 ≤ x23.toInt ∧ x23.toInt ≤ 6) → ((S.1 30).toInt + 0 ≤ (S18.1 30).toInt) → (ar_J S S18 (x20.toInt).toNat) → (x21.toInt = x20.toInt + 1) → (x22.toInt = (S.2.2.1 15 (x20.toInt).toNat).toInt) → (x0 = (x20.toInt).toNat) → (6 - x23.toInt).toNat < N88 → aw_W tb h d aj_m276 88 lv19 [] S18 ((ar_QB s h [24, 25, 31] [14, 15, 16, 17, 18, 19] S (fun S' => aw_G g S' ∧ (S.1 30).toInt ≤ (S'.1 30).toInt) (fun S' => aw_G g S' ∧ (S.1 30).toInt + 0 ≤ (S'.1 30).toInt)))) (hm88 : (6 - x23.toInt).toNat < N88 + 1) (N127 : Nat) (S31 : aj_S) (x33 : Int32) (x34 : Int32) (x35 : Int32) (x36 : Int32) (ihL127_29 : ∀ (S31 : aj_S) (lv32 : aj_V) (x33 : Int32) (x34 : Int32) (x35 : Int32) (x36 : Int32), (aj_lv lv32 0 = some (.ref 117)) → (aj_lv lv32 1 = some (.int x33)) → (aj_lv lv32 3 = some (.int x34)) → (aj_lv lv32 4 = some (.int x35)) → (aj_lv lv32 5 = some (.int x36)) → (aw_I s h (aw_G g) S31) → (aw_fr [24, 25, 31] [14, 15, 16, 17, 18, 19] S S31) → (20 ≤ x33.toInt ∧ x33.toInt ≤ 47) → (21 ≤ x34.toInt ∧ x34.toInt ≤ 48) → (0 ≤ x35.toInt ∧ x35.toInt ≤ 6) → (0 ≤ x36.toInt ∧ x36.toInt ≤ 30) → ((S.1 30).toInt + 0 ≤ (S31.1 30).toInt) → (ar_J S S31 (x33.toInt).toNat) → (x34.toInt = x33.toInt + 1) → (x35.toInt = (S.2.2.1 15 (x33.toInt).toNat).toInt) → (x0 = (x33.toInt).toNat) → (30 - x36.toInt).toNat < N127 → aw_W tb h d aj_m276 127 lv32 [] S31 ((ar_QB s h [24, 25, 31] [14, 15, 16, 17, 18, 19] S (fun S' => aw_G g S' ∧ (S.1 30).toInt ≤ (S'.1 30).toInt) (fun S' => aw_G g S' ∧ (S.1 30).toInt + 0 ≤ (S'.1 30).toInt)))) (hm127 : (30 - x36.toInt).toNat < N127 + 1) (N166 : Nat) (S45 : aj_S) (x47 : Int32) (x48 : Int32) (x49 : Int32) (x50 : Int32) (ihL166_43 : ∀ (S45 : aj_S) (lv46 : aj_V) (x47 : Int32) (x48 : Int32) (x49 : Int32) (x50 : Int32), (aj_lv lv46 0 = some (.ref 117)) → (aj_lv lv46 1 = some (.int x47)) → (aj_lv lv46 3 = some (.int x48)) → (aj_lv lv46 4 = some (.int x49)) → (aj_lv lv46 5 = some (.int x50)) → (aw_I s h (aw_G g) S45) → (aw_fr [24, 25, 31] [14, 15, 16, 17, 18, 19] S S45) → (20 ≤ x47.toInt ∧ x47.toInt ≤ 47) → (21 ≤ x48.toInt ∧ x48.toInt ≤ 48) → (0 ≤ x49.toInt ∧ x49.toInt ≤ 6) → (0 ≤ x50.toInt ∧ x50.toInt ≤ 6) → ((S.1 30).toInt + 0 ≤ (S45.1 30).toInt) → (ar_J S S45 (x47.toInt).toNat) → (x48.toInt = x47.toInt + 1) → (x49.toInt = (S.2.2.1 15 (x47.toInt).toNat).toInt + ar_nw S (x47.toInt).toNat (x50.toInt).toNat) → (x50.toInt ≤ (S.2.2.1 15 ((x47.toInt).toNat + 1)).toInt) → (x0 = (x47.toInt).toNat) → (6 - x50.toInt).toNat < N166 → aw_W tb h d aj_m276 166 lv46 [] S45 ((ar_QB s h [24, 25, 31] [14, 15, 16, 17, 18, 19] S (fun S' => aw_G g S' ∧ (S.1 30).toInt ≤ (S'.1 30).toInt) (fun S' => aw_G g S' ∧ (S.1 30).toInt + 0 ≤ (S'.1 30).toInt)))) (hm166 : (6 - x50.toInt).toNat < N166 + 1) (N199 : Nat) (S116 : aj_S) (x118 : Int32) (x119 : Int32) (x120 : Int32) (x121 : Int32) (x122 : Int32) (x123 : Int32) (ihL199_114 : ∀ (S116 : aj_S) (lv117 : aj_V) (x118 : Int32) (x119 : Int32) (x120 : Int32) (x121 : Int32) (x122 : Int32) (x123 : Int32), (aj_lv lv117 0 = some (.ref 117)) → (aj_lv lv117 1 = some (.int x118)) → (aj_lv lv117 3 = some (.int x119)) → (aj_lv lv117 4 = some (.int x120)) → (aj_lv lv117 5 = some (.int x121)) → (aj_lv lv117 6 = some (.int x122)) → (aj_lv lv117 7 = some (.int x123)) → (aw_I s h (aw_G g) S116) → (aw_fr [24, 25, 31] [14, 15, 16, 17, 18, 19] S S116) → (20 ≤ x118.toInt ∧ x118.toInt ≤ 47) → (21 ≤ x119.toInt ∧ x119.toInt ≤ 48) → (0 ≤ x120.toInt ∧ x120.toInt ≤ 6) → (0 ≤ x121.toInt ∧ x121.toInt ≤ 5) → ((-1) ≤ x122.toInt ∧ x122.toInt ≤ 5) → (0 ≤ x123.toInt ∧ x123.toInt ≤ 30) → ((S.1 30).toInt + 0 ≤ (S116.1 30).toInt) → (ar_J S S116 (x118.toInt).toNat) → (x119.toInt = x118.toInt + 1) → (x120.toInt = (S.2.2.1 15 (x118.toInt).toNat).toInt + ar_nw S (x118.toInt).toNat (x121.toInt).toNat) → (x121.toInt + 1 ≤ (S.2.2.1 15 ((x118.toInt).toNat + 1)).toInt) → (((0 ≤ x122.toInt ∧ ar_nw S (x118.toInt).toNat ((x121.toInt).toNat + 1) = ar_nw S (x118.toInt).toNat (x121.toInt).toNat) ∨ (x122.toInt = -1 ∧ ar_nw S (x118.toInt).toNat ((x121.toInt).toNat + 1) = ar_nw S (x118.toInt).toNat (x121.toInt).toNat + 1))) → (x121.toInt = x50.toInt) → (x0 = (x118.toInt).toNat) → (30 - x123.toInt).toNat < N199 → aw_W tb h d aj_m276 199 lv117 [] S116 ((ar_QB s h [24, 25, 31] [14, 15, 16, 17, 18, 19] S (fun S' => aw_G g S' ∧ (S.1 30).toInt ≤ (S'.1 30).toInt) (fun S' => aw_G g S' ∧ (S.1 30).toInt + 0 ≤ (S'.1 30).toInt)))) (hm199 : (30 - x123.toInt).toNat < N199 + 1) : ∀ (N : Nat) (S151 : aj_S) (lv152 : aj_V) (x153 : Int32) (x154 : Int32) (x155 : Int32) (x156 : Int32) (x157 : Int32) (x158 : Int32) (x159 : Int32) (x160 : Int32), (aj_lv lv152 0 = some (.ref 117)) → (aj_lv lv152 1 = some (.int x153)) → (aj_lv lv152 3 = some (.int x154)) → (aj_lv lv152 4 = some (.int x155)) → (aj_lv lv152 5 = some (.int x156)) → (aj_lv lv152 6 = some (.int x157)) → (aj_lv lv152 7 = some (.int x158)) → (aj_lv lv152 8 = some (.int x159)) → (aj_lv lv152 9 = some (.int x160)) → (aw_I s h (aw_G g) S151) → (aw_fr [24, 25, 31] [14, 15, 16, 17, 18, 19] S S151) → (20 ≤ x153.toInt ∧ x153.toInt ≤ 47) → (21 ≤ x154.toInt ∧ x154.toInt ≤ 48) → (0 ≤ x155.toInt ∧ x155.toInt ≤ 6) → (0 ≤ x156.toInt ∧ x156.toInt ≤ 5) → ((-1) ≤ x157.toInt ∧ x157.toInt ≤ 5) → (0 ≤ x158.toInt ∧ x158.toInt ≤ 29) → (0 ≤ x159.toInt ∧ x159.toInt ≤ 29) → (0 ≤ x160.toInt ∧ x160.toInt ≤ 1024) → ((S.1 30).toInt + 0 ≤ (S151.1 30).toInt) → (ar_J S S151 (x153.toInt).toNat) → (x154.toInt = x153.toInt + 1) → (x155.toInt = (S.2.2.1 15 (x153.toInt).toNat).toInt + ar_nw S (x153.toInt).toNat (x156.toInt).toNat) → (x156.toInt + 1 ≤ (S.2.2.1 15 ((x153.toInt).toNat + 1)).toInt) → (((0 ≤ x157.toInt ∧ ar_nw S (x153.toInt).toNat ((x156.toInt).toNat + 1) = ar_nw S (x153.toInt).toNat (x156.toInt).toNat) ∨ (x157.toInt = -1 ∧ ar_nw S (x153.toInt).toNat ((x156.toInt).toNat + 1) = ar_nw S (x153.toInt).toNat (x156.toInt).toNat + 1))) → (x156.toInt = x50.toInt) → (x158.toInt = x123.toInt) → (x158.toInt < (S151.2.2.1 14 49).toInt) → (x0 = (x153.toInt).toNat) → (1024 - x160.toInt).toNat < N → aw_W tb h d aj_m276 225 lv152 [] S151 ((ar_QB s h [24, 25, 31] [14, 15, 16, 17, 18, 19] S (fun S' => aw_G g S' ∧ (S.1 30).toInt ≤ (S'.1 30).toInt) (fun S' => aw_G g S' ∧ (S.1 30).toInt + 0 ≤ (S'.1 30).toInt))) := by
  have hs : aw_sT s := aw_hy_sT hU.2.2
  intro N225
  induction N225 with
  | zero =>
    intro S151 lv152 x153 x154 x155 x156 x157 x158 x159 x160 hlv152_0 hlv152_1 hlv152_3 hlv152_4 hlv152_5 hlv152_6 hlv152_7 hlv152_8 hlv152_9 hI161 fr162 bx153 bx154 bx155 bx156 bx157 bx158 bx159 bx160 ck225 J225 b225 n225 c225 s225 o225 e225 r225 x225 hm225
    omega
  | succ N225 ihL225_149 =>
    intro S151 lv152 x153 x154 x155 x156 x157 x158 x159 x160 hlv152_0 hlv152_1 hlv152_3 hlv152_4 hlv152_5 hlv152_6 hlv152_7 hlv152_8 hlv152_9 hI161 fr162 bx153 bx154 bx155 bx156 bx157 bx158 bx159 bx160 ck225 J225 b225 n225 c225 s225 o225 e225 r225 x225 hm225
    have hI163 : aw_I s h (aw_sm S151) S151 := ⟨hI161.1, aw_sm_rf⟩
    have b164 : 0 ≤ (S151.1 30).toInt ∧ (S151.1 30).toInt ≤ 1001 := aw_bd_f hs (hI163).1 (by decide) rfl
    have hjx := hj
    rw [x225] at hjx
    obtain ⟨hj1, hj2, hj3⟩ := hjx
    have nwl : ∀ c : Nat, (c : Int) ≤ (S.2.2.1 15 ((x153.toInt).toNat + 1)).toInt → ar_nw S (x153.toInt).toNat c ≤ ar_nw S (x153.toInt).toNat ((S.2.2.1 15 ((x153.toInt).toNat + 1)).toInt).toNat := fun c hc => ar_nw_le (by omega)
    have nwc := nwl ((x156.toInt).toNat + 1) (by omega)
    refine aw_l0 aj_d276 rfl rfl hlv152_9 ?_
    refine aw_l2 aj_d276 rfl rfl hlv152_0 ?_
    refine aw_g hU.1 aj_d276 rfl rfl (by decide) (v := .ref 122) rfl ?_
    refine aw_l2 aj_d276 rfl rfl hlv152_0 ?_
    have b165 : 0 ≤ (S151.1 37).toInt ∧ (S151.1 37).toInt ≤ 1 := aw_bd_f hs (hI163).1 (by decide) rfl
    refine aw_g hU.1 aj_d276 rfl rfl (by decide) (v := .int (S151.1 37)) rfl ?_
    refine aw_ld (k := 5) hU.1 aj_d276 (Or.inl ⟨rfl, rfl⟩) rfl (by decide) (by decide) rfl (a := (S151.1 37).toInt) rfl (by omega) (by omega) (fun x166 ex166 => ?_)
    have bx166 : 0 ≤ x166.toInt ∧ x166.toInt ≤ 1024 := by
      rw [ex166]
      exact aw_bd_a hs (hI163).1 (k := 5) (by decide) (by decide) rfl (by decide) rfl (by omega)
    refine aw_c (tgt := 300) aj_d276 rfl rfl (fun q167 => ?_) (fun q167 => ?_)
    · have q167 : x160.toInt ≥ x166.toInt := aw_t_ge (a := x160.toInt) (b := x166.toInt) rfl rfl q167
      refine aw_l0 aj_d276 rfl rfl hlv152_6 ?_
      refine aw_z (tgt := 359) aj_d276 rfl rfl (fun q168 => ?_) (fun q168 => ?_)
      · have q168 : x157.toInt ≥ (0 : Int) := aw_t_ge (a := x157.toInt) (b := (0 : Int)) rfl rfl q168
        refine aw_inc aj_d276 rfl hlv152_7 (a := x158.toInt) rfl (by omega) (by omega) (by decide) (by decide) (fun x169 ex169 => ?_)
        obtain ⟨lv170, elv170⟩ : ∃ l, l = aj_set1 lv152 7 (.int x169) := ⟨_, rfl⟩
        rw [← elv170]
        have hlv170_0 : aj_lv lv170 0 = some (.ref 117) := cw_e1 elv170 hlv152_0 (by decide) (Or.inl (by decide))
        have hlv170_1 : aj_lv lv170 1 = some (.int x153) := cw_e1 elv170 hlv152_1 (by decide) (Or.inl (by decide))
        have hlv170_3 : aj_lv lv170 3 = some (.int x154) := cw_e1 elv170 hlv152_3 (by decide) (Or.inl (by decide))
        have hlv170_4 : aj_lv lv170 4 = some (.int x155) := cw_e1 elv170 hlv152_4 (by decide) (Or.inl (by decide))
        have hlv170_5 : aj_lv lv170 5 = some (.int x156) := cw_e1 elv170 hlv152_5 (by decide) (Or.inl (by decide))
        have hlv170_6 : aj_lv lv170 6 = some (.int x157) := cw_e1 elv170 hlv152_6 (by decide) (Or.inr rfl)
        have hlv170_7 : aj_lv lv170 7 = some (.int x169) := by rw [elv170]; exact ak_set1_eq _ _ _
        show aw_W _ _ _ _ 362 lv170 [] _ _
        refine aw_n aj_d276 rfl rfl ?_
        exact ihL199_114 S151 lv170 (x153) (x154) (x155) (x156) (x157) (x169) hlv170_0 hlv170_1 hlv170_3 hlv170_4 hlv170_5 hlv170_6 hlv170_7 ⟨(hI163).1, hI161.2⟩ fr162 (by omega) (by omega) (by omega) (by omega) (by omega) (by omega) (show _ ≤ ((S151.1 30)).toInt by omega) J225 (by omega) (by omega) (by omega) (by omega) (by omega) (by omega) (by omega)
      · have q168 : x157.toInt < (0 : Int) := aw_t_ge (a := x157.toInt) (b := (0 : Int)) rfl rfl q168
        refine aw_l2 aj_d276 rfl rfl hlv152_0 ?_
        refine aw_g hU.1 aj_d276 rfl rfl (by decide) (v := .ref 134) rfl ?_
        refine aw_n aj_d276 rfl rfl ?_
        refine aw_l0 aj_d276 rfl rfl hlv152_7 ?_
        refine aw_l0 aj_d276 rfl rfl hlv152_4 ?_
        refine aw_ks aj_d276 rfl rfl rfl [_, _, _] rfl rfl (Nat.le_of_ble_eq_true rfl) (ar_cellAt (by omega) (a := (49 : Int)) (b := x158.toInt) (c := x155.toInt) rfl rfl rfl (by omega) (by omega) (by omega)) ?_
        rintro _ zx171 ⟨fx171, x171, rfl, ex171⟩
        rw [fx171]
        show aw_W _ _ _ _ 318 lv152 [.int x171, .ref 134] _ _
        refine aw_l2 aj_d276 rfl rfl hlv152_0 ?_
        refine aw_g hU.1 aj_d276 rfl rfl (by decide) (v := .ref 134) rfl ?_
        refine aw_l0 aj_d276 rfl rfl hlv152_3 ?_
        refine aw_l0 aj_d276 rfl rfl hlv152_8 ?_
        refine aw_l0 aj_d276 rfl rfl hlv152_5 ?_
        refine aw_ks aj_d276 rfl rfl rfl [_, _, _] rfl rfl (Nat.le_of_ble_eq_true rfl) (ar_cellAt (by omega) (a := x154.toInt) (b := x159.toInt) (c := x156.toInt) rfl rfl rfl (by omega) (by omega) (by omega)) ?_
        rintro _ zx172 ⟨fx172, x172, rfl, ex172⟩
        rw [fx172]
        show aw_W _ _ _ _ 330 lv152 [.int x172, .ref 134, .int x171, .ref 134] _ _
        refine aw_ld (k := 17) hU.1 aj_d276 (Or.inr (Or.inr (Or.inr ⟨rfl, rfl⟩))) rfl (by decide) (by decide) rfl (a := ((x154.toInt * 30 + x159.toInt) * 8 + x156.toInt)) ex172 (by omega) (by omega) (fun x173 ex173 => ?_)
        have bx173 : 0 ≤ x173.toInt ∧ x173.toInt ≤ 1 := by
          rw [ex173]
          exact aw_bd_a hs (hI163).1 (k := 17) (by decide) (by decide) rfl (by decide) rfl (by omega)
        refine aw_st (k := 17) hU.1 aj_d276 (Or.inr (Or.inr (Or.inr ⟨rfl, rfl⟩))) rfl (by decide) (by decide) rfl (a := (((49 : Int) * 30 + x158.toInt) * 8 + x155.toInt)) ex171 (by omega) (by omega) ?_
        have hI174 : aw_I s h (aw_sm (aw_wa S151 17 ((((49 : Int) * 30 + x158.toInt) * 8 + x155.toInt)).toNat (aj_nar 4 x173))) (aw_wa S151 17 ((((49 : Int) * 30 + x158.toInt) * 8 + x155.toInt)).toNat (aj_nar 4 x173)) := ⟨aw_T_a hU.2.1 hs hU.1.1 (hI163).1 (by decide) (by decide) rfl (by decide) (by decide) rfl (aw_nar4 (aw_bp (a := x173.toInt) rfl (by omega) (by omega)) (by decide) (by decide)), aw_sm_rf⟩
        have fr175 := aw_fr_a (k := 17) (j := ((((49 : Int) * 30 + x158.toInt) * 8 + x155.toInt)).toNat) (v := aj_nar 4 x173) (by decide) fr162
        refine aw_l2 aj_d276 rfl rfl hlv152_0 ?_
        refine aw_g hU.1 aj_d276 rfl rfl (by decide) (v := .ref 135) rfl ?_
        refine aw_n aj_d276 rfl rfl ?_
        refine aw_l0 aj_d276 rfl rfl hlv152_7 ?_
        refine aw_l0 aj_d276 rfl rfl hlv152_4 ?_
        refine aw_ks aj_d276 rfl rfl rfl [_, _, _] rfl rfl (Nat.le_of_ble_eq_true rfl) (ar_cellAt (by omega) (a := (49 : Int)) (b := x158.toInt) (c := x155.toInt) rfl rfl rfl (by omega) (by omega) (by omega)) ?_
        rintro _ zx176 ⟨fx176, x176, rfl, ex176⟩
        rw [fx176]
        show aw_W _ _ _ _ 345 lv152 [.int x176, .ref 135] _ _
        refine aw_l2 aj_d276 rfl rfl hlv152_0 ?_
        refine aw_g hU.1 aj_d276 rfl rfl (by decide) (v := .ref 135) rfl ?_
        refine aw_l0 aj_d276 rfl rfl hlv152_3 ?_
        refine aw_l0 aj_d276 rfl rfl hlv152_8 ?_
        refine aw_l0 aj_d276 rfl rfl hlv152_5 ?_
        refine aw_ks aj_d276 rfl rfl rfl [_, _, _] rfl rfl (Nat.le_of_ble_eq_true rfl) (ar_cellAt (by omega) (a := x154.toInt) (b := x159.toInt) (c := x156.toInt) rfl rfl rfl (by omega) (by omega) (by omega)) ?_
        rintro _ zx177 ⟨fx177, x177, rfl, ex177⟩
        rw [fx177]
        show aw_W _ _ _ _ 357 lv152 [.int x177, .ref 135, .int x176, .ref 135] _ _
        refine aw_ld (k := 18) hU.1 aj_d276 (Or.inl ⟨rfl, rfl⟩) rfl (by decide) (by decide) rfl (a := ((x154.toInt * 30 + x159.toInt) * 8 + x156.toInt)) ex177 (by omega) (by omega) (fun x178 ex178 => ?_)
        refine aw_st (k := 18) hU.1 aj_d276 (Or.inl ⟨rfl, rfl⟩) rfl (by decide) (by decide) rfl (a := (((49 : Int) * 30 + x158.toInt) * 8 + x155.toInt)) ex176 (by omega) (by omega) ?_
        have hI179 : aw_I s h (aw_sm (aw_wa (aw_wa S151 17 ((((49 : Int) * 30 + x158.toInt) * 8 + x155.toInt)).toNat (aj_nar 4 x173)) 18 ((((49 : Int) * 30 + x158.toInt) * 8 + x155.toInt)).toNat (aj_nar 0 x178))) (aw_wa (aw_wa S151 17 ((((49 : Int) * 30 + x158.toInt) * 8 + x155.toInt)).toNat (aj_nar 4 x173)) 18 ((((49 : Int) * 30 + x158.toInt) * 8 + x155.toInt)).toNat (aj_nar 0 x178)) := ⟨aw_T_a hU.2.1 hs hU.1.1 (hI174).1 (by decide) (by decide) rfl (by decide) (by decide) rfl (aw_full _), aw_sm_rf⟩
        have fr180 := aw_fr_a (k := 18) (j := ((((49 : Int) * 30 + x158.toInt) * 8 + x155.toInt)).toNat) (v := aj_nar 0 x178) (by decide) fr175
        have hG181 := aw_G_sk (S' := (aw_wa (aw_wa S151 17 ((((49 : Int) * 30 + x158.toInt) * 8 + x155.toInt)).toNat (aj_nar 4 x173)) 18 ((((49 : Int) * 30 + x158.toInt) * 8 + x155.toInt)).toNat (aj_nar 0 x178))) hI161.2 (aw_sk_2 aw_sk_rf) (aw_kv_2 (aw_G_B hI161.2).1 (by first | rfl | (congr 1) | omega) (by
            rw [aw_nar4_01 (by omega)]
            intro z
            have y := (aw_G_B hI161.2).1 (((x154.toInt * 30 + x159.toInt) * 8 + x156.toInt)).toNat (by omega) (by rw [ex173] at z; exact z)
            have hx : (((x154.toInt * 30 + x159.toInt) * 8 + x156.toInt)).toNat = (((x154.toInt * 30 + x159.toInt) * 8 + x156.toInt)).toNat := by omega
            show 0 ≤ (x178).toInt ∧ (x178).toInt ≤ 7
            rw [ex178]
            show 0 ≤ (S151.2.2.1 18 (((x154.toInt * 30 + x159.toInt) * 8 + x156.toInt)).toNat).toInt ∧ (S151.2.2.1 18 (((x154.toInt * 30 + x159.toInt) * 8 + x156.toInt)).toNat).toInt ≤ 7
            rw [hx]
            exact y))
        have hI182 : aw_I s h (aw_sm (aw_wa (aw_wa S151 17 ((((49 : Int) * 30 + x158.toInt) * 8 + x155.toInt)).toNat (aj_nar 4 x173)) 18 ((((49 : Int) * 30 + x158.toInt) * 8 + x155.toInt)).toNat (aj_nar 0 x178))) (aw_wa (aw_wa S151 17 ((((49 : Int) * 30 + x158.toInt) * 8 + x155.toInt)).toNat (aj_nar 4 x173)) 18 ((((49 : Int) * 30 + x158.toInt) * 8 + x155.toInt)).toNat (aj_nar 0 x178)) := ⟨(hI179).1, aw_sm_rf⟩
        refine aw_inc aj_d276 rfl hlv152_7 (a := x158.toInt) rfl (by omega) (by omega) (by decide) (by decide) (fun x183 ex183 => ?_)
        obtain ⟨lv184, elv184⟩ : ∃ l, l = aj_set1 lv152 7 (.int x183) := ⟨_, rfl⟩
        rw [← elv184]
        have hlv184_0 : aj_lv lv184 0 = some (.ref 117) := cw_e1 elv184 hlv152_0 (by decide) (Or.inl (by decide))
        have hlv184_1 : aj_lv lv184 1 = some (.int x153) := cw_e1 elv184 hlv152_1 (by decide) (Or.inl (by decide))
        have hlv184_3 : aj_lv lv184 3 = some (.int x154) := cw_e1 elv184 hlv152_3 (by decide) (Or.inl (by decide))
        have hlv184_4 : aj_lv lv184 4 = some (.int x155) := cw_e1 elv184 hlv152_4 (by decide) (Or.inl (by decide))
        have hlv184_5 : aj_lv lv184 5 = some (.int x156) := cw_e1 elv184 hlv152_5 (by decide) (Or.inl (by decide))
        have hlv184_6 : aj_lv lv184 6 = some (.int x157) := cw_e1 elv184 hlv152_6 (by decide) (Or.inr rfl)
        have hlv184_7 : aj_lv lv184 7 = some (.int x183) := by rw [elv184]; exact ak_set1_eq _ _ _
        show aw_W _ _ _ _ 362 lv184 [] _ _
        refine aw_n aj_d276 rfl rfl ?_
        exact ihL199_114 (aw_wa (aw_wa S151 17 ((((49 : Int) * 30 + x158.toInt) * 8 + x155.toInt)).toNat (aj_nar 4 x173)) 18 ((((49 : Int) * 30 + x158.toInt) * 8 + x155.toInt)).toNat (aj_nar 0 x178)) lv184 (x153) (x154) (x155) (x156) (x157) (x183) hlv184_0 hlv184_1 hlv184_3 hlv184_4 hlv184_5 hlv184_6 hlv184_7 ⟨(hI182).1, hG181⟩ fr180 (by omega) (by omega) (by omega) (by omega) (by omega) (by omega) (show _ ≤ ((S151.1 30)).toInt by omega) (ar_J_eq rfl rfl rfl J225) (by omega) (by omega) (by omega) (by omega) (by omega) (by omega) (by omega)
    · have q167 : x160.toInt < x166.toInt := aw_t_ge (a := x160.toInt) (b := x166.toInt) rfl rfl q167
      refine aw_l0 aj_d276 rfl rfl hlv152_6 ?_
      refine aw_z (tgt := 300) aj_d276 rfl rfl (fun q185 => ?_) (fun q185 => ?_)
      · have q185 : x157.toInt < (0 : Int) := aw_t_lt (a := x157.toInt) (b := (0 : Int)) rfl rfl q185
        refine aw_l0 aj_d276 rfl rfl hlv152_6 ?_
        refine aw_z (tgt := 359) aj_d276 rfl rfl (fun q186 => ?_) (fun q186 => ?_)
        · have q186 : x157.toInt ≥ (0 : Int) := aw_t_ge (a := x157.toInt) (b := (0 : Int)) rfl rfl q186
          refine aw_inc aj_d276 rfl hlv152_7 (a := x158.toInt) rfl (by omega) (by omega) (by decide) (by decide) (fun x187 ex187 => ?_)
          obtain ⟨lv188, elv188⟩ : ∃ l, l = aj_set1 lv152 7 (.int x187) := ⟨_, rfl⟩
          rw [← elv188]
          have hlv188_0 : aj_lv lv188 0 = some (.ref 117) := cw_e1 elv188 hlv152_0 (by decide) (Or.inl (by decide))
          have hlv188_1 : aj_lv lv188 1 = some (.int x153) := cw_e1 elv188 hlv152_1 (by decide) (Or.inl (by decide))
          have hlv188_3 : aj_lv lv188 3 = some (.int x154) := cw_e1 elv188 hlv152_3 (by decide) (Or.inl (by decide))
          have hlv188_4 : aj_lv lv188 4 = some (.int x155) := cw_e1 elv188 hlv152_4 (by decide) (Or.inl (by decide))
          have hlv188_5 : aj_lv lv188 5 = some (.int x156) := cw_e1 elv188 hlv152_5 (by decide) (Or.inl (by decide))
          have hlv188_6 : aj_lv lv188 6 = some (.int x157) := cw_e1 elv188 hlv152_6 (by decide) (Or.inr rfl)
          have hlv188_7 : aj_lv lv188 7 = some (.int x187) := by rw [elv188]; exact ak_set1_eq _ _ _
          show aw_W _ _ _ _ 362 lv188 [] _ _
          refine aw_n aj_d276 rfl rfl ?_
          exact ihL199_114 S151 lv188 (x153) (x154) (x155) (x156) (x157) (x187) hlv188_0 hlv188_1 hlv188_3 hlv188_4 hlv188_5 hlv188_6 hlv188_7 ⟨(hI163).1, hI161.2⟩ fr162 (by omega) (by omega) (by omega) (by omega) (by omega) (by omega) (show _ ≤ ((S151.1 30)).toInt by omega) J225 (by omega) (by omega) (by omega) (by omega) (by omega) (by omega) (by omega)
        · have q186 : x157.toInt < (0 : Int) := aw_t_ge (a := x157.toInt) (b := (0 : Int)) rfl rfl q186
          refine aw_l2 aj_d276 rfl rfl hlv152_0 ?_
          refine aw_g hU.1 aj_d276 rfl rfl (by decide) (v := .ref 134) rfl ?_
          refine aw_n aj_d276 rfl rfl ?_
          refine aw_l0 aj_d276 rfl rfl hlv152_7 ?_
          refine aw_l0 aj_d276 rfl rfl hlv152_4 ?_
          refine aw_ks aj_d276 rfl rfl rfl [_, _, _] rfl rfl (Nat.le_of_ble_eq_true rfl) (ar_cellAt (by omega) (a := (49 : Int)) (b := x158.toInt) (c := x155.toInt) rfl rfl rfl (by omega) (by omega) (by omega)) ?_
          rintro _ zx189 ⟨fx189, x189, rfl, ex189⟩
          rw [fx189]
          show aw_W _ _ _ _ 318 lv152 [.int x189, .ref 134] _ _
          refine aw_l2 aj_d276 rfl rfl hlv152_0 ?_
          refine aw_g hU.1 aj_d276 rfl rfl (by decide) (v := .ref 134) rfl ?_
          refine aw_l0 aj_d276 rfl rfl hlv152_3 ?_
          refine aw_l0 aj_d276 rfl rfl hlv152_8 ?_
          refine aw_l0 aj_d276 rfl rfl hlv152_5 ?_
          refine aw_ks aj_d276 rfl rfl rfl [_, _, _] rfl rfl (Nat.le_of_ble_eq_true rfl) (ar_cellAt (by omega) (a := x154.toInt) (b := x159.toInt) (c := x156.toInt) rfl rfl rfl (by omega) (by omega) (by omega)) ?_
          rintro _ zx190 ⟨fx190, x190, rfl, ex190⟩
          rw [fx190]
          show aw_W _ _ _ _ 330 lv152 [.int x190, .ref 134, .int x189, .ref 134] _ _
          refine aw_ld (k := 17) hU.1 aj_d276 (Or.inr (Or.inr (Or.inr ⟨rfl, rfl⟩))) rfl (by decide) (by decide) rfl (a := ((x154.toInt * 30 + x159.toInt) * 8 + x156.toInt)) ex190 (by omega) (by omega) (fun x191 ex191 => ?_)
          have bx191 : 0 ≤ x191.toInt ∧ x191.toInt ≤ 1 := by
            rw [ex191]
            exact aw_bd_a hs (hI163).1 (k := 17) (by decide) (by decide) rfl (by decide) rfl (by omega)
          refine aw_st (k := 17) hU.1 aj_d276 (Or.inr (Or.inr (Or.inr ⟨rfl, rfl⟩))) rfl (by decide) (by decide) rfl (a := (((49 : Int) * 30 + x158.toInt) * 8 + x155.toInt)) ex189 (by omega) (by omega) ?_
          have hI192 : aw_I s h (aw_sm (aw_wa S151 17 ((((49 : Int) * 30 + x158.toInt) * 8 + x155.toInt)).toNat (aj_nar 4 x191))) (aw_wa S151 17 ((((49 : Int) * 30 + x158.toInt) * 8 + x155.toInt)).toNat (aj_nar 4 x191)) := ⟨aw_T_a hU.2.1 hs hU.1.1 (hI163).1 (by decide) (by decide) rfl (by decide) (by decide) rfl (aw_nar4 (aw_bp (a := x191.toInt) rfl (by omega) (by omega)) (by decide) (by decide)), aw_sm_rf⟩
          have fr193 := aw_fr_a (k := 17) (j := ((((49 : Int) * 30 + x158.toInt) * 8 + x155.toInt)).toNat) (v := aj_nar 4 x191) (by decide) fr162
          refine aw_l2 aj_d276 rfl rfl hlv152_0 ?_
          refine aw_g hU.1 aj_d276 rfl rfl (by decide) (v := .ref 135) rfl ?_
          refine aw_n aj_d276 rfl rfl ?_
          refine aw_l0 aj_d276 rfl rfl hlv152_7 ?_
          refine aw_l0 aj_d276 rfl rfl hlv152_4 ?_
          refine aw_ks aj_d276 rfl rfl rfl [_, _, _] rfl rfl (Nat.le_of_ble_eq_true rfl) (ar_cellAt (by omega) (a := (49 : Int)) (b := x158.toInt) (c := x155.toInt) rfl rfl rfl (by omega) (by omega) (by omega)) ?_
          rintro _ zx194 ⟨fx194, x194, rfl, ex194⟩
          rw [fx194]
          show aw_W _ _ _ _ 345 lv152 [.int x194, .ref 135] _ _
          refine aw_l2 aj_d276 rfl rfl hlv152_0 ?_
          refine aw_g hU.1 aj_d276 rfl rfl (by decide) (v := .ref 135) rfl ?_
          refine aw_l0 aj_d276 rfl rfl hlv152_3 ?_
          refine aw_l0 aj_d276 rfl rfl hlv152_8 ?_
          refine aw_l0 aj_d276 rfl rfl hlv152_5 ?_
          refine aw_ks aj_d276 rfl rfl rfl [_, _, _] rfl rfl (Nat.le_of_ble_eq_true rfl) (ar_cellAt (by omega) (a := x154.toInt) (b := x159.toInt) (c := x156.toInt) rfl rfl rfl (by omega) (by omega) (by omega)) ?_
          rintro _ zx195 ⟨fx195, x195, rfl, ex195⟩
          rw [fx195]
          show aw_W _ _ _ _ 357 lv152 [.int x195, .ref 135, .int x194, .ref 135] _ _
          refine aw_ld (k := 18) hU.1 aj_d276 (Or.inl ⟨rfl, rfl⟩) rfl (by decide) (by decide) rfl (a := ((x154.toInt * 30 + x159.toInt) * 8 + x156.toInt)) ex195 (by omega) (by omega) (fun x196 ex196 => ?_)
          refine aw_st (k := 18) hU.1 aj_d276 (Or.inl ⟨rfl, rfl⟩) rfl (by decide) (by decide) rfl (a := (((49 : Int) * 30 + x158.toInt) * 8 + x155.toInt)) ex194 (by omega) (by omega) ?_
          have hI197 : aw_I s h (aw_sm (aw_wa (aw_wa S151 17 ((((49 : Int) * 30 + x158.toInt) * 8 + x155.toInt)).toNat (aj_nar 4 x191)) 18 ((((49 : Int) * 30 + x158.toInt) * 8 + x155.toInt)).toNat (aj_nar 0 x196))) (aw_wa (aw_wa S151 17 ((((49 : Int) * 30 + x158.toInt) * 8 + x155.toInt)).toNat (aj_nar 4 x191)) 18 ((((49 : Int) * 30 + x158.toInt) * 8 + x155.toInt)).toNat (aj_nar 0 x196)) := ⟨aw_T_a hU.2.1 hs hU.1.1 (hI192).1 (by decide) (by decide) rfl (by decide) (by decide) rfl (aw_full _), aw_sm_rf⟩
          have fr198 := aw_fr_a (k := 18) (j := ((((49 : Int) * 30 + x158.toInt) * 8 + x155.toInt)).toNat) (v := aj_nar 0 x196) (by decide) fr193
          have hG199 := aw_G_sk (S' := (aw_wa (aw_wa S151 17 ((((49 : Int) * 30 + x158.toInt) * 8 + x155.toInt)).toNat (aj_nar 4 x191)) 18 ((((49 : Int) * 30 + x158.toInt) * 8 + x155.toInt)).toNat (aj_nar 0 x196))) hI161.2 (aw_sk_2 aw_sk_rf) (aw_kv_2 (aw_G_B hI161.2).1 (by first | rfl | (congr 1) | omega) (by
              rw [aw_nar4_01 (by omega)]
              intro z
              have y := (aw_G_B hI161.2).1 (((x154.toInt * 30 + x159.toInt) * 8 + x156.toInt)).toNat (by omega) (by rw [ex191] at z; exact z)
              have hx : (((x154.toInt * 30 + x159.toInt) * 8 + x156.toInt)).toNat = (((x154.toInt * 30 + x159.toInt) * 8 + x156.toInt)).toNat := by omega
              show 0 ≤ (x196).toInt ∧ (x196).toInt ≤ 7
              rw [ex196]
              show 0 ≤ (S151.2.2.1 18 (((x154.toInt * 30 + x159.toInt) * 8 + x156.toInt)).toNat).toInt ∧ (S151.2.2.1 18 (((x154.toInt * 30 + x159.toInt) * 8 + x156.toInt)).toNat).toInt ≤ 7
              rw [hx]
              exact y))
          have hI200 : aw_I s h (aw_sm (aw_wa (aw_wa S151 17 ((((49 : Int) * 30 + x158.toInt) * 8 + x155.toInt)).toNat (aj_nar 4 x191)) 18 ((((49 : Int) * 30 + x158.toInt) * 8 + x155.toInt)).toNat (aj_nar 0 x196))) (aw_wa (aw_wa S151 17 ((((49 : Int) * 30 + x158.toInt) * 8 + x155.toInt)).toNat (aj_nar 4 x191)) 18 ((((49 : Int) * 30 + x158.toInt) * 8 + x155.toInt)).toNat (aj_nar 0 x196)) := ⟨(hI197).1, aw_sm_rf⟩
          refine aw_inc aj_d276 rfl hlv152_7 (a := x158.toInt) rfl (by omega) (by omega) (by decide) (by decide) (fun x201 ex201 => ?_)
          obtain ⟨lv202, elv202⟩ : ∃ l, l = aj_set1 lv152 7 (.int x201) := ⟨_, rfl⟩
          rw [← elv202]
          have hlv202_0 : aj_lv lv202 0 = some (.ref 117) := cw_e1 elv202 hlv152_0 (by decide) (Or.inl (by decide))
          have hlv202_1 : aj_lv lv202 1 = some (.int x153) := cw_e1 elv202 hlv152_1 (by decide) (Or.inl (by decide))
          have hlv202_3 : aj_lv lv202 3 = some (.int x154) := cw_e1 elv202 hlv152_3 (by decide) (Or.inl (by decide))
          have hlv202_4 : aj_lv lv202 4 = some (.int x155) := cw_e1 elv202 hlv152_4 (by decide) (Or.inl (by decide))
          have hlv202_5 : aj_lv lv202 5 = some (.int x156) := cw_e1 elv202 hlv152_5 (by decide) (Or.inl (by decide))
          have hlv202_6 : aj_lv lv202 6 = some (.int x157) := cw_e1 elv202 hlv152_6 (by decide) (Or.inr rfl)
          have hlv202_7 : aj_lv lv202 7 = some (.int x201) := by rw [elv202]; exact ak_set1_eq _ _ _
          show aw_W _ _ _ _ 362 lv202 [] _ _
          refine aw_n aj_d276 rfl rfl ?_
          exact ihL199_114 (aw_wa (aw_wa S151 17 ((((49 : Int) * 30 + x158.toInt) * 8 + x155.toInt)).toNat (aj_nar 4 x191)) 18 ((((49 : Int) * 30 + x158.toInt) * 8 + x155.toInt)).toNat (aj_nar 0 x196)) lv202 (x153) (x154) (x155) (x156) (x157) (x201) hlv202_0 hlv202_1 hlv202_3 hlv202_4 hlv202_5 hlv202_6 hlv202_7 ⟨(hI200).1, hG199⟩ fr198 (by omega) (by omega) (by omega) (by omega) (by omega) (by omega) (show _ ≤ ((S151.1 30)).toInt by omega) (ar_J_eq rfl rfl rfl J225) (by omega) (by omega) (by omega) (by omega) (by omega) (by omega) (by omega)
      · have q185 : x157.toInt ≥ (0 : Int) := aw_t_lt (a := x157.toInt) (b := (0 : Int)) rfl rfl q185
        refine aw_l2 aj_d276 rfl rfl hlv152_0 ?_
        refine aw_l0 aj_d276 rfl rfl hlv152_1 ?_
        refine aw_l0 aj_d276 rfl rfl hlv152_7 ?_
        refine aw_l2 aj_d276 rfl rfl hlv152_0 ?_
        refine aw_g hU.1 aj_d276 rfl rfl (by decide) (v := .ref 131) rfl ?_
        refine aw_l0 aj_d276 rfl rfl hlv152_3 ?_
        have ib203 : (x154.toInt).toNat = (x153.toInt).toNat + 1 := by omega
        refine aw_ld (k := 14) hU.1 aj_d276 (Or.inl ⟨rfl, rfl⟩) rfl (by decide) (by decide) rfl (a := x154.toInt) rfl (by omega) (by omega) (fun x204 ex204 => ?_)
        have bx204 : 0 ≤ x204.toInt ∧ x204.toInt ≤ 30 := by
          rw [ex204]
          exact aw_bd_a hs (hI163).1 (k := 14) (by decide) (by decide) rfl (by decide) rfl (by omega)
        have ftx204 : x204.toInt = (S151.2.2.1 14 (x154.toInt).toNat).toInt := congrArg Int32.toInt (ex204.trans (congrFun rfl _))
        rw [ib203] at ftx204
        have jb := J225.2
        refine aw_div aj_d276 rfl (a := x158.toInt) (b := x204.toInt) rfl rfl (by omega) (by omega) (fun x205 ex205 => ?_)
        have dvx205 := ar_div (a := x158.toInt) (b := x204.toInt) (by omega) (by omega)
        rw [← ex205] at dvx205
        refine aw_l0 aj_d276 rfl rfl hlv152_6 ?_
        refine aw_l0 aj_d276 rfl rfl hlv152_9 ?_
        refine aw_k hU.1 aj_d276 rfl rfl [_, _, _, _] rfl rfl rfl (Nat.le_of_ble_eq_true rfl) (ar_valueAt hU (hI163).1 (aw_G_B hI161.2).1 (by omega) (t := x153) (r := x205) (c := x157) (x := x160) (by omega) (by omega) (by omega) (by omega) (by omega)) ?_
        rintro _ zb206 ⟨fb206, b206, rfl⟩
        rw [fb206]
        show aw_W _ _ _ _ 262 lv152 [.int b206] _ _
        refine aw_l2 aj_d276 rfl rfl hlv152_0 ?_
        refine aw_l0 aj_d276 rfl rfl hlv152_3 ?_
        refine aw_l0 aj_d276 rfl rfl hlv152_8 ?_
        refine aw_l0 aj_d276 rfl rfl hlv152_5 ?_
        refine aw_l0 aj_d276 rfl rfl hlv152_9 ?_
        refine aw_k hU.1 aj_d276 rfl rfl [_, _, _, _] rfl rfl rfl (Nat.le_of_ble_eq_true rfl) (ar_valueAt hU (hI163).1 (aw_G_B hI161.2).1 (by omega) (t := x154) (r := x159) (c := x156) (x := x160) (by omega) (by omega) (by omega) (by omega) (by omega)) ?_
        rintro _ zb207 ⟨fb207, b207, rfl⟩
        rw [fb207]
        show aw_W _ _ _ _ 273 lv152 [.int b207, .int b206] _ _
        refine aw_c (tgt := 294) aj_d276 rfl rfl (fun q208 => ?_) (fun q208 => ?_)
        · have q208 : b206.toInt = b207.toInt := aw_t_eq (a := b206.toInt) (b := b207.toInt) rfl rfl q208
          refine aw_inc aj_d276 rfl hlv152_9 (a := x160.toInt) rfl (by omega) (by omega) (by decide) (by decide) (fun x209 ex209 => ?_)
          obtain ⟨lv210, elv210⟩ : ∃ l, l = aj_set1 lv152 9 (.int x209) := ⟨_, rfl⟩
          rw [← elv210]
          have hlv210_0 : aj_lv lv210 0 = some (.ref 117) := cw_e1 elv210 hlv152_0 (by decide) (Or.inl (by decide))
          have hlv210_1 : aj_lv lv210 1 = some (.int x153) := cw_e1 elv210 hlv152_1 (by decide) (Or.inl (by decide))
          have hlv210_3 : aj_lv lv210 3 = some (.int x154) := cw_e1 elv210 hlv152_3 (by decide) (Or.inl (by decide))
          have hlv210_4 : aj_lv lv210 4 = some (.int x155) := cw_e1 elv210 hlv152_4 (by decide) (Or.inl (by decide))
          have hlv210_5 : aj_lv lv210 5 = some (.int x156) := cw_e1 elv210 hlv152_5 (by decide) (Or.inl (by decide))
          have hlv210_6 : aj_lv lv210 6 = some (.int x157) := cw_e1 elv210 hlv152_6 (by decide) (Or.inl (by decide))
          have hlv210_7 : aj_lv lv210 7 = some (.int x158) := cw_e1 elv210 hlv152_7 (by decide) (Or.inl (by decide))
          have hlv210_8 : aj_lv lv210 8 = some (.int x159) := cw_e1 elv210 hlv152_8 (by decide) (Or.inr rfl)
          have hlv210_9 : aj_lv lv210 9 = some (.int x209) := by rw [elv210]; exact ak_set1_eq _ _ _
          show aw_W _ _ _ _ 297 lv210 [] _ _
          refine aw_n aj_d276 rfl rfl ?_
          exact ihL225_149 S151 lv210 (x153) (x154) (x155) (x156) (x157) (x158) (x159) (x209) hlv210_0 hlv210_1 hlv210_3 hlv210_4 hlv210_5 hlv210_6 hlv210_7 hlv210_8 hlv210_9 ⟨(hI163).1, hI161.2⟩ fr162 (by omega) (by omega) (by omega) (by omega) (by omega) (by omega) (by omega) (by omega) (show _ ≤ ((S151.1 30)).toInt by omega) J225 (by omega) (by omega) (by omega) (by omega) (by omega) (by omega) (by rw [show (S151.2.2.1 14) = S151.2.2.1 14 from rfl]; omega) (by omega) (by omega)
        · have q208 : b206.toInt ≠ b207.toInt := aw_t_eq (a := b206.toInt) (b := b207.toInt) rfl rfl q208
          refine aw_l2 aj_d276 rfl rfl hlv152_0 ?_
          refine aw_g hU.1 aj_d276 rfl rfl (by decide) (v := .ref 136) rfl ?_
          refine aw_l2 aj_d276 rfl rfl hlv152_0 ?_
          refine aw_n aj_d276 rfl rfl ?_
          refine aw_l0 aj_d276 rfl rfl hlv152_7 ?_
          refine aw_k hU.1 aj_d276 rfl rfl [_, _] rfl rfl rfl (Nat.le_of_ble_eq_true rfl) (ar_at (by omega) (a := (49 : Int)) (b := x158.toInt) rfl rfl (by omega) (by omega)) ?_
          rintro _ zx211 ⟨fx211, x211, rfl, ex211⟩
          rw [fx211]
          show aw_W _ _ _ _ 288 lv152 [.int x211, .ref 136] _ _
          refine aw_l0 aj_d276 rfl rfl hlv152_9 ?_
          refine aw_n aj_d276 rfl rfl ?_
          refine aw_ks aj_d276 rfl rfl rfl [_, _, _, _] rfl rfl (Nat.le_of_ble_eq_true rfl) (ar_put hU (hI163).1 (by omega) (k := 19) (n := 48000) (by decide) (by decide) rfl rfl (a := (((49 : Int) * 30 + x158.toInt) * 32)) (b := x160.toInt) ex211 rfl (by omega) (by omega) (by omega) (by decide)) ?_
          rintro _ S212 ⟨hT212, fc212, rfl, pe212⟩
          have fr213 := aw_fr_tr fr162 (aw_fr_sub (F := []) (A := [19]) (by decide) (by decide) fc212)
          have hI214 : aw_I s h (aw_sm S151) S212 := ⟨hT212, aw_sm_tr hI163.2 (aw_fr_sm (by decide) (by decide) (by decide) (F := []) (A := [19]) fc212)⟩
          show aw_W _ _ _ _ 294 lv152 [] _ _
          refine aw_inc aj_d276 rfl hlv152_9 (a := x160.toInt) rfl (by omega) (by omega) (by decide) (by decide) (fun x215 ex215 => ?_)
          obtain ⟨lv216, elv216⟩ : ∃ l, l = aj_set1 lv152 9 (.int x215) := ⟨_, rfl⟩
          rw [← elv216]
          have hlv216_0 : aj_lv lv216 0 = some (.ref 117) := cw_e1 elv216 hlv152_0 (by decide) (Or.inl (by decide))
          have hlv216_1 : aj_lv lv216 1 = some (.int x153) := cw_e1 elv216 hlv152_1 (by decide) (Or.inl (by decide))
          have hlv216_3 : aj_lv lv216 3 = some (.int x154) := cw_e1 elv216 hlv152_3 (by decide) (Or.inl (by decide))
          have hlv216_4 : aj_lv lv216 4 = some (.int x155) := cw_e1 elv216 hlv152_4 (by decide) (Or.inl (by decide))
          have hlv216_5 : aj_lv lv216 5 = some (.int x156) := cw_e1 elv216 hlv152_5 (by decide) (Or.inl (by decide))
          have hlv216_6 : aj_lv lv216 6 = some (.int x157) := cw_e1 elv216 hlv152_6 (by decide) (Or.inl (by decide))
          have hlv216_7 : aj_lv lv216 7 = some (.int x158) := cw_e1 elv216 hlv152_7 (by decide) (Or.inl (by decide))
          have hlv216_8 : aj_lv lv216 8 = some (.int x159) := cw_e1 elv216 hlv152_8 (by decide) (Or.inr rfl)
          have hlv216_9 : aj_lv lv216 9 = some (.int x215) := by rw [elv216]; exact ak_set1_eq _ _ _
          show aw_W _ _ _ _ 297 lv216 [] _ _
          refine aw_n aj_d276 rfl rfl ?_
          have c217 : (S212.1 30).toInt = (S151.1 30).toInt := (congrArg Int32.toInt (fc212.1 30 (by decide)).1).trans rfl
          have b218 : 0 ≤ (S212.1 30).toInt ∧ (S212.1 30).toInt ≤ 1001 := aw_bd_f hs (hI214).1 (by decide) rfl
          exact ihL225_149 S212 lv216 (x153) (x154) (x155) (x156) (x157) (x158) (x159) (x215) hlv216_0 hlv216_1 hlv216_3 hlv216_4 hlv216_5 hlv216_6 hlv216_7 hlv216_8 hlv216_9 ⟨(hI214).1, (aw_G_sm hI214.2 hI161.2)⟩ fr213 (by omega) (by omega) (by omega) (by omega) (by omega) (by omega) (by omega) (by omega) (show _ ≤ ((S212.1 30)).toInt by omega) (ar_J_eq ((fc212.2 14 (by decide)).1.trans rfl) ((fc212.2 15 (by decide)).1.trans rfl) ((fc212.2 16 (by decide)).2.trans rfl) J225) (by omega) (by omega) (by omega) (by omega) (by omega) (by omega) (by rw [show (S212.2.2.1 14) = S151.2.2.1 14 from ((fc212.2 14 (by decide)).1.trans rfl)]; omega) (by omega) (by omega)
theorem ar_join_L199_114 (hU : aw_U tb s h) (hd : 4 ≤ d + 1) (x0 : Nat) (hj : ar_JP S x0) (N88 : Nat) (S18 : aj_S) (x20 : Int32) (x21 : Int32) (x22 : Int32) (x23 : Int32) (ihL88_16 : ∀ (S18 : aj_S) (lv19 : aj_V) (x20 : Int32) (x21 : Int32) (x22 : Int32) (x23 : Int32), (aj_lv lv19 0 = some (.ref 117)) → (aj_lv lv19 1 = some (.int x20)) → (aj_lv lv19 3 = some (.int x21)) → (aj_lv lv19 4 = some (.int x22)) → (aj_lv lv19 5 = some (.int x23)) → (aw_I s h (aw_G g) S18) → (aw_fr [24, 25, 31] [14, 15, 16, 17, 18, 19] S S18) → (20 ≤ x20.toInt ∧ x20.toInt ≤ 47) → (21 ≤ x21.toInt ∧ x21.toInt ≤ 48) → (0 ≤ x22.toInt ∧ x22.toInt ≤ 6) → (0 ≤ x23.toInt ∧ x23.toInt ≤ 6) → ((S.1 30).toInt + 0 ≤ (S18.1 30).toInt) → (ar_J S S18 (x20.toInt).toNat) → (x21.toInt = x20.toInt + 1) → (x22.toInt = (S.2.2.1 15 (x20.toInt).toNat).toInt) → (x0 = (x20.toInt).toNat) → (6 - x23.toInt).toNat < N88 → aw_W tb h d aj_m276 88 lv19 [] S18 ((ar_QB s h [24, 25, 31] [14, 15, 16, 17, 18, 19] S (fun S' => aw_G g S' ∧ (S.1 30).toInt ≤ (S'.1 30).toInt) (fun S' => aw_G g S' ∧ (S.1 30).toInt + 0 ≤ (S'.1 30).toInt)))) (hm88 : (6 - x23.toInt).toNat < N88 + 1) (N127 : Nat) (S31 : aj_S) (x33 : Int32) (x34 : Int32) (x35 : Int32) (x36 : Int32) (ihL127_29 : ∀ (S31 : aj_S) (lv32 : aj_V) (x33 : Int32) (x34 : Int32) (x35 : Int32) (x36 : Int32), (aj_lv lv32 0 = some (.ref 117)) → (aj_lv lv32 1 = some (.int x33)) → (aj_lv lv32 3 = some (.int x34)) → (aj_lv lv32 4 = some (.int x35)) → (aj_lv lv32 5 = some (.int x36)) → (aw_I s h (aw_G g) S31) → (aw_fr [24, 25, 31] [14, 15, 16, 17, 18, 19] S S31) → (20 ≤ x33.toInt ∧ x33.toInt ≤ 47) → (21 ≤ x34.toInt ∧ x34.toInt ≤ 48) → (0 ≤ x35.toInt ∧ x35.toInt ≤ 6) → (0 ≤ x36.toInt ∧ x36.toInt ≤ 30) → ((S.1 30).toInt + 0 ≤ (S31.1 30).toInt) → (ar_J S S31 (x33.toInt).toNat) → (x34.toInt = x33.toInt + 1) → (x35.toInt = (S.2.2.1 15 (x33.toInt).toNat).toInt) → (x0 = (x33.toInt).toNat) → (30 - x36.toInt).toNat < N127 → aw_W tb h d aj_m276 127 lv32 [] S31 ((ar_QB s h [24, 25, 31] [14, 15, 16, 17, 18, 19] S (fun S' => aw_G g S' ∧ (S.1 30).toInt ≤ (S'.1 30).toInt) (fun S' => aw_G g S' ∧ (S.1 30).toInt + 0 ≤ (S'.1 30).toInt)))) (hm127 : (30 - x36.toInt).toNat < N127 + 1) (N166 : Nat) (S45 : aj_S) (x47 : Int32) (x48 : Int32) (x49 : Int32) (x50 : Int32) (ihL166_43 : ∀ (S45 : aj_S) (lv46 : aj_V) (x47 : Int32) (x48 : Int32) (x49 : Int32) (x50 : Int32), (aj_lv lv46 0 = some (.ref 117)) → (aj_lv lv46 1 = some (.int x47)) → (aj_lv lv46 3 = some (.int x48)) → (aj_lv lv46 4 = some (.int x49)) → (aj_lv lv46 5 = some (.int x50)) → (aw_I s h (aw_G g) S45) → (aw_fr [24, 25, 31] [14, 15, 16, 17, 18, 19] S S45) → (20 ≤ x47.toInt ∧ x47.toInt ≤ 47) → (21 ≤ x48.toInt ∧ x48.toInt ≤ 48) → (0 ≤ x49.toInt ∧ x49.toInt ≤ 6) → (0 ≤ x50.toInt ∧ x50.toInt ≤ 6) → ((S.1 30).toInt + 0 ≤ (S45.1 30).toInt) → (ar_J S S45 (x47.toInt).toNat) → (x48.toInt = x47.toInt + 1) → (x49.toInt = (S.2.2.1 15 (x47.toInt).toNat).toInt + ar_nw S (x47.toInt).toNat (x50.toInt).toNat) → (x50.toInt ≤ (S.2.2.1 15 ((x47.toInt).toNat + 1)).toInt) → (x0 = (x47.toInt).toNat) → (6 - x50.toInt).toNat < N166 → aw_W tb h d aj_m276 166 lv46 [] S45 ((ar_QB s h [24, 25, 31] [14, 15, 16, 17, 18, 19] S (fun S' => aw_G g S' ∧ (S.1 30).toInt ≤ (S'.1 30).toInt) (fun S' => aw_G g S' ∧ (S.1 30).toInt + 0 ≤ (S'.1 30).toInt)))) (hm166 : (6 - x50.toInt).toNat < N166 + 1) : ∀ (N : Nat) (S116 : aj_S) (lv117 : aj_V) (x118 : Int32) (x119 : Int32) (x120 : Int32) (x121 : Int32) (x122 : Int32) (x123 : Int32), (aj_lv lv117 0 = some (.ref 117)) → (aj_lv lv117 1 = some (.int x118)) → (aj_lv lv117 3 = some (.int x119)) → (aj_lv lv117 4 = some (.int x120)) → (aj_lv lv117 5 = some (.int x121)) → (aj_lv lv117 6 = some (.int x122)) → (aj_lv lv117 7 = some (.int x123)) → (aw_I s h (aw_G g) S116) → (aw_fr [24, 25, 31] [14, 15, 16, 17, 18, 19] S S116) → (20 ≤ x118.toInt ∧ x118.toInt ≤ 47) → (21 ≤ x119.toInt ∧ x119.toInt ≤ 48) → (0 ≤ x120.toInt ∧ x120.toInt ≤ 6) → (0 ≤ x121.toInt ∧ x121.toInt ≤ 5) → ((-1) ≤ x122.toInt ∧ x122.toInt ≤ 5) → (0 ≤ x123.toInt ∧ x123.toInt ≤ 30) → ((S.1 30).toInt + 0 ≤ (S116.1 30).toInt) → (ar_J S S116 (x118.toInt).toNat) → (x119.toInt = x118.toInt + 1) → (x120.toInt = (S.2.2.1 15 (x118.toInt).toNat).toInt + ar_nw S (x118.toInt).toNat (x121.toInt).toNat) → (x121.toInt + 1 ≤ (S.2.2.1 15 ((x118.toInt).toNat + 1)).toInt) → (((0 ≤ x122.toInt ∧ ar_nw S (x118.toInt).toNat ((x121.toInt).toNat + 1) = ar_nw S (x118.toInt).toNat (x121.toInt).toNat) ∨ (x122.toInt = -1 ∧ ar_nw S (x118.toInt).toNat ((x121.toInt).toNat + 1) = ar_nw S (x118.toInt).toNat (x121.toInt).toNat + 1))) → (x121.toInt = x50.toInt) → (x0 = (x118.toInt).toNat) → (30 - x123.toInt).toNat < N → aw_W tb h d aj_m276 199 lv117 [] S116 ((ar_QB s h [24, 25, 31] [14, 15, 16, 17, 18, 19] S (fun S' => aw_G g S' ∧ (S.1 30).toInt ≤ (S'.1 30).toInt) (fun S' => aw_G g S' ∧ (S.1 30).toInt + 0 ≤ (S'.1 30).toInt))) := by
  have hs : aw_sT s := aw_hy_sT hU.2.2
  intro N199
  induction N199 with
  | zero =>
    intro S116 lv117 x118 x119 x120 x121 x122 x123 hlv117_0 hlv117_1 hlv117_3 hlv117_4 hlv117_5 hlv117_6 hlv117_7 hI124 fr125 bx118 bx119 bx120 bx121 bx122 bx123 ck199 J199 b199 n199 c199 s199 o199 x199 hm199
    omega
  | succ N199 ihL199_114 =>
    intro S116 lv117 x118 x119 x120 x121 x122 x123 hlv117_0 hlv117_1 hlv117_3 hlv117_4 hlv117_5 hlv117_6 hlv117_7 hI124 fr125 bx118 bx119 bx120 bx121 bx122 bx123 ck199 J199 b199 n199 c199 s199 o199 x199 hm199
    have hI126 : aw_I s h (aw_sm S116) S116 := ⟨hI124.1, aw_sm_rf⟩
    have b127 : 0 ≤ (S116.1 30).toInt ∧ (S116.1 30).toInt ≤ 1001 := aw_bd_f hs (hI126).1 (by decide) rfl
    have hjx := hj
    rw [x199] at hjx
    obtain ⟨hj1, hj2, hj3⟩ := hjx
    have nwl : ∀ c : Nat, (c : Int) ≤ (S.2.2.1 15 ((x118.toInt).toNat + 1)).toInt → ar_nw S (x118.toInt).toNat c ≤ ar_nw S (x118.toInt).toNat ((S.2.2.1 15 ((x118.toInt).toNat + 1)).toInt).toNat := fun c hc => ar_nw_le (by omega)
    have nwc := nwl ((x121.toInt).toNat + 1) (by omega)
    refine aw_l0 aj_d276 rfl rfl hlv117_7 ?_
    refine aw_l2 aj_d276 rfl rfl hlv117_0 ?_
    refine aw_g hU.1 aj_d276 rfl rfl (by decide) (v := .ref 131) rfl ?_
    refine aw_n aj_d276 rfl rfl ?_
    refine aw_ld (k := 14) hU.1 aj_d276 (Or.inl ⟨rfl, rfl⟩) rfl (by decide) (by decide) rfl (a := (49 : Int)) rfl (by omega) (by omega) (fun x128 ex128 => ?_)
    have bx128 : 0 ≤ x128.toInt ∧ x128.toInt ≤ 30 := by
      rw [ex128]
      exact aw_bd_a hs (hI126).1 (k := 14) (by decide) (by decide) rfl (by decide) rfl (by omega)
    have ftx128 : x128.toInt = (S116.2.2.1 14 49).toInt := congrArg Int32.toInt (ex128.trans (congrFun rfl _))
    refine aw_c (tgt := 365) aj_d276 rfl rfl (fun q129 => ?_) (fun q129 => ?_)
    · have q129 : x123.toInt ≥ x128.toInt := aw_t_ge (a := x123.toInt) (b := x128.toInt) rfl rfl q129
      refine aw_l0 aj_d276 rfl rfl hlv117_6 ?_
      refine aw_z (tgt := 396) aj_d276 rfl rfl (fun q130 => ?_) (fun q130 => ?_)
      · have q130 : x122.toInt ≥ (0 : Int) := aw_t_ge (a := x122.toInt) (b := (0 : Int)) rfl rfl q130
        refine aw_inc aj_d276 rfl hlv117_5 (a := x121.toInt) rfl (by omega) (by omega) (by decide) (by decide) (fun x131 ex131 => ?_)
        obtain ⟨lv132, elv132⟩ : ∃ l, l = aj_set1 lv117 5 (.int x131) := ⟨_, rfl⟩
        rw [← elv132]
        have hlv132_0 : aj_lv lv132 0 = some (.ref 117) := cw_e1 elv132 hlv117_0 (by decide) (Or.inl (by decide))
        have hlv132_1 : aj_lv lv132 1 = some (.int x118) := cw_e1 elv132 hlv117_1 (by decide) (Or.inl (by decide))
        have hlv132_3 : aj_lv lv132 3 = some (.int x119) := cw_e1 elv132 hlv117_3 (by decide) (Or.inl (by decide))
        have hlv132_4 : aj_lv lv132 4 = some (.int x120) := cw_e1 elv132 hlv117_4 (by decide) (Or.inr rfl)
        have hlv132_5 : aj_lv lv132 5 = some (.int x131) := by rw [elv132]; exact ak_set1_eq _ _ _
        show aw_W _ _ _ _ 399 lv132 [] _ _
        refine aw_n aj_d276 rfl rfl ?_
        exact ihL166_43 S116 lv132 (x118) (x119) (x120) (x131) hlv132_0 hlv132_1 hlv132_3 hlv132_4 hlv132_5 ⟨(hI126).1, hI124.2⟩ fr125 (by omega) (by omega) (by omega) (by omega) (show _ ≤ ((S116.1 30)).toInt by omega) J199 (by omega) (by rw [show (x131.toInt).toNat = (x121.toInt).toNat + 1 by omega]; omega) (by omega) (by omega) (by omega)
      · have q130 : x122.toInt < (0 : Int) := aw_t_ge (a := x122.toInt) (b := (0 : Int)) rfl rfl q130
        refine aw_l2 aj_d276 rfl rfl hlv117_0 ?_
        refine aw_g hU.1 aj_d276 rfl rfl (by decide) (v := .ref 133) rfl ?_
        refine aw_n aj_d276 rfl rfl ?_
        refine aw_l0 aj_d276 rfl rfl hlv117_4 ?_
        refine aw_add aj_d276 rfl (a := (392 : Int)) (b := x120.toInt) rfl rfl (by omega) (by omega) (fun x133 ex133 => ?_)
        refine aw_l2 aj_d276 rfl rfl hlv117_0 ?_
        refine aw_g hU.1 aj_d276 rfl rfl (by decide) (v := .ref 133) rfl ?_
        refine aw_l0 aj_d276 rfl rfl hlv117_3 ?_
        refine aw_n aj_d276 rfl rfl ?_
        refine aw_mul aj_d276 rfl (a := x119.toInt) (b := (8 : Int)) rfl rfl (by omega) (by omega) (fun x134 ex134 => ?_)
        refine aw_l0 aj_d276 rfl rfl hlv117_5 ?_
        refine aw_add aj_d276 rfl (a := x134.toInt) (b := x121.toInt) rfl rfl (by omega) (by omega) (fun x135 ex135 => ?_)
        refine aw_ldl (k := 16) hU.1 aj_d276 rfl (by decide) (by decide) rfl (a := x135.toInt) rfl (by omega) (by omega) (fun y136 ey136 => ?_)
        refine aw_stl (k := 16) hU.1 aj_d276 rfl (by decide) (by decide) rfl (a := x133.toInt) rfl (by omega) (by omega) ?_
        have hI137 := aw_I_b (aw_UV hU aw_Gs_sm) (k := 16) (j := (x133.toInt).toNat) (v := y136) hI126 (by decide) (by decide) (by decide) rfl rfl
        have fr138 := aw_fr_b (k := 16) (j := (x133.toInt).toNat) (v := y136) (by decide) fr125
        have J140 : ar_J S (aw_wb S116 16 (x133.toInt).toNat y136) (x118.toInt).toNat := (ar_J_col (by omega) J199)
        refine aw_inc aj_d276 rfl hlv117_4 (a := x120.toInt) rfl (by omega) (by omega) (by decide) (by decide) (fun x141 ex141 => ?_)
        obtain ⟨lv142, elv142⟩ : ∃ l, l = aj_set1 lv117 4 (.int x141) := ⟨_, rfl⟩
        rw [← elv142]
        have hlv142_0 : aj_lv lv142 0 = some (.ref 117) := cw_e1 elv142 hlv117_0 (by decide) (Or.inl (by decide))
        have hlv142_1 : aj_lv lv142 1 = some (.int x118) := cw_e1 elv142 hlv117_1 (by decide) (Or.inl (by decide))
        have hlv142_3 : aj_lv lv142 3 = some (.int x119) := cw_e1 elv142 hlv117_3 (by decide) (Or.inr rfl)
        have hlv142_5 : aj_lv lv142 5 = some (.int x121) := cw_e1 elv142 hlv117_5 (by decide) (Or.inl (by decide))
        have hlv142_4 : aj_lv lv142 4 = some (.int x141) := by rw [elv142]; exact ak_set1_eq _ _ _
        show aw_W _ _ _ _ 396 lv142 [] _ _
        refine aw_inc aj_d276 rfl hlv142_5 (a := x121.toInt) rfl (by omega) (by omega) (by decide) (by decide) (fun x143 ex143 => ?_)
        obtain ⟨lv144, elv144⟩ : ∃ l, l = aj_set1 lv142 5 (.int x143) := ⟨_, rfl⟩
        rw [← elv144]
        have hlv144_0 : aj_lv lv144 0 = some (.ref 117) := cw_e1 elv144 hlv142_0 (by decide) (Or.inl (by decide))
        have hlv144_1 : aj_lv lv144 1 = some (.int x118) := cw_e1 elv144 hlv142_1 (by decide) (Or.inl (by decide))
        have hlv144_3 : aj_lv lv144 3 = some (.int x119) := cw_e1 elv144 hlv142_3 (by decide) (Or.inl (by decide))
        have hlv144_4 : aj_lv lv144 4 = some (.int x141) := cw_e1 elv144 hlv142_4 (by decide) (Or.inr rfl)
        have hlv144_5 : aj_lv lv144 5 = some (.int x143) := by rw [elv144]; exact ak_set1_eq _ _ _
        show aw_W _ _ _ _ 399 lv144 [] _ _
        refine aw_n aj_d276 rfl rfl ?_
        exact ihL166_43 (aw_wb S116 16 (x133.toInt).toNat y136) lv144 (x118) (x119) (x141) (x143) hlv144_0 hlv144_1 hlv144_3 hlv144_4 hlv144_5 ⟨(hI137).1, (aw_G_sm hI137.2 hI124.2)⟩ fr138 (by omega) (by omega) (by omega) (by omega) (show _ ≤ ((S116.1 30)).toInt by omega) J140 (by omega) (by rw [show (x143.toInt).toNat = (x121.toInt).toNat + 1 by omega]; omega) (by omega) (by omega) (by omega)
    · have q129 : x123.toInt < x128.toInt := aw_t_ge (a := x123.toInt) (b := x128.toInt) rfl rfl q129
      refine aw_l0 aj_d276 rfl rfl hlv117_7 ?_
      refine aw_l2 aj_d276 rfl rfl hlv117_0 ?_
      refine aw_g hU.1 aj_d276 rfl rfl (by decide) (v := .ref 131) rfl ?_
      refine aw_l0 aj_d276 rfl rfl hlv117_3 ?_
      have ib145 : (x119.toInt).toNat = (x118.toInt).toNat + 1 := by omega
      refine aw_ld (k := 14) hU.1 aj_d276 (Or.inl ⟨rfl, rfl⟩) rfl (by decide) (by decide) rfl (a := x119.toInt) rfl (by omega) (by omega) (fun x146 ex146 => ?_)
      have bx146 : 0 ≤ x146.toInt ∧ x146.toInt ≤ 30 := by
        rw [ex146]
        exact aw_bd_a hs (hI126).1 (k := 14) (by decide) (by decide) rfl (by decide) rfl (by omega)
      have ftx146 : x146.toInt = (S116.2.2.1 14 (x119.toInt).toNat).toInt := congrArg Int32.toInt (ex146.trans (congrFun rfl _))
      rw [ib145] at ftx146
      have jb := J199.2
      refine aw_rem aj_d276 rfl (a := x123.toInt) (b := x146.toInt) rfl rfl (by omega) (by omega) (fun x147 ex147 => ?_)
      have dvx147 := ar_mod (a := x123.toInt) (b := x146.toInt) (by omega)
      rw [← ex147] at dvx147
      refine aw_t0 (j := 8) aj_d276 rfl (by decide) rfl ?_
      obtain ⟨lv148, elv148⟩ : ∃ l, l = aj_set1 lv117 8 (.int x147) := ⟨_, rfl⟩
      rw [← elv148]
      have hlv148_0 : aj_lv lv148 0 = some (.ref 117) := cw_e1 elv148 hlv117_0 (by decide) (Or.inl (by decide))
      have hlv148_1 : aj_lv lv148 1 = some (.int x118) := cw_e1 elv148 hlv117_1 (by decide) (Or.inl (by decide))
      have hlv148_3 : aj_lv lv148 3 = some (.int x119) := cw_e1 elv148 hlv117_3 (by decide) (Or.inl (by decide))
      have hlv148_4 : aj_lv lv148 4 = some (.int x120) := cw_e1 elv148 hlv117_4 (by decide) (Or.inl (by decide))
      have hlv148_5 : aj_lv lv148 5 = some (.int x121) := cw_e1 elv148 hlv117_5 (by decide) (Or.inl (by decide))
      have hlv148_6 : aj_lv lv148 6 = some (.int x122) := cw_e1 elv148 hlv117_6 (by decide) (Or.inl (by decide))
      have hlv148_7 : aj_lv lv148 7 = some (.int x123) := cw_e1 elv148 hlv117_7 (by decide) (Or.inr rfl)
      have hlv148_8 : aj_lv lv148 8 = some (.int x147) := by rw [elv148]; exact ak_set1_eq _ _ _
      show aw_W _ _ _ _ 222 lv148 [] _ _
      refine aw_n aj_d276 rfl rfl ?_
      refine aw_t0 (j := 9) aj_d276 rfl (by decide) rfl ?_
      obtain ⟨lv149, elv149⟩ : ∃ l, l = aj_set1 lv148 9 (.int (Int32.ofInt 0)) := ⟨_, rfl⟩
      rw [← elv149]
      have hlv149_0 : aj_lv lv149 0 = some (.ref 117) := cw_e1 elv149 hlv148_0 (by decide) (Or.inl (by decide))
      have hlv149_1 : aj_lv lv149 1 = some (.int x118) := cw_e1 elv149 hlv148_1 (by decide) (Or.inl (by decide))
      have hlv149_3 : aj_lv lv149 3 = some (.int x119) := cw_e1 elv149 hlv148_3 (by decide) (Or.inl (by decide))
      have hlv149_4 : aj_lv lv149 4 = some (.int x120) := cw_e1 elv149 hlv148_4 (by decide) (Or.inl (by decide))
      have hlv149_5 : aj_lv lv149 5 = some (.int x121) := cw_e1 elv149 hlv148_5 (by decide) (Or.inl (by decide))
      have hlv149_6 : aj_lv lv149 6 = some (.int x122) := cw_e1 elv149 hlv148_6 (by decide) (Or.inl (by decide))
      have hlv149_7 : aj_lv lv149 7 = some (.int x123) := cw_e1 elv149 hlv148_7 (by decide) (Or.inl (by decide))
      have hlv149_8 : aj_lv lv149 8 = some (.int x147) := cw_e1 elv149 hlv148_8 (by decide) (Or.inr rfl)
      have hlv149_9 : aj_lv lv149 9 = some (.int (Int32.ofInt 0)) := by rw [elv149]; exact ak_set1_eq _ _ _
      show aw_W _ _ _ _ 225 lv149 [] _ _
      exact (ar_join_L225_149 hU hd x0 hj N88 S18 x20 x21 x22 x23 ihL88_16 hm88 N127 S31 x33 x34 x35 x36 ihL127_29 hm127 N166 S45 x47 x48 x49 x50 ihL166_43 hm166 N199 S116 x118 x119 x120 x121 x122 x123 ihL199_114 hm199) _ S116 lv149 (x118) (x119) (x120) (x121) (x122) (x123) (x147) ((Int32.ofInt 0)) hlv149_0 hlv149_1 hlv149_3 hlv149_4 hlv149_5 hlv149_6 hlv149_7 hlv149_8 hlv149_9 ⟨(hI126).1, hI124.2⟩ fr125 (by omega) (by omega) (by omega) (by omega) (by omega) (by omega) (by omega) (by first | omega | decide) (show _ ≤ ((S116.1 30)).toInt by omega) J199 (by omega) (by omega) (by omega) (by omega) (by omega) (by omega) (by rw [show (S116.2.2.1 14) = S116.2.2.1 14 from rfl]; omega) (by omega) (Nat.lt_succ_self _)
theorem ar_join_L166_43 (hU : aw_U tb s h) (hd : 4 ≤ d + 1) (x0 : Nat) (hj : ar_JP S x0) (N88 : Nat) (S18 : aj_S) (x20 : Int32) (x21 : Int32) (x22 : Int32) (x23 : Int32) (ihL88_16 : ∀ (S18 : aj_S) (lv19 : aj_V) (x20 : Int32) (x21 : Int32) (x22 : Int32) (x23 : Int32), (aj_lv lv19 0 = some (.ref 117)) → (aj_lv lv19 1 = some (.int x20)) → (aj_lv lv19 3 = some (.int x21)) → (aj_lv lv19 4 = some (.int x22)) → (aj_lv lv19 5 = some (.int x23)) → (aw_I s h (aw_G g) S18) → (aw_fr [24, 25, 31] [14, 15, 16, 17, 18, 19] S S18) → (20 ≤ x20.toInt ∧ x20.toInt ≤ 47) → (21 ≤ x21.toInt ∧ x21.toInt ≤ 48) → (0 ≤ x22.toInt ∧ x22.toInt ≤ 6) → (0 ≤ x23.toInt ∧ x23.toInt ≤ 6) → ((S.1 30).toInt + 0 ≤ (S18.1 30).toInt) → (ar_J S S18 (x20.toInt).toNat) → (x21.toInt = x20.toInt + 1) → (x22.toInt = (S.2.2.1 15 (x20.toInt).toNat).toInt) → (x0 = (x20.toInt).toNat) → (6 - x23.toInt).toNat < N88 → aw_W tb h d aj_m276 88 lv19 [] S18 ((ar_QB s h [24, 25, 31] [14, 15, 16, 17, 18, 19] S (fun S' => aw_G g S' ∧ (S.1 30).toInt ≤ (S'.1 30).toInt) (fun S' => aw_G g S' ∧ (S.1 30).toInt + 0 ≤ (S'.1 30).toInt)))) (hm88 : (6 - x23.toInt).toNat < N88 + 1) (N127 : Nat) (S31 : aj_S) (x33 : Int32) (x34 : Int32) (x35 : Int32) (x36 : Int32) (ihL127_29 : ∀ (S31 : aj_S) (lv32 : aj_V) (x33 : Int32) (x34 : Int32) (x35 : Int32) (x36 : Int32), (aj_lv lv32 0 = some (.ref 117)) → (aj_lv lv32 1 = some (.int x33)) → (aj_lv lv32 3 = some (.int x34)) → (aj_lv lv32 4 = some (.int x35)) → (aj_lv lv32 5 = some (.int x36)) → (aw_I s h (aw_G g) S31) → (aw_fr [24, 25, 31] [14, 15, 16, 17, 18, 19] S S31) → (20 ≤ x33.toInt ∧ x33.toInt ≤ 47) → (21 ≤ x34.toInt ∧ x34.toInt ≤ 48) → (0 ≤ x35.toInt ∧ x35.toInt ≤ 6) → (0 ≤ x36.toInt ∧ x36.toInt ≤ 30) → ((S.1 30).toInt + 0 ≤ (S31.1 30).toInt) → (ar_J S S31 (x33.toInt).toNat) → (x34.toInt = x33.toInt + 1) → (x35.toInt = (S.2.2.1 15 (x33.toInt).toNat).toInt) → (x0 = (x33.toInt).toNat) → (30 - x36.toInt).toNat < N127 → aw_W tb h d aj_m276 127 lv32 [] S31 ((ar_QB s h [24, 25, 31] [14, 15, 16, 17, 18, 19] S (fun S' => aw_G g S' ∧ (S.1 30).toInt ≤ (S'.1 30).toInt) (fun S' => aw_G g S' ∧ (S.1 30).toInt + 0 ≤ (S'.1 30).toInt)))) (hm127 : (30 - x36.toInt).toNat < N127 + 1) : ∀ (N : Nat) (S45 : aj_S) (lv46 : aj_V) (x47 : Int32) (x48 : Int32) (x49 : Int32) (x50 : Int32), (aj_lv lv46 0 = some (.ref 117)) → (aj_lv lv46 1 = some (.int x47)) → (aj_lv lv46 3 = some (.int x48)) → (aj_lv lv46 4 = some (.int x49)) → (aj_lv lv46 5 = some (.int x50)) → (aw_I s h (aw_G g) S45) → (aw_fr [24, 25, 31] [14, 15, 16, 17, 18, 19] S S45) → (20 ≤ x47.toInt ∧ x47.toInt ≤ 47) → (21 ≤ x48.toInt ∧ x48.toInt ≤ 48) → (0 ≤ x49.toInt ∧ x49.toInt ≤ 6) → (0 ≤ x50.toInt ∧ x50.toInt ≤ 6) → ((S.1 30).toInt + 0 ≤ (S45.1 30).toInt) → (ar_J S S45 (x47.toInt).toNat) → (x48.toInt = x47.toInt + 1) → (x49.toInt = (S.2.2.1 15 (x47.toInt).toNat).toInt + ar_nw S (x47.toInt).toNat (x50.toInt).toNat) → (x50.toInt ≤ (S.2.2.1 15 ((x47.toInt).toNat + 1)).toInt) → (x0 = (x47.toInt).toNat) → (6 - x50.toInt).toNat < N → aw_W tb h d aj_m276 166 lv46 [] S45 ((ar_QB s h [24, 25, 31] [14, 15, 16, 17, 18, 19] S (fun S' => aw_G g S' ∧ (S.1 30).toInt ≤ (S'.1 30).toInt) (fun S' => aw_G g S' ∧ (S.1 30).toInt + 0 ≤ (S'.1 30).toInt))) := by
  have hs : aw_sT s := aw_hy_sT hU.2.2
  intro N166
  induction N166 with
  | zero =>
    intro S45 lv46 x47 x48 x49 x50 hlv46_0 hlv46_1 hlv46_3 hlv46_4 hlv46_5 hI51 fr52 bx47 bx48 bx49 bx50 ck166 J166 b166 n166 c166 x166 hm166
    omega
  | succ N166 ihL166_43 =>
    intro S45 lv46 x47 x48 x49 x50 hlv46_0 hlv46_1 hlv46_3 hlv46_4 hlv46_5 hI51 fr52 bx47 bx48 bx49 bx50 ck166 J166 b166 n166 c166 x166 hm166
    have hI53 : aw_I s h (aw_sm S45) S45 := ⟨hI51.1, aw_sm_rf⟩
    have b54 : 0 ≤ (S45.1 30).toInt ∧ (S45.1 30).toInt ≤ 1001 := aw_bd_f hs (hI53).1 (by decide) rfl
    have hjx := hj
    rw [x166] at hjx
    obtain ⟨hj1, hj2, hj3⟩ := hjx
    have nwl : ∀ c : Nat, (c : Int) ≤ (S.2.2.1 15 ((x47.toInt).toNat + 1)).toInt → ar_nw S (x47.toInt).toNat c ≤ ar_nw S (x47.toInt).toNat ((S.2.2.1 15 ((x47.toInt).toNat + 1)).toInt).toNat := fun c hc => ar_nw_le (by omega)
    have nwc := nwl (x50.toInt).toNat (by omega)
    refine aw_l0 aj_d276 rfl rfl hlv46_5 ?_
    refine aw_l2 aj_d276 rfl rfl hlv46_0 ?_
    refine aw_g hU.1 aj_d276 rfl rfl (by decide) (v := .ref 132) rfl ?_
    refine aw_l0 aj_d276 rfl rfl hlv46_3 ?_
    have ib55 : (x48.toInt).toNat = (x47.toInt).toNat + 1 := by omega
    refine aw_ld (k := 15) hU.1 aj_d276 (Or.inl ⟨rfl, rfl⟩) rfl (by decide) (by decide) rfl (a := x48.toInt) rfl (by omega) (by omega) (fun x56 ex56 => ?_)
    have bx56 : (-1) ≤ x56.toInt ∧ x56.toInt ≤ 6 := by
      rw [ex56]
      exact aw_bd_a hs (hI53).1 (k := 15) (by decide) (by decide) rfl (by decide) rfl (by omega)
    have ftx56 : x56.toInt = (S45.2.2.1 15 (x48.toInt).toNat).toInt := congrArg Int32.toInt (ex56.trans (congrFun rfl _))
    rw [ib55] at ftx56
    rw [J166.1.2 _ (by omega)] at ftx56
    refine aw_c (tgt := 402) aj_d276 rfl rfl (fun q57 => ?_) (fun q57 => ?_)
    · have q57 : x50.toInt ≥ x56.toInt := aw_t_ge (a := x50.toInt) (b := x56.toInt) rfl rfl q57
      refine aw_n aj_d276 rfl rfl ?_
      refine aw_t0 (j := 5) aj_d276 rfl (by decide) rfl ?_
      obtain ⟨lv58, elv58⟩ : ∃ l, l = aj_set1 lv46 5 (.int (Int32.ofInt 0)) := ⟨_, rfl⟩
      rw [← elv58]
      have hlv58_0 : aj_lv lv58 0 = some (.ref 117) := cw_e1 elv58 hlv46_0 (by decide) (Or.inl (by decide))
      have hlv58_1 : aj_lv lv58 1 = some (.int x47) := cw_e1 elv58 hlv46_1 (by decide) (Or.inl (by decide))
      have hlv58_3 : aj_lv lv58 3 = some (.int x48) := cw_e1 elv58 hlv46_3 (by decide) (Or.inl (by decide))
      have hlv58_4 : aj_lv lv58 4 = some (.int x49) := cw_e1 elv58 hlv46_4 (by decide) (Or.inr rfl)
      have hlv58_5 : aj_lv lv58 5 = some (.int (Int32.ofInt 0)) := by rw [elv58]; exact ak_set1_eq _ _ _
      show aw_W _ _ _ _ 405 lv58 [] _ _
      exact (ar_join_L405_58 hU hd x0 hj N88 S18 x20 x21 x22 x23 ihL88_16 hm88 N127 S31 x33 x34 x35 x36 ihL127_29 hm127 N166 S45 x47 x48 x49 x50 ihL166_43 hm166) _ S45 lv58 (x47) (x48) (x49) ((Int32.ofInt 0)) hlv58_0 hlv58_1 hlv58_3 hlv58_4 hlv58_5 ⟨(hI53).1, hI51.2⟩ fr52 (by omega) (by omega) (by omega) (by first | omega | decide) (show _ ≤ ((S45.1 30)).toInt by omega) J166 (by omega) (by omega) (Nat.lt_succ_self _)
    · have q57 : x50.toInt < x56.toInt := aw_t_ge (a := x50.toInt) (b := x56.toInt) rfl rfl q57
      refine aw_l2 aj_d276 rfl rfl hlv46_0 ?_
      refine aw_l0 aj_d276 rfl rfl hlv46_1 ?_
      refine aw_l2 aj_d276 rfl rfl hlv46_0 ?_
      refine aw_g hU.1 aj_d276 rfl rfl (by decide) (v := .ref 133) rfl ?_
      refine aw_l0 aj_d276 rfl rfl hlv46_3 ?_
      refine aw_n aj_d276 rfl rfl ?_
      refine aw_mul aj_d276 rfl (a := x48.toInt) (b := (8 : Int)) rfl rfl (by omega) (by omega) (fun x109 ex109 => ?_)
      refine aw_l0 aj_d276 rfl rfl hlv46_5 ?_
      refine aw_add aj_d276 rfl (a := x109.toInt) (b := x50.toInt) rfl rfl (by omega) (by omega) (fun x110 ex110 => ?_)
      refine aw_ldl (k := 16) hU.1 aj_d276 rfl (by decide) (by decide) rfl (a := x110.toInt) rfl (by omega) (by omega) (fun y111 ey111 => ?_)
      refine aw_k hU.1 aj_d276 rfl rfl [_, _] rfl rfl rfl (Nat.le_of_ble_eq_true rfl) (aw_columnOfK (aw_UV hU aw_Gs_sm) hI53 (by omega) (t := (x47.toInt).toNat) (by omega) (by omega)) ?_
      rintro _ zb112 ⟨b112, rfl, fb112, hfb112⟩
      rw [fb112]
      have bdb112 := aw_bd_a hs (hI53).1 (k := 15) (j := (x47.toInt).toNat) (by decide) (by decide) rfl (by decide) rfl (by omega)
      have hdb112 := ar_fd_of (c := (x50.toInt).toNat) (J166).1 (by omega) (by omega) bdb112.2 (by omega) ey111 hfb112
      have nwb112 : ((0 ≤ b112.toInt ∧ ar_nw S (x47.toInt).toNat ((x50.toInt).toNat + 1) = ar_nw S (x47.toInt).toNat (x50.toInt).toNat) ∨ (b112.toInt = -1 ∧ ar_nw S (x47.toInt).toNat ((x50.toInt).toNat + 1) = ar_nw S (x47.toInt).toNat (x50.toInt).toNat + 1)) := by
        rcases hdb112 with ⟨z1, z2, z3⟩ | ⟨z1, z2⟩
        · exact Or.inl ⟨z1, ar_nw_1 z3⟩
        · exact Or.inr ⟨z1, ar_nw_2 z2⟩
      have b5b112 : -1 ≤ b112.toInt ∧ b112.toInt ≤ 5 := by
        rcases hdb112 with ⟨z1, z2, z3⟩ | ⟨z1, z2⟩
        · omega
        · omega
      clear hdb112 hfb112 bdb112
      show aw_W _ _ _ _ 194 lv46 [.int b112] _ _
      refine aw_t0 (j := 6) aj_d276 rfl (by decide) rfl ?_
      obtain ⟨lv113, elv113⟩ : ∃ l, l = aj_set1 lv46 6 (.int b112) := ⟨_, rfl⟩
      rw [← elv113]
      have hlv113_0 : aj_lv lv113 0 = some (.ref 117) := cw_e1 elv113 hlv46_0 (by decide) (Or.inl (by decide))
      have hlv113_1 : aj_lv lv113 1 = some (.int x47) := cw_e1 elv113 hlv46_1 (by decide) (Or.inl (by decide))
      have hlv113_3 : aj_lv lv113 3 = some (.int x48) := cw_e1 elv113 hlv46_3 (by decide) (Or.inl (by decide))
      have hlv113_4 : aj_lv lv113 4 = some (.int x49) := cw_e1 elv113 hlv46_4 (by decide) (Or.inl (by decide))
      have hlv113_5 : aj_lv lv113 5 = some (.int x50) := cw_e1 elv113 hlv46_5 (by decide) (Or.inr rfl)
      have hlv113_6 : aj_lv lv113 6 = some (.int b112) := by rw [elv113]; exact ak_set1_eq _ _ _
      show aw_W _ _ _ _ 196 lv113 [] _ _
      refine aw_n aj_d276 rfl rfl ?_
      refine aw_t0 (j := 7) aj_d276 rfl (by decide) rfl ?_
      obtain ⟨lv114, elv114⟩ : ∃ l, l = aj_set1 lv113 7 (.int (Int32.ofInt 0)) := ⟨_, rfl⟩
      rw [← elv114]
      have hlv114_0 : aj_lv lv114 0 = some (.ref 117) := cw_e1 elv114 hlv113_0 (by decide) (Or.inl (by decide))
      have hlv114_1 : aj_lv lv114 1 = some (.int x47) := cw_e1 elv114 hlv113_1 (by decide) (Or.inl (by decide))
      have hlv114_3 : aj_lv lv114 3 = some (.int x48) := cw_e1 elv114 hlv113_3 (by decide) (Or.inl (by decide))
      have hlv114_4 : aj_lv lv114 4 = some (.int x49) := cw_e1 elv114 hlv113_4 (by decide) (Or.inl (by decide))
      have hlv114_5 : aj_lv lv114 5 = some (.int x50) := cw_e1 elv114 hlv113_5 (by decide) (Or.inl (by decide))
      have hlv114_6 : aj_lv lv114 6 = some (.int b112) := cw_e1 elv114 hlv113_6 (by decide) (Or.inr rfl)
      have hlv114_7 : aj_lv lv114 7 = some (.int (Int32.ofInt 0)) := by rw [elv114]; exact ak_set1_eq _ _ _
      show aw_W _ _ _ _ 199 lv114 [] _ _
      exact (ar_join_L199_114 hU hd x0 hj N88 S18 x20 x21 x22 x23 ihL88_16 hm88 N127 S31 x33 x34 x35 x36 ihL127_29 hm127 N166 S45 x47 x48 x49 x50 ihL166_43 hm166) _ S45 lv114 (x47) (x48) (x49) (x50) (b112) ((Int32.ofInt 0)) hlv114_0 hlv114_1 hlv114_3 hlv114_4 hlv114_5 hlv114_6 hlv114_7 ⟨(hI53).1, hI51.2⟩ fr52 (by omega) (by omega) (by omega) (by omega) (by omega) (by first | omega | decide) (show _ ≤ ((S45.1 30)).toInt by omega) J166 (by omega) (by omega) (by omega) (by omega) (by omega) (by omega) (Nat.lt_succ_self _)
theorem ar_join_L127_29 (hU : aw_U tb s h) (hd : 4 ≤ d + 1) (x0 : Nat) (hj : ar_JP S x0) (N88 : Nat) (S18 : aj_S) (x20 : Int32) (x21 : Int32) (x22 : Int32) (x23 : Int32) (ihL88_16 : ∀ (S18 : aj_S) (lv19 : aj_V) (x20 : Int32) (x21 : Int32) (x22 : Int32) (x23 : Int32), (aj_lv lv19 0 = some (.ref 117)) → (aj_lv lv19 1 = some (.int x20)) → (aj_lv lv19 3 = some (.int x21)) → (aj_lv lv19 4 = some (.int x22)) → (aj_lv lv19 5 = some (.int x23)) → (aw_I s h (aw_G g) S18) → (aw_fr [24, 25, 31] [14, 15, 16, 17, 18, 19] S S18) → (20 ≤ x20.toInt ∧ x20.toInt ≤ 47) → (21 ≤ x21.toInt ∧ x21.toInt ≤ 48) → (0 ≤ x22.toInt ∧ x22.toInt ≤ 6) → (0 ≤ x23.toInt ∧ x23.toInt ≤ 6) → ((S.1 30).toInt + 0 ≤ (S18.1 30).toInt) → (ar_J S S18 (x20.toInt).toNat) → (x21.toInt = x20.toInt + 1) → (x22.toInt = (S.2.2.1 15 (x20.toInt).toNat).toInt) → (x0 = (x20.toInt).toNat) → (6 - x23.toInt).toNat < N88 → aw_W tb h d aj_m276 88 lv19 [] S18 ((ar_QB s h [24, 25, 31] [14, 15, 16, 17, 18, 19] S (fun S' => aw_G g S' ∧ (S.1 30).toInt ≤ (S'.1 30).toInt) (fun S' => aw_G g S' ∧ (S.1 30).toInt + 0 ≤ (S'.1 30).toInt)))) (hm88 : (6 - x23.toInt).toNat < N88 + 1) : ∀ (N : Nat) (S31 : aj_S) (lv32 : aj_V) (x33 : Int32) (x34 : Int32) (x35 : Int32) (x36 : Int32), (aj_lv lv32 0 = some (.ref 117)) → (aj_lv lv32 1 = some (.int x33)) → (aj_lv lv32 3 = some (.int x34)) → (aj_lv lv32 4 = some (.int x35)) → (aj_lv lv32 5 = some (.int x36)) → (aw_I s h (aw_G g) S31) → (aw_fr [24, 25, 31] [14, 15, 16, 17, 18, 19] S S31) → (20 ≤ x33.toInt ∧ x33.toInt ≤ 47) → (21 ≤ x34.toInt ∧ x34.toInt ≤ 48) → (0 ≤ x35.toInt ∧ x35.toInt ≤ 6) → (0 ≤ x36.toInt ∧ x36.toInt ≤ 30) → ((S.1 30).toInt + 0 ≤ (S31.1 30).toInt) → (ar_J S S31 (x33.toInt).toNat) → (x34.toInt = x33.toInt + 1) → (x35.toInt = (S.2.2.1 15 (x33.toInt).toNat).toInt) → (x0 = (x33.toInt).toNat) → (30 - x36.toInt).toNat < N → aw_W tb h d aj_m276 127 lv32 [] S31 ((ar_QB s h [24, 25, 31] [14, 15, 16, 17, 18, 19] S (fun S' => aw_G g S' ∧ (S.1 30).toInt ≤ (S'.1 30).toInt) (fun S' => aw_G g S' ∧ (S.1 30).toInt + 0 ≤ (S'.1 30).toInt))) := by
  have hs : aw_sT s := aw_hy_sT hU.2.2
  intro N127
  induction N127 with
  | zero =>
    intro S31 lv32 x33 x34 x35 x36 hlv32_0 hlv32_1 hlv32_3 hlv32_4 hlv32_5 hI37 fr38 bx33 bx34 bx35 bx36 ck127 J127 b127 n127 x127 hm127
    omega
  | succ N127 ihL127_29 =>
    intro S31 lv32 x33 x34 x35 x36 hlv32_0 hlv32_1 hlv32_3 hlv32_4 hlv32_5 hI37 fr38 bx33 bx34 bx35 bx36 ck127 J127 b127 n127 x127 hm127
    have hI39 : aw_I s h (aw_sm S31) S31 := ⟨hI37.1, aw_sm_rf⟩
    have b40 : 0 ≤ (S31.1 30).toInt ∧ (S31.1 30).toInt ≤ 1001 := aw_bd_f hs (hI39).1 (by decide) rfl
    have hjx := hj
    rw [x127] at hjx
    obtain ⟨hj1, hj2, hj3⟩ := hjx
    refine aw_l0 aj_d276 rfl rfl hlv32_5 ?_
    refine aw_l2 aj_d276 rfl rfl hlv32_0 ?_
    refine aw_g hU.1 aj_d276 rfl rfl (by decide) (v := .ref 131) rfl ?_
    refine aw_n aj_d276 rfl rfl ?_
    refine aw_ld (k := 14) hU.1 aj_d276 (Or.inl ⟨rfl, rfl⟩) rfl (by decide) (by decide) rfl (a := (49 : Int)) rfl (by omega) (by omega) (fun x41 ex41 => ?_)
    have bx41 : 0 ≤ x41.toInt ∧ x41.toInt ≤ 30 := by
      rw [ex41]
      exact aw_bd_a hs (hI39).1 (k := 14) (by decide) (by decide) rfl (by decide) rfl (by omega)
    have ftx41 : x41.toInt = (S31.2.2.1 14 49).toInt := congrArg Int32.toInt (ex41.trans (congrFun rfl _))
    refine aw_c (tgt := 163) aj_d276 rfl rfl (fun q42 => ?_) (fun q42 => ?_)
    · have q42 : x36.toInt ≥ x41.toInt := aw_t_ge (a := x36.toInt) (b := x41.toInt) rfl rfl q42
      refine aw_n aj_d276 rfl rfl ?_
      refine aw_t0 (j := 5) aj_d276 rfl (by decide) rfl ?_
      obtain ⟨lv43, elv43⟩ : ∃ l, l = aj_set1 lv32 5 (.int (Int32.ofInt 0)) := ⟨_, rfl⟩
      rw [← elv43]
      have hlv43_0 : aj_lv lv43 0 = some (.ref 117) := cw_e1 elv43 hlv32_0 (by decide) (Or.inl (by decide))
      have hlv43_1 : aj_lv lv43 1 = some (.int x33) := cw_e1 elv43 hlv32_1 (by decide) (Or.inl (by decide))
      have hlv43_3 : aj_lv lv43 3 = some (.int x34) := cw_e1 elv43 hlv32_3 (by decide) (Or.inl (by decide))
      have hlv43_4 : aj_lv lv43 4 = some (.int x35) := cw_e1 elv43 hlv32_4 (by decide) (Or.inr rfl)
      have hlv43_5 : aj_lv lv43 5 = some (.int (Int32.ofInt 0)) := by rw [elv43]; exact ak_set1_eq _ _ _
      show aw_W _ _ _ _ 166 lv43 [] _ _
      exact (ar_join_L166_43 hU hd x0 hj N88 S18 x20 x21 x22 x23 ihL88_16 hm88 N127 S31 x33 x34 x35 x36 ihL127_29 hm127) _ S31 lv43 (x33) (x34) (x35) ((Int32.ofInt 0)) hlv43_0 hlv43_1 hlv43_3 hlv43_4 hlv43_5 ⟨(hI39).1, hI37.2⟩ fr38 (by omega) (by omega) (by omega) (by first | omega | decide) (show _ ≤ ((S31.1 30)).toInt by omega) J127 (by omega) (show (x35).toInt = (S.2.2.1 15 (x33.toInt).toNat).toInt + (0 : Int) by omega) (show (0 : Int) ≤ (S.2.2.1 15 ((x33.toInt).toNat + 1)).toInt by omega) (by omega) (Nat.lt_succ_self _)
    · have q42 : x36.toInt < x41.toInt := aw_t_ge (a := x36.toInt) (b := x41.toInt) rfl rfl q42
      refine aw_l2 aj_d276 rfl rfl hlv32_0 ?_
      refine aw_l0 aj_d276 rfl rfl hlv32_1 ?_
      refine aw_l0 aj_d276 rfl rfl hlv32_5 ?_
      refine aw_l2 aj_d276 rfl rfl hlv32_0 ?_
      refine aw_g hU.1 aj_d276 rfl rfl (by decide) (v := .ref 131) rfl ?_
      refine aw_l0 aj_d276 rfl rfl hlv32_3 ?_
      have ib219 : (x34.toInt).toNat = (x33.toInt).toNat + 1 := by omega
      refine aw_ld (k := 14) hU.1 aj_d276 (Or.inl ⟨rfl, rfl⟩) rfl (by decide) (by decide) rfl (a := x34.toInt) rfl (by omega) (by omega) (fun x220 ex220 => ?_)
      have bx220 : 0 ≤ x220.toInt ∧ x220.toInt ≤ 30 := by
        rw [ex220]
        exact aw_bd_a hs (hI39).1 (k := 14) (by decide) (by decide) rfl (by decide) rfl (by omega)
      have ftx220 : x220.toInt = (S31.2.2.1 14 (x34.toInt).toNat).toInt := congrArg Int32.toInt (ex220.trans (congrFun rfl _))
      rw [ib219] at ftx220
      have jb := J127.2
      refine aw_div aj_d276 rfl (a := x36.toInt) (b := x220.toInt) rfl rfl (by omega) (by omega) (fun x221 ex221 => ?_)
      have dvx221 := ar_div (a := x36.toInt) (b := x220.toInt) (by omega) (by omega)
      rw [← ex221] at dvx221
      refine aw_n aj_d276 rfl rfl ?_
      refine aw_l0 aj_d276 rfl rfl hlv32_5 ?_
      refine aw_k hU.1 aj_d276 rfl rfl [_, _, _, _] rfl rfl rfl (Nat.le_of_ble_eq_true rfl) (ar_copyRow hU (hI39).1 (aw_G_B hI37.2).1 (by omega) (t := x33) (r := x221) (u := (Int8.ofInt 49).toInt32) (v := x36) (by omega) (by omega) (by decide) (by omega)) ?_
      rintro _ S222 ⟨hT222, fc222, rfl, sk222, kv222⟩
      have hG222 := aw_G_sk hI37.2 sk222 kv222
      have fr223 := aw_fr_tr fr38 (aw_fr_sub (F := []) (A := [17, 18, 19]) (by decide) (by decide) fc222)
      have hI224 : aw_I s h (aw_sm S222) S222 := ⟨hT222, aw_sm_rf⟩
      show aw_W _ _ _ _ 157 lv32 [] _ _
      refine aw_inc aj_d276 rfl hlv32_5 (a := x36.toInt) rfl (by omega) (by omega) (by decide) (by decide) (fun x225 ex225 => ?_)
      obtain ⟨lv226, elv226⟩ : ∃ l, l = aj_set1 lv32 5 (.int x225) := ⟨_, rfl⟩
      rw [← elv226]
      have hlv226_0 : aj_lv lv226 0 = some (.ref 117) := cw_e1 elv226 hlv32_0 (by decide) (Or.inl (by decide))
      have hlv226_1 : aj_lv lv226 1 = some (.int x33) := cw_e1 elv226 hlv32_1 (by decide) (Or.inl (by decide))
      have hlv226_3 : aj_lv lv226 3 = some (.int x34) := cw_e1 elv226 hlv32_3 (by decide) (Or.inl (by decide))
      have hlv226_4 : aj_lv lv226 4 = some (.int x35) := cw_e1 elv226 hlv32_4 (by decide) (Or.inr rfl)
      have hlv226_5 : aj_lv lv226 5 = some (.int x225) := by rw [elv226]; exact ak_set1_eq _ _ _
      show aw_W _ _ _ _ 160 lv226 [] _ _
      refine aw_n aj_d276 rfl rfl ?_
      have c227 : (S222.1 30).toInt = (S31.1 30).toInt := (congrArg Int32.toInt (fc222.1 30 (by decide)).1).trans rfl
      have b228 : 0 ≤ (S222.1 30).toInt ∧ (S222.1 30).toInt ≤ 1001 := aw_bd_f hs (hI224).1 (by decide) rfl
      exact ihL127_29 S222 lv226 (x33) (x34) (x35) (x225) hlv226_0 hlv226_1 hlv226_3 hlv226_4 hlv226_5 ⟨(hI224).1, hG222⟩ fr223 (by omega) (by omega) (by omega) (by omega) (show _ ≤ ((S222.1 30)).toInt by omega) (ar_J_eq ((fc222.2 14 (by decide)).1.trans rfl) ((fc222.2 15 (by decide)).1.trans rfl) ((fc222.2 16 (by decide)).2.trans rfl) J127) (by omega) (by omega) (by omega) (by omega)
theorem ar_join_L88_16 (hU : aw_U tb s h) (hd : 4 ≤ d + 1) (x0 : Nat) (hj : ar_JP S x0)  : ∀ (N : Nat) (S18 : aj_S) (lv19 : aj_V) (x20 : Int32) (x21 : Int32) (x22 : Int32) (x23 : Int32), (aj_lv lv19 0 = some (.ref 117)) → (aj_lv lv19 1 = some (.int x20)) → (aj_lv lv19 3 = some (.int x21)) → (aj_lv lv19 4 = some (.int x22)) → (aj_lv lv19 5 = some (.int x23)) → (aw_I s h (aw_G g) S18) → (aw_fr [24, 25, 31] [14, 15, 16, 17, 18, 19] S S18) → (20 ≤ x20.toInt ∧ x20.toInt ≤ 47) → (21 ≤ x21.toInt ∧ x21.toInt ≤ 48) → (0 ≤ x22.toInt ∧ x22.toInt ≤ 6) → (0 ≤ x23.toInt ∧ x23.toInt ≤ 6) → ((S.1 30).toInt + 0 ≤ (S18.1 30).toInt) → (ar_J S S18 (x20.toInt).toNat) → (x21.toInt = x20.toInt + 1) → (x22.toInt = (S.2.2.1 15 (x20.toInt).toNat).toInt) → (x0 = (x20.toInt).toNat) → (6 - x23.toInt).toNat < N → aw_W tb h d aj_m276 88 lv19 [] S18 ((ar_QB s h [24, 25, 31] [14, 15, 16, 17, 18, 19] S (fun S' => aw_G g S' ∧ (S.1 30).toInt ≤ (S'.1 30).toInt) (fun S' => aw_G g S' ∧ (S.1 30).toInt + 0 ≤ (S'.1 30).toInt))) := by
  have hs : aw_sT s := aw_hy_sT hU.2.2
  intro N88
  induction N88 with
  | zero =>
    intro S18 lv19 x20 x21 x22 x23 hlv19_0 hlv19_1 hlv19_3 hlv19_4 hlv19_5 hI24 fr25 bx20 bx21 bx22 bx23 ck88 J88 b88 n88 x88 hm88
    omega
  | succ N88 ihL88_16 =>
    intro S18 lv19 x20 x21 x22 x23 hlv19_0 hlv19_1 hlv19_3 hlv19_4 hlv19_5 hI24 fr25 bx20 bx21 bx22 bx23 ck88 J88 b88 n88 x88 hm88
    have hI26 : aw_I s h (aw_sm S18) S18 := ⟨hI24.1, aw_sm_rf⟩
    have b27 : 0 ≤ (S18.1 30).toInt ∧ (S18.1 30).toInt ≤ 1001 := aw_bd_f hs (hI26).1 (by decide) rfl
    have hjx := hj
    rw [x88] at hjx
    obtain ⟨hj1, hj2, hj3⟩ := hjx
    refine aw_l0 aj_d276 rfl rfl hlv19_5 ?_
    refine aw_l0 aj_d276 rfl rfl hlv19_4 ?_
    refine aw_c (tgt := 124) aj_d276 rfl rfl (fun q28 => ?_) (fun q28 => ?_)
    · have q28 : x23.toInt ≥ x22.toInt := aw_t_ge (a := x23.toInt) (b := x22.toInt) rfl rfl q28
      refine aw_n aj_d276 rfl rfl ?_
      refine aw_t0 (j := 5) aj_d276 rfl (by decide) rfl ?_
      obtain ⟨lv29, elv29⟩ : ∃ l, l = aj_set1 lv19 5 (.int (Int32.ofInt 0)) := ⟨_, rfl⟩
      rw [← elv29]
      have hlv29_0 : aj_lv lv29 0 = some (.ref 117) := cw_e1 elv29 hlv19_0 (by decide) (Or.inl (by decide))
      have hlv29_1 : aj_lv lv29 1 = some (.int x20) := cw_e1 elv29 hlv19_1 (by decide) (Or.inl (by decide))
      have hlv29_3 : aj_lv lv29 3 = some (.int x21) := cw_e1 elv29 hlv19_3 (by decide) (Or.inl (by decide))
      have hlv29_4 : aj_lv lv29 4 = some (.int x22) := cw_e1 elv29 hlv19_4 (by decide) (Or.inr rfl)
      have hlv29_5 : aj_lv lv29 5 = some (.int (Int32.ofInt 0)) := by rw [elv29]; exact ak_set1_eq _ _ _
      show aw_W _ _ _ _ 127 lv29 [] _ _
      exact (ar_join_L127_29 hU hd x0 hj N88 S18 x20 x21 x22 x23 ihL88_16 hm88) _ S18 lv29 (x20) (x21) (x22) ((Int32.ofInt 0)) hlv29_0 hlv29_1 hlv29_3 hlv29_4 hlv29_5 ⟨(hI26).1, hI24.2⟩ fr25 (by omega) (by omega) (by omega) (by first | omega | decide) (show _ ≤ ((S18.1 30)).toInt by omega) J88 (by omega) (by omega) (by omega) (Nat.lt_succ_self _)
    · have q28 : x23.toInt < x22.toInt := aw_t_ge (a := x23.toInt) (b := x22.toInt) rfl rfl q28
      refine aw_l2 aj_d276 rfl rfl hlv19_0 ?_
      refine aw_g hU.1 aj_d276 rfl rfl (by decide) (v := .ref 133) rfl ?_
      refine aw_n aj_d276 rfl rfl ?_
      refine aw_l0 aj_d276 rfl rfl hlv19_5 ?_
      refine aw_add aj_d276 rfl (a := (392 : Int)) (b := x23.toInt) rfl rfl (by omega) (by omega) (fun x229 ex229 => ?_)
      refine aw_l2 aj_d276 rfl rfl hlv19_0 ?_
      refine aw_g hU.1 aj_d276 rfl rfl (by decide) (v := .ref 133) rfl ?_
      refine aw_l0 aj_d276 rfl rfl hlv19_1 ?_
      refine aw_n aj_d276 rfl rfl ?_
      refine aw_mul aj_d276 rfl (a := x20.toInt) (b := (8 : Int)) rfl rfl (by omega) (by omega) (fun x230 ex230 => ?_)
      refine aw_l0 aj_d276 rfl rfl hlv19_5 ?_
      refine aw_add aj_d276 rfl (a := x230.toInt) (b := x23.toInt) rfl rfl (by omega) (by omega) (fun x231 ex231 => ?_)
      refine aw_ldl (k := 16) hU.1 aj_d276 rfl (by decide) (by decide) rfl (a := x231.toInt) rfl (by omega) (by omega) (fun y232 ey232 => ?_)
      refine aw_stl (k := 16) hU.1 aj_d276 rfl (by decide) (by decide) rfl (a := x229.toInt) rfl (by omega) (by omega) ?_
      have hI233 := aw_I_b (aw_UV hU aw_Gs_sm) (k := 16) (j := (x229.toInt).toNat) (v := y232) hI26 (by decide) (by decide) (by decide) rfl rfl
      have fr234 := aw_fr_b (k := 16) (j := (x229.toInt).toNat) (v := y232) (by decide) fr25
      have J236 : ar_J S (aw_wb S18 16 (x229.toInt).toNat y232) (x20.toInt).toNat := (ar_J_col (by omega) J88)
      refine aw_inc aj_d276 rfl hlv19_5 (a := x23.toInt) rfl (by omega) (by omega) (by decide) (by decide) (fun x237 ex237 => ?_)
      obtain ⟨lv238, elv238⟩ : ∃ l, l = aj_set1 lv19 5 (.int x237) := ⟨_, rfl⟩
      rw [← elv238]
      have hlv238_0 : aj_lv lv238 0 = some (.ref 117) := cw_e1 elv238 hlv19_0 (by decide) (Or.inl (by decide))
      have hlv238_1 : aj_lv lv238 1 = some (.int x20) := cw_e1 elv238 hlv19_1 (by decide) (Or.inl (by decide))
      have hlv238_3 : aj_lv lv238 3 = some (.int x21) := cw_e1 elv238 hlv19_3 (by decide) (Or.inl (by decide))
      have hlv238_4 : aj_lv lv238 4 = some (.int x22) := cw_e1 elv238 hlv19_4 (by decide) (Or.inr rfl)
      have hlv238_5 : aj_lv lv238 5 = some (.int x237) := by rw [elv238]; exact ak_set1_eq _ _ _
      show aw_W _ _ _ _ 121 lv238 [] _ _
      refine aw_n aj_d276 rfl rfl ?_
      exact ihL88_16 (aw_wb S18 16 (x229.toInt).toNat y232) lv238 (x20) (x21) (x22) (x237) hlv238_0 hlv238_1 hlv238_3 hlv238_4 hlv238_5 ⟨(hI233).1, (aw_G_sm hI233.2 hI24.2)⟩ fr234 (by omega) (by omega) (by omega) (by omega) (show _ ≤ ((S18.1 30)).toInt by omega) J236 (by omega) (by omega) (by omega) (by omega)
theorem ar_join_L420_310 (hU : aw_U tb s h) (hd : 4 ≤ d + 1) (x0 : Nat) (hj : ar_JP S x0) (N88 : Nat) (S249 : aj_S) (x251 : Int32) (x252 : Int32) (x253 : Int32) (x254 : Int32) (ihL88_247 : ∀ (S249 : aj_S) (lv250 : aj_V) (x251 : Int32) (x252 : Int32) (x253 : Int32) (x254 : Int32), (aj_lv lv250 0 = some (.ref 117)) → (aj_lv lv250 1 = some (.int x251)) → (aj_lv lv250 3 = some (.int x252)) → (aj_lv lv250 4 = some (.int x253)) → (aj_lv lv250 5 = some (.int x254)) → (aw_I s h (aw_G g) S249) → (aw_fr [24, 25, 31] [14, 15, 16, 17, 18, 19] S S249) → (20 ≤ x251.toInt ∧ x251.toInt ≤ 47) → (21 ≤ x252.toInt ∧ x252.toInt ≤ 48) → (0 ≤ x253.toInt ∧ x253.toInt ≤ 6) → (0 ≤ x254.toInt ∧ x254.toInt ≤ 6) → ((S.1 30).toInt + 0 ≤ (S249.1 30).toInt) → (ar_J S S249 (x251.toInt).toNat) → (x252.toInt = x251.toInt + 1) → (x253.toInt = (S.2.2.1 15 (x251.toInt).toNat).toInt) → (x0 = (x251.toInt).toNat) → (6 - x254.toInt).toNat < N88 → aw_W tb h d aj_m276 88 lv250 [] S249 ((ar_QB s h [24, 25, 31] [14, 15, 16, 17, 18, 19] S (fun S' => aw_G g S' ∧ (S.1 30).toInt ≤ (S'.1 30).toInt) (fun S' => aw_G g S' ∧ (S.1 30).toInt + 0 ≤ (S'.1 30).toInt)))) (hm88 : (6 - x254.toInt).toNat < N88 + 1) (N127 : Nat) (S262 : aj_S) (x264 : Int32) (x265 : Int32) (x266 : Int32) (x267 : Int32) (ihL127_260 : ∀ (S262 : aj_S) (lv263 : aj_V) (x264 : Int32) (x265 : Int32) (x266 : Int32) (x267 : Int32), (aj_lv lv263 0 = some (.ref 117)) → (aj_lv lv263 1 = some (.int x264)) → (aj_lv lv263 3 = some (.int x265)) → (aj_lv lv263 4 = some (.int x266)) → (aj_lv lv263 5 = some (.int x267)) → (aw_I s h (aw_G g) S262) → (aw_fr [24, 25, 31] [14, 15, 16, 17, 18, 19] S S262) → (20 ≤ x264.toInt ∧ x264.toInt ≤ 47) → (21 ≤ x265.toInt ∧ x265.toInt ≤ 48) → (0 ≤ x266.toInt ∧ x266.toInt ≤ 6) → (0 ≤ x267.toInt ∧ x267.toInt ≤ 30) → ((S.1 30).toInt + 0 ≤ (S262.1 30).toInt) → (ar_J S S262 (x264.toInt).toNat) → (x265.toInt = x264.toInt + 1) → (x266.toInt = (S.2.2.1 15 (x264.toInt).toNat).toInt) → (x0 = (x264.toInt).toNat) → (30 - x267.toInt).toNat < N127 → aw_W tb h d aj_m276 127 lv263 [] S262 ((ar_QB s h [24, 25, 31] [14, 15, 16, 17, 18, 19] S (fun S' => aw_G g S' ∧ (S.1 30).toInt ≤ (S'.1 30).toInt) (fun S' => aw_G g S' ∧ (S.1 30).toInt + 0 ≤ (S'.1 30).toInt)))) (hm127 : (30 - x267.toInt).toNat < N127 + 1) (N166 : Nat) (S276 : aj_S) (x278 : Int32) (x279 : Int32) (x280 : Int32) (x281 : Int32) (ihL166_274 : ∀ (S276 : aj_S) (lv277 : aj_V) (x278 : Int32) (x279 : Int32) (x280 : Int32) (x281 : Int32), (aj_lv lv277 0 = some (.ref 117)) → (aj_lv lv277 1 = some (.int x278)) → (aj_lv lv277 3 = some (.int x279)) → (aj_lv lv277 4 = some (.int x280)) → (aj_lv lv277 5 = some (.int x281)) → (aw_I s h (aw_G g) S276) → (aw_fr [24, 25, 31] [14, 15, 16, 17, 18, 19] S S276) → (20 ≤ x278.toInt ∧ x278.toInt ≤ 47) → (21 ≤ x279.toInt ∧ x279.toInt ≤ 48) → (0 ≤ x280.toInt ∧ x280.toInt ≤ 6) → (0 ≤ x281.toInt ∧ x281.toInt ≤ 6) → ((S.1 30).toInt + 0 ≤ (S276.1 30).toInt) → (ar_J S S276 (x278.toInt).toNat) → (x279.toInt = x278.toInt + 1) → (x280.toInt = (S.2.2.1 15 (x278.toInt).toNat).toInt + ar_nw S (x278.toInt).toNat (x281.toInt).toNat) → (x281.toInt ≤ (S.2.2.1 15 ((x278.toInt).toNat + 1)).toInt) → (x0 = (x278.toInt).toNat) → (6 - x281.toInt).toNat < N166 → aw_W tb h d aj_m276 166 lv277 [] S276 ((ar_QB s h [24, 25, 31] [14, 15, 16, 17, 18, 19] S (fun S' => aw_G g S' ∧ (S.1 30).toInt ≤ (S'.1 30).toInt) (fun S' => aw_G g S' ∧ (S.1 30).toInt + 0 ≤ (S'.1 30).toInt)))) (hm166 : (6 - x281.toInt).toNat < N166 + 1) (N405 : Nat) (S291 : aj_S) (x293 : Int32) (x294 : Int32) (x295 : Int32) (x296 : Int32) (ihL405_289 : ∀ (S291 : aj_S) (lv292 : aj_V) (x293 : Int32) (x294 : Int32) (x295 : Int32) (x296 : Int32), (aj_lv lv292 0 = some (.ref 117)) → (aj_lv lv292 1 = some (.int x293)) → (aj_lv lv292 3 = some (.int x294)) → (aj_lv lv292 4 = some (.int x295)) → (aj_lv lv292 5 = some (.int x296)) → (aw_I s h (aw_G g) S291) → (aw_fr [24, 25, 31] [14, 15, 16, 17, 18, 19] S S291) → (20 ≤ x293.toInt ∧ x293.toInt ≤ 47) → (21 ≤ x294.toInt ∧ x294.toInt ≤ 48) → (0 ≤ x295.toInt ∧ x295.toInt ≤ 6) → (0 ≤ x296.toInt ∧ x296.toInt ≤ 30) → ((S.1 30).toInt + 0 ≤ (S291.1 30).toInt) → (ar_J S S291 (x293.toInt).toNat) → (x294.toInt = x293.toInt + 1) → (x0 = (x293.toInt).toNat) → (30 - x296.toInt).toNat < N405 → aw_W tb h d aj_m276 405 lv292 [] S291 ((ar_QB s h [24, 25, 31] [14, 15, 16, 17, 18, 19] S (fun S' => aw_G g S' ∧ (S.1 30).toInt ≤ (S'.1 30).toInt) (fun S' => aw_G g S' ∧ (S.1 30).toInt + 0 ≤ (S'.1 30).toInt)))) (hm405 : (30 - x296.toInt).toNat < N405 + 1) : ∀ (N : Nat) (S312 : aj_S) (lv313 : aj_V) (x314 : Int32) (x315 : Int32) (x316 : Int32) (x317 : Int32) (x318 : Int32), (aj_lv lv313 0 = some (.ref 117)) → (aj_lv lv313 1 = some (.int x314)) → (aj_lv lv313 3 = some (.int x315)) → (aj_lv lv313 4 = some (.int x316)) → (aj_lv lv313 5 = some (.int x317)) → (aj_lv lv313 6 = some (.int x318)) → (aw_I s h (aw_G g) S312) → (aw_fr [24, 25, 31] [14, 15, 16, 17, 18, 19] S S312) → (20 ≤ x314.toInt ∧ x314.toInt ≤ 47) → (21 ≤ x315.toInt ∧ x315.toInt ≤ 48) → (0 ≤ x316.toInt ∧ x316.toInt ≤ 6) → (0 ≤ x317.toInt ∧ x317.toInt ≤ 29) → (0 ≤ x318.toInt ∧ x318.toInt ≤ 32) → ((S.1 30).toInt + 0 ≤ (S312.1 30).toInt) → (ar_J S S312 (x314.toInt).toNat) → (x315.toInt = x314.toInt + 1) → (x317.toInt = x296.toInt) → (x317.toInt < (S312.2.2.1 14 49).toInt) → (x0 = (x314.toInt).toNat) → (32 - x318.toInt).toNat < N → aw_W tb h d aj_m276 420 lv313 [] S312 ((ar_QB s h [24, 25, 31] [14, 15, 16, 17, 18, 19] S (fun S' => aw_G g S' ∧ (S.1 30).toInt ≤ (S'.1 30).toInt) (fun S' => aw_G g S' ∧ (S.1 30).toInt + 0 ≤ (S'.1 30).toInt))) := by
  have hs : aw_sT s := aw_hy_sT hU.2.2
  intro N420
  induction N420 with
  | zero =>
    intro S312 lv313 x314 x315 x316 x317 x318 hlv313_0 hlv313_1 hlv313_3 hlv313_4 hlv313_5 hlv313_6 hI319 fr320 bx314 bx315 bx316 bx317 bx318 ck420 J420 b420 e420 r420 x420 hm420
    omega
  | succ N420 ihL420_310 =>
    intro S312 lv313 x314 x315 x316 x317 x318 hlv313_0 hlv313_1 hlv313_3 hlv313_4 hlv313_5 hlv313_6 hI319 fr320 bx314 bx315 bx316 bx317 bx318 ck420 J420 b420 e420 r420 x420 hm420
    have hI321 : aw_I s h (aw_sm S312) S312 := ⟨hI319.1, aw_sm_rf⟩
    have b322 : 0 ≤ (S312.1 30).toInt ∧ (S312.1 30).toInt ≤ 1001 := aw_bd_f hs (hI321).1 (by decide) rfl
    have hjx := hj
    rw [x420] at hjx
    obtain ⟨hj1, hj2, hj3⟩ := hjx
    refine aw_l0 aj_d276 rfl rfl hlv313_6 ?_
    refine aw_n aj_d276 rfl rfl ?_
    refine aw_c (tgt := 474) aj_d276 rfl rfl (fun q323 => ?_) (fun q323 => ?_)
    · have q323 : x318.toInt ≥ (32 : Int) := aw_t_ge (a := x318.toInt) (b := (32 : Int)) rfl rfl q323
      refine aw_inc aj_d276 rfl hlv313_5 (a := x317.toInt) rfl (by omega) (by omega) (by decide) (by decide) (fun x324 ex324 => ?_)
      obtain ⟨lv325, elv325⟩ : ∃ l, l = aj_set1 lv313 5 (.int x324) := ⟨_, rfl⟩
      rw [← elv325]
      have hlv325_0 : aj_lv lv325 0 = some (.ref 117) := cw_e1 elv325 hlv313_0 (by decide) (Or.inl (by decide))
      have hlv325_1 : aj_lv lv325 1 = some (.int x314) := cw_e1 elv325 hlv313_1 (by decide) (Or.inl (by decide))
      have hlv325_3 : aj_lv lv325 3 = some (.int x315) := cw_e1 elv325 hlv313_3 (by decide) (Or.inl (by decide))
      have hlv325_4 : aj_lv lv325 4 = some (.int x316) := cw_e1 elv325 hlv313_4 (by decide) (Or.inr rfl)
      have hlv325_5 : aj_lv lv325 5 = some (.int x324) := by rw [elv325]; exact ak_set1_eq _ _ _
      show aw_W _ _ _ _ 477 lv325 [] _ _
      refine aw_n aj_d276 rfl rfl ?_
      exact ihL405_289 S312 lv325 (x314) (x315) (x316) (x324) hlv325_0 hlv325_1 hlv325_3 hlv325_4 hlv325_5 ⟨(hI321).1, hI319.2⟩ fr320 (by omega) (by omega) (by omega) (by omega) (show _ ≤ ((S312.1 30)).toInt by omega) J420 (by omega) (by omega) (by omega)
    · have q323 : x318.toInt < (32 : Int) := aw_t_ge (a := x318.toInt) (b := (32 : Int)) rfl rfl q323
      refine aw_l2 aj_d276 rfl rfl hlv313_0 ?_
      refine aw_g hU.1 aj_d276 rfl rfl (by decide) (v := .ref 136) rfl ?_
      refine aw_l2 aj_d276 rfl rfl hlv313_0 ?_
      refine aw_n aj_d276 rfl rfl ?_
      refine aw_l0 aj_d276 rfl rfl hlv313_5 ?_
      refine aw_k hU.1 aj_d276 rfl rfl [_, _] rfl rfl rfl (Nat.le_of_ble_eq_true rfl) (ar_at (by omega) (a := (49 : Int)) (b := x317.toInt) rfl rfl (by omega) (by omega)) ?_
      rintro _ zx326 ⟨fx326, x326, rfl, ex326⟩
      rw [fx326]
      show aw_W _ _ _ _ 439 lv313 [.int x326, .ref 136] _ _
      refine aw_l0 aj_d276 rfl rfl hlv313_6 ?_
      refine aw_add aj_d276 rfl (a := (((49 : Int) * 30 + x317.toInt) * 32)) (b := x318.toInt) ex326 rfl (by omega) (by omega) (fun x327 ex327 => ?_)
      refine aw_n aj_d276 rfl rfl ?_
      refine aw_ld (k := 19) hU.1 aj_d276 (Or.inl ⟨rfl, rfl⟩) rfl (by decide) (by decide) rfl (a := x327.toInt) rfl (by omega) (by omega) (fun x328 ex328 => ?_)
      refine aw_l2 aj_d276 rfl rfl hlv313_0 ?_
      refine aw_g hU.1 aj_d276 rfl rfl (by decide) (v := .ref 136) rfl ?_
      refine aw_l2 aj_d276 rfl rfl hlv313_0 ?_
      refine aw_l0 aj_d276 rfl rfl hlv313_3 ?_
      refine aw_l0 aj_d276 rfl rfl hlv313_5 ?_
      refine aw_l2 aj_d276 rfl rfl hlv313_0 ?_
      refine aw_g hU.1 aj_d276 rfl rfl (by decide) (v := .ref 131) rfl ?_
      refine aw_l0 aj_d276 rfl rfl hlv313_3 ?_
      have ib329 : (x315.toInt).toNat = (x314.toInt).toNat + 1 := by omega
      refine aw_ld (k := 14) hU.1 aj_d276 (Or.inl ⟨rfl, rfl⟩) rfl (by decide) (by decide) rfl (a := x315.toInt) rfl (by omega) (by omega) (fun x330 ex330 => ?_)
      have bx330 : 0 ≤ x330.toInt ∧ x330.toInt ≤ 30 := by
        rw [ex330]
        exact aw_bd_a hs (hI321).1 (k := 14) (by decide) (by decide) rfl (by decide) rfl (by omega)
      have ftx330 : x330.toInt = (S312.2.2.1 14 (x315.toInt).toNat).toInt := congrArg Int32.toInt (ex330.trans (congrFun rfl _))
      rw [ib329] at ftx330
      have jb := J420.2
      refine aw_rem aj_d276 rfl (a := x317.toInt) (b := x330.toInt) rfl rfl (by omega) (by omega) (fun x331 ex331 => ?_)
      have dvx331 := ar_mod (a := x317.toInt) (b := x330.toInt) (by omega)
      rw [← ex331] at dvx331
      refine aw_k hU.1 aj_d276 rfl rfl [_, _] rfl rfl rfl (Nat.le_of_ble_eq_true rfl) (ar_at (by omega) (a := x315.toInt) (b := x331.toInt) rfl rfl (by omega) (by omega)) ?_
      rintro _ zx332 ⟨fx332, x332, rfl, ex332⟩
      rw [fx332]
      show aw_W _ _ _ _ 462 lv313 [.int x332, .ref 136, .int x328, .int x327, .ref 136] _ _
      refine aw_l0 aj_d276 rfl rfl hlv313_6 ?_
      refine aw_add aj_d276 rfl (a := ((x315.toInt * 30 + x331.toInt) * 32)) (b := x318.toInt) ex332 rfl (by omega) (by omega) (fun x333 ex333 => ?_)
      refine aw_ld (k := 19) hU.1 aj_d276 (Or.inl ⟨rfl, rfl⟩) rfl (by decide) (by decide) rfl (a := x333.toInt) rfl (by omega) (by omega) (fun x334 ex334 => ?_)
      refine aw_any aj_d276 rfl rfl (fun x335 ex335 => ?_)
      refine aw_st (k := 19) hU.1 aj_d276 (Or.inl ⟨rfl, rfl⟩) rfl (by decide) (by decide) rfl (a := x327.toInt) rfl (by omega) (by omega) ?_
      have hI336 := aw_I_a (aw_UV hU aw_Gs_sm) (k := 19) (j := (x327.toInt).toNat) (v := aj_nar 0 x335) hI321 (by decide) (by decide) (by decide) rfl (by decide) (by decide) rfl (aw_full _)
      have fr337 := aw_fr_a (k := 19) (j := (x327.toInt).toNat) (v := aj_nar 0 x335) (by decide) fr320
      refine aw_inc aj_d276 rfl hlv313_6 (a := x318.toInt) rfl (by omega) (by omega) (by decide) (by decide) (fun x338 ex338 => ?_)
      obtain ⟨lv339, elv339⟩ : ∃ l, l = aj_set1 lv313 6 (.int x338) := ⟨_, rfl⟩
      rw [← elv339]
      have hlv339_0 : aj_lv lv339 0 = some (.ref 117) := cw_e1 elv339 hlv313_0 (by decide) (Or.inl (by decide))
      have hlv339_1 : aj_lv lv339 1 = some (.int x314) := cw_e1 elv339 hlv313_1 (by decide) (Or.inl (by decide))
      have hlv339_3 : aj_lv lv339 3 = some (.int x315) := cw_e1 elv339 hlv313_3 (by decide) (Or.inl (by decide))
      have hlv339_4 : aj_lv lv339 4 = some (.int x316) := cw_e1 elv339 hlv313_4 (by decide) (Or.inl (by decide))
      have hlv339_5 : aj_lv lv339 5 = some (.int x317) := cw_e1 elv339 hlv313_5 (by decide) (Or.inr rfl)
      have hlv339_6 : aj_lv lv339 6 = some (.int x338) := by rw [elv339]; exact ak_set1_eq _ _ _
      show aw_W _ _ _ _ 471 lv339 [] _ _
      refine aw_n aj_d276 rfl rfl ?_
      exact ihL420_310 (aw_wa S312 19 (x327.toInt).toNat (aj_nar 0 x335)) lv339 (x314) (x315) (x316) (x317) (x338) hlv339_0 hlv339_1 hlv339_3 hlv339_4 hlv339_5 hlv339_6 ⟨(hI336).1, (aw_G_sm hI336.2 hI319.2)⟩ fr337 (by omega) (by omega) (by omega) (by omega) (by omega) (show _ ≤ ((S312.1 30)).toInt by omega) (ar_J_eq rfl rfl rfl J420) (by omega) (by omega) (by rw [show ((aw_wa S312 19 (x327.toInt).toNat (aj_nar 0 x335)).2.2.1 14) = S312.2.2.1 14 from rfl]; omega) (by omega) (by omega)
theorem ar_join_L405_289 (hU : aw_U tb s h) (hd : 4 ≤ d + 1) (x0 : Nat) (hj : ar_JP S x0) (N88 : Nat) (S249 : aj_S) (x251 : Int32) (x252 : Int32) (x253 : Int32) (x254 : Int32) (ihL88_247 : ∀ (S249 : aj_S) (lv250 : aj_V) (x251 : Int32) (x252 : Int32) (x253 : Int32) (x254 : Int32), (aj_lv lv250 0 = some (.ref 117)) → (aj_lv lv250 1 = some (.int x251)) → (aj_lv lv250 3 = some (.int x252)) → (aj_lv lv250 4 = some (.int x253)) → (aj_lv lv250 5 = some (.int x254)) → (aw_I s h (aw_G g) S249) → (aw_fr [24, 25, 31] [14, 15, 16, 17, 18, 19] S S249) → (20 ≤ x251.toInt ∧ x251.toInt ≤ 47) → (21 ≤ x252.toInt ∧ x252.toInt ≤ 48) → (0 ≤ x253.toInt ∧ x253.toInt ≤ 6) → (0 ≤ x254.toInt ∧ x254.toInt ≤ 6) → ((S.1 30).toInt + 0 ≤ (S249.1 30).toInt) → (ar_J S S249 (x251.toInt).toNat) → (x252.toInt = x251.toInt + 1) → (x253.toInt = (S.2.2.1 15 (x251.toInt).toNat).toInt) → (x0 = (x251.toInt).toNat) → (6 - x254.toInt).toNat < N88 → aw_W tb h d aj_m276 88 lv250 [] S249 ((ar_QB s h [24, 25, 31] [14, 15, 16, 17, 18, 19] S (fun S' => aw_G g S' ∧ (S.1 30).toInt ≤ (S'.1 30).toInt) (fun S' => aw_G g S' ∧ (S.1 30).toInt + 0 ≤ (S'.1 30).toInt)))) (hm88 : (6 - x254.toInt).toNat < N88 + 1) (N127 : Nat) (S262 : aj_S) (x264 : Int32) (x265 : Int32) (x266 : Int32) (x267 : Int32) (ihL127_260 : ∀ (S262 : aj_S) (lv263 : aj_V) (x264 : Int32) (x265 : Int32) (x266 : Int32) (x267 : Int32), (aj_lv lv263 0 = some (.ref 117)) → (aj_lv lv263 1 = some (.int x264)) → (aj_lv lv263 3 = some (.int x265)) → (aj_lv lv263 4 = some (.int x266)) → (aj_lv lv263 5 = some (.int x267)) → (aw_I s h (aw_G g) S262) → (aw_fr [24, 25, 31] [14, 15, 16, 17, 18, 19] S S262) → (20 ≤ x264.toInt ∧ x264.toInt ≤ 47) → (21 ≤ x265.toInt ∧ x265.toInt ≤ 48) → (0 ≤ x266.toInt ∧ x266.toInt ≤ 6) → (0 ≤ x267.toInt ∧ x267.toInt ≤ 30) → ((S.1 30).toInt + 0 ≤ (S262.1 30).toInt) → (ar_J S S262 (x264.toInt).toNat) → (x265.toInt = x264.toInt + 1) → (x266.toInt = (S.2.2.1 15 (x264.toInt).toNat).toInt) → (x0 = (x264.toInt).toNat) → (30 - x267.toInt).toNat < N127 → aw_W tb h d aj_m276 127 lv263 [] S262 ((ar_QB s h [24, 25, 31] [14, 15, 16, 17, 18, 19] S (fun S' => aw_G g S' ∧ (S.1 30).toInt ≤ (S'.1 30).toInt) (fun S' => aw_G g S' ∧ (S.1 30).toInt + 0 ≤ (S'.1 30).toInt)))) (hm127 : (30 - x267.toInt).toNat < N127 + 1) (N166 : Nat) (S276 : aj_S) (x278 : Int32) (x279 : Int32) (x280 : Int32) (x281 : Int32) (ihL166_274 : ∀ (S276 : aj_S) (lv277 : aj_V) (x278 : Int32) (x279 : Int32) (x280 : Int32) (x281 : Int32), (aj_lv lv277 0 = some (.ref 117)) → (aj_lv lv277 1 = some (.int x278)) → (aj_lv lv277 3 = some (.int x279)) → (aj_lv lv277 4 = some (.int x280)) → (aj_lv lv277 5 = some (.int x281)) → (aw_I s h (aw_G g) S276) → (aw_fr [24, 25, 31] [14, 15, 16, 17, 18, 19] S S276) → (20 ≤ x278.toInt ∧ x278.toInt ≤ 47) → (21 ≤ x279.toInt ∧ x279.toInt ≤ 48) → (0 ≤ x280.toInt ∧ x280.toInt ≤ 6) → (0 ≤ x281.toInt ∧ x281.toInt ≤ 6) → ((S.1 30).toInt + 0 ≤ (S276.1 30).toInt) → (ar_J S S276 (x278.toInt).toNat) → (x279.toInt = x278.toInt + 1) → (x280.toInt = (S.2.2.1 15 (x278.toInt).toNat).toInt + ar_nw S (x278.toInt).toNat (x281.toInt).toNat) → (x281.toInt ≤ (S.2.2.1 15 ((x278.toInt).toNat + 1)).toInt) → (x0 = (x278.toInt).toNat) → (6 - x281.toInt).toNat < N166 → aw_W tb h d aj_m276 166 lv277 [] S276 ((ar_QB s h [24, 25, 31] [14, 15, 16, 17, 18, 19] S (fun S' => aw_G g S' ∧ (S.1 30).toInt ≤ (S'.1 30).toInt) (fun S' => aw_G g S' ∧ (S.1 30).toInt + 0 ≤ (S'.1 30).toInt)))) (hm166 : (6 - x281.toInt).toNat < N166 + 1) : ∀ (N : Nat) (S291 : aj_S) (lv292 : aj_V) (x293 : Int32) (x294 : Int32) (x295 : Int32) (x296 : Int32), (aj_lv lv292 0 = some (.ref 117)) → (aj_lv lv292 1 = some (.int x293)) → (aj_lv lv292 3 = some (.int x294)) → (aj_lv lv292 4 = some (.int x295)) → (aj_lv lv292 5 = some (.int x296)) → (aw_I s h (aw_G g) S291) → (aw_fr [24, 25, 31] [14, 15, 16, 17, 18, 19] S S291) → (20 ≤ x293.toInt ∧ x293.toInt ≤ 47) → (21 ≤ x294.toInt ∧ x294.toInt ≤ 48) → (0 ≤ x295.toInt ∧ x295.toInt ≤ 6) → (0 ≤ x296.toInt ∧ x296.toInt ≤ 30) → ((S.1 30).toInt + 0 ≤ (S291.1 30).toInt) → (ar_J S S291 (x293.toInt).toNat) → (x294.toInt = x293.toInt + 1) → (x0 = (x293.toInt).toNat) → (30 - x296.toInt).toNat < N → aw_W tb h d aj_m276 405 lv292 [] S291 ((ar_QB s h [24, 25, 31] [14, 15, 16, 17, 18, 19] S (fun S' => aw_G g S' ∧ (S.1 30).toInt ≤ (S'.1 30).toInt) (fun S' => aw_G g S' ∧ (S.1 30).toInt + 0 ≤ (S'.1 30).toInt))) := by
  have hs : aw_sT s := aw_hy_sT hU.2.2
  intro N405
  induction N405 with
  | zero =>
    intro S291 lv292 x293 x294 x295 x296 hlv292_0 hlv292_1 hlv292_3 hlv292_4 hlv292_5 hI297 fr298 bx293 bx294 bx295 bx296 ck405 J405 b405 x405 hm405
    omega
  | succ N405 ihL405_289 =>
    intro S291 lv292 x293 x294 x295 x296 hlv292_0 hlv292_1 hlv292_3 hlv292_4 hlv292_5 hI297 fr298 bx293 bx294 bx295 bx296 ck405 J405 b405 x405 hm405
    have hI299 : aw_I s h (aw_sm S291) S291 := ⟨hI297.1, aw_sm_rf⟩
    have b300 : 0 ≤ (S291.1 30).toInt ∧ (S291.1 30).toInt ≤ 1001 := aw_bd_f hs (hI299).1 (by decide) rfl
    have hjx := hj
    rw [x405] at hjx
    obtain ⟨hj1, hj2, hj3⟩ := hjx
    refine aw_l0 aj_d276 rfl rfl hlv292_5 ?_
    refine aw_l2 aj_d276 rfl rfl hlv292_0 ?_
    refine aw_g hU.1 aj_d276 rfl rfl (by decide) (v := .ref 131) rfl ?_
    refine aw_n aj_d276 rfl rfl ?_
    refine aw_ld (k := 14) hU.1 aj_d276 (Or.inl ⟨rfl, rfl⟩) rfl (by decide) (by decide) rfl (a := (49 : Int)) rfl (by omega) (by omega) (fun x301 ex301 => ?_)
    have bx301 : 0 ≤ x301.toInt ∧ x301.toInt ≤ 30 := by
      rw [ex301]
      exact aw_bd_a hs (hI299).1 (k := 14) (by decide) (by decide) rfl (by decide) rfl (by omega)
    have ftx301 : x301.toInt = (S291.2.2.1 14 49).toInt := congrArg Int32.toInt (ex301.trans (congrFun rfl _))
    refine aw_c (tgt := 480) aj_d276 rfl rfl (fun q302 => ?_) (fun q302 => ?_)
    · have q302 : x296.toInt ≥ x301.toInt := aw_t_ge (a := x296.toInt) (b := x301.toInt) rfl rfl q302
      refine aw_l2 aj_d276 rfl rfl hlv292_0 ?_
      refine aw_g hU.1 aj_d276 rfl rfl (by decide) (v := .ref 132) rfl ?_
      refine aw_n aj_d276 rfl rfl ?_
      refine aw_l0 aj_d276 rfl rfl hlv292_4 ?_
      refine aw_st (k := 15) hU.1 aj_d276 (Or.inl ⟨rfl, rfl⟩) rfl (by decide) (by decide) rfl (a := (49 : Int)) rfl (by omega) (by omega) ?_
      have hI303 := aw_I_a (aw_UV hU aw_Gs_sm) (k := 15) (j := ((49 : Int)).toNat) (v := aj_nar 0 x295) hI299 (by decide) (by decide) (by decide) rfl (by decide) (by decide) rfl (aw_bp (a := x295.toInt) rfl (by omega) (by omega))
      have fr304 := aw_fr_a (k := 15) (j := ((49 : Int)).toNat) (v := aj_nar 0 x295) (by decide) fr298
      refine aw_l2 aj_d276 rfl rfl hlv292_0 ?_
      refine aw_n aj_d276 rfl rfl ?_
      refine aw_l0 aj_d276 rfl rfl hlv292_1 ?_
      refine aw_k hU.1 aj_d276 rfl rfl [_, _] rfl rfl rfl (Nat.le_of_ble_eq_true rfl) (aw_toK hU aw_Gs_G (con := ac_c251) (by omega) (ar_251 hU.2.1 (aw_SPc hU.2.2 aw_Gs_G) aw_kpc (arc_252 hU)) ⟨(hI303).1, (aw_G_sm hI303.2 hI297.2)⟩ ⟨(aw_g117 hU.2.2), (cw_gw (a := (49 : Int)) rfl (by omega) (by omega)), (cw_gw (a := x293.toInt) rfl (by omega) (by omega)), trivial⟩ (fun e he => nomatch he)) ?_
      rintro r305 S305 ⟨hr305, hJ305, fc305, po305, -⟩
      have hT305 := hJ305.1
      replace fc305 := aw_fr_sub (F' := []) (A' := [14, 15, 16, 17, 18, 19]) (by decide) (by decide) fc305
      have fr306 := aw_fr_tr fr304 (aw_fr_sub (F := []) (A := [14, 15, 16, 17, 18, 19]) (by decide) (by decide) fc305)
      have hI307 : aw_I s h (aw_sm S305) S305 := ⟨hT305, aw_sm_rf⟩
      obtain rfl := cw_rN hr305
      show aw_W _ _ _ _ 496 lv292 [] _ _
      refine aw_n aj_d276 rfl rfl ?_
      refine aw_e aj_d276 rfl rfl ?_
      have c308 : (S305.1 30).toInt = (S291.1 30).toInt := (congrArg Int32.toInt (fc305.1 30 (by decide)).1).trans rfl
      have b309 : 0 ≤ (S305.1 30).toInt ∧ (S305.1 30).toInt ≤ 1001 := aw_bd_f hs (hI307).1 (by decide) rfl
      exact ⟨(hI307).1, fr306, Or.inr ⟨_, rfl, rfl, hJ305.2, (show _ + 0 ≤ ((S305.1 30)).toInt by omega)⟩⟩
    · have q302 : x296.toInt < x301.toInt := aw_t_ge (a := x296.toInt) (b := x301.toInt) rfl rfl q302
      refine aw_n aj_d276 rfl rfl ?_
      refine aw_t0 (j := 6) aj_d276 rfl (by decide) rfl ?_
      obtain ⟨lv310, elv310⟩ : ∃ l, l = aj_set1 lv292 6 (.int (Int32.ofInt 0)) := ⟨_, rfl⟩
      rw [← elv310]
      have hlv310_0 : aj_lv lv310 0 = some (.ref 117) := cw_e1 elv310 hlv292_0 (by decide) (Or.inl (by decide))
      have hlv310_1 : aj_lv lv310 1 = some (.int x293) := cw_e1 elv310 hlv292_1 (by decide) (Or.inl (by decide))
      have hlv310_3 : aj_lv lv310 3 = some (.int x294) := cw_e1 elv310 hlv292_3 (by decide) (Or.inl (by decide))
      have hlv310_4 : aj_lv lv310 4 = some (.int x295) := cw_e1 elv310 hlv292_4 (by decide) (Or.inl (by decide))
      have hlv310_5 : aj_lv lv310 5 = some (.int x296) := cw_e1 elv310 hlv292_5 (by decide) (Or.inr rfl)
      have hlv310_6 : aj_lv lv310 6 = some (.int (Int32.ofInt 0)) := by rw [elv310]; exact ak_set1_eq _ _ _
      show aw_W _ _ _ _ 420 lv310 [] _ _
      exact (ar_join_L420_310 hU hd x0 hj N88 S249 x251 x252 x253 x254 ihL88_247 hm88 N127 S262 x264 x265 x266 x267 ihL127_260 hm127 N166 S276 x278 x279 x280 x281 ihL166_274 hm166 N405 S291 x293 x294 x295 x296 ihL405_289 hm405) _ S291 lv310 (x293) (x294) (x295) (x296) ((Int32.ofInt 0)) hlv310_0 hlv310_1 hlv310_3 hlv310_4 hlv310_5 hlv310_6 ⟨(hI299).1, hI297.2⟩ fr298 (by omega) (by omega) (by omega) (by omega) (by first | omega | decide) (show _ ≤ ((S291.1 30)).toInt by omega) J405 (by omega) (by omega) (by rw [show (S291.2.2.1 14) = S291.2.2.1 14 from rfl]; omega) (by omega) (Nat.lt_succ_self _)
theorem ar_join_L225_380 (hU : aw_U tb s h) (hd : 4 ≤ d + 1) (x0 : Nat) (hj : ar_JP S x0) (N88 : Nat) (S249 : aj_S) (x251 : Int32) (x252 : Int32) (x253 : Int32) (x254 : Int32) (ihL88_247 : ∀ (S249 : aj_S) (lv250 : aj_V) (x251 : Int32) (x252 : Int32) (x253 : Int32) (x254 : Int32), (aj_lv lv250 0 = some (.ref 117)) → (aj_lv lv250 1 = some (.int x251)) → (aj_lv lv250 3 = some (.int x252)) → (aj_lv lv250 4 = some (.int x253)) → (aj_lv lv250 5 = some (.int x254)) → (aw_I s h (aw_G g) S249) → (aw_fr [24, 25, 31] [14, 15, 16, 17, 18, 19] S S249) → (20 ≤ x251.toInt ∧ x251.toInt ≤ 47) → (21 ≤ x252.toInt ∧ x252.toInt ≤ 48) → (0 ≤ x253.toInt ∧ x253.toInt ≤ 6) → (0 ≤ x254.toInt ∧ x254.toInt ≤ 6) → ((S.1 30).toInt + 0 ≤ (S249.1 30).toInt) → (ar_J S S249 (x251.toInt).toNat) → (x252.toInt = x251.toInt + 1) → (x253.toInt = (S.2.2.1 15 (x251.toInt).toNat).toInt) → (x0 = (x251.toInt).toNat) → (6 - x254.toInt).toNat < N88 → aw_W tb h d aj_m276 88 lv250 [] S249 ((ar_QB s h [24, 25, 31] [14, 15, 16, 17, 18, 19] S (fun S' => aw_G g S' ∧ (S.1 30).toInt ≤ (S'.1 30).toInt) (fun S' => aw_G g S' ∧ (S.1 30).toInt + 0 ≤ (S'.1 30).toInt)))) (hm88 : (6 - x254.toInt).toNat < N88 + 1) (N127 : Nat) (S262 : aj_S) (x264 : Int32) (x265 : Int32) (x266 : Int32) (x267 : Int32) (ihL127_260 : ∀ (S262 : aj_S) (lv263 : aj_V) (x264 : Int32) (x265 : Int32) (x266 : Int32) (x267 : Int32), (aj_lv lv263 0 = some (.ref 117)) → (aj_lv lv263 1 = some (.int x264)) → (aj_lv lv263 3 = some (.int x265)) → (aj_lv lv263 4 = some (.int x266)) → (aj_lv lv263 5 = some (.int x267)) → (aw_I s h (aw_G g) S262) → (aw_fr [24, 25, 31] [14, 15, 16, 17, 18, 19] S S262) → (20 ≤ x264.toInt ∧ x264.toInt ≤ 47) → (21 ≤ x265.toInt ∧ x265.toInt ≤ 48) → (0 ≤ x266.toInt ∧ x266.toInt ≤ 6) → (0 ≤ x267.toInt ∧ x267.toInt ≤ 30) → ((S.1 30).toInt + 0 ≤ (S262.1 30).toInt) → (ar_J S S262 (x264.toInt).toNat) → (x265.toInt = x264.toInt + 1) → (x266.toInt = (S.2.2.1 15 (x264.toInt).toNat).toInt) → (x0 = (x264.toInt).toNat) → (30 - x267.toInt).toNat < N127 → aw_W tb h d aj_m276 127 lv263 [] S262 ((ar_QB s h [24, 25, 31] [14, 15, 16, 17, 18, 19] S (fun S' => aw_G g S' ∧ (S.1 30).toInt ≤ (S'.1 30).toInt) (fun S' => aw_G g S' ∧ (S.1 30).toInt + 0 ≤ (S'.1 30).toInt)))) (hm127 : (30 - x267.toInt).toNat < N127 + 1) (N166 : Nat) (S276 : aj_S) (x278 : Int32) (x279 : Int32) (x280 : Int32) (x281 : Int32) (ihL166_274 : ∀ (S276 : aj_S) (lv277 : aj_V) (x278 : Int32) (x279 : Int32) (x280 : Int32) (x281 : Int32), (aj_lv lv277 0 = some (.ref 117)) → (aj_lv lv277 1 = some (.int x278)) → (aj_lv lv277 3 = some (.int x279)) → (aj_lv lv277 4 = some (.int x280)) → (aj_lv lv277 5 = some (.int x281)) → (aw_I s h (aw_G g) S276) → (aw_fr [24, 25, 31] [14, 15, 16, 17, 18, 19] S S276) → (20 ≤ x278.toInt ∧ x278.toInt ≤ 47) → (21 ≤ x279.toInt ∧ x279.toInt ≤ 48) → (0 ≤ x280.toInt ∧ x280.toInt ≤ 6) → (0 ≤ x281.toInt ∧ x281.toInt ≤ 6) → ((S.1 30).toInt + 0 ≤ (S276.1 30).toInt) → (ar_J S S276 (x278.toInt).toNat) → (x279.toInt = x278.toInt + 1) → (x280.toInt = (S.2.2.1 15 (x278.toInt).toNat).toInt + ar_nw S (x278.toInt).toNat (x281.toInt).toNat) → (x281.toInt ≤ (S.2.2.1 15 ((x278.toInt).toNat + 1)).toInt) → (x0 = (x278.toInt).toNat) → (6 - x281.toInt).toNat < N166 → aw_W tb h d aj_m276 166 lv277 [] S276 ((ar_QB s h [24, 25, 31] [14, 15, 16, 17, 18, 19] S (fun S' => aw_G g S' ∧ (S.1 30).toInt ≤ (S'.1 30).toInt) (fun S' => aw_G g S' ∧ (S.1 30).toInt + 0 ≤ (S'.1 30).toInt)))) (hm166 : (6 - x281.toInt).toNat < N166 + 1) (N199 : Nat) (S347 : aj_S) (x349 : Int32) (x350 : Int32) (x351 : Int32) (x352 : Int32) (x353 : Int32) (x354 : Int32) (ihL199_345 : ∀ (S347 : aj_S) (lv348 : aj_V) (x349 : Int32) (x350 : Int32) (x351 : Int32) (x352 : Int32) (x353 : Int32) (x354 : Int32), (aj_lv lv348 0 = some (.ref 117)) → (aj_lv lv348 1 = some (.int x349)) → (aj_lv lv348 3 = some (.int x350)) → (aj_lv lv348 4 = some (.int x351)) → (aj_lv lv348 5 = some (.int x352)) → (aj_lv lv348 6 = some (.int x353)) → (aj_lv lv348 7 = some (.int x354)) → (aw_I s h (aw_G g) S347) → (aw_fr [24, 25, 31] [14, 15, 16, 17, 18, 19] S S347) → (20 ≤ x349.toInt ∧ x349.toInt ≤ 47) → (21 ≤ x350.toInt ∧ x350.toInt ≤ 48) → (0 ≤ x351.toInt ∧ x351.toInt ≤ 6) → (0 ≤ x352.toInt ∧ x352.toInt ≤ 5) → ((-1) ≤ x353.toInt ∧ x353.toInt ≤ 5) → (0 ≤ x354.toInt ∧ x354.toInt ≤ 30) → ((S.1 30).toInt + 0 ≤ (S347.1 30).toInt) → (ar_J S S347 (x349.toInt).toNat) → (x350.toInt = x349.toInt + 1) → (x351.toInt = (S.2.2.1 15 (x349.toInt).toNat).toInt + ar_nw S (x349.toInt).toNat (x352.toInt).toNat) → (x352.toInt + 1 ≤ (S.2.2.1 15 ((x349.toInt).toNat + 1)).toInt) → (((0 ≤ x353.toInt ∧ ar_nw S (x349.toInt).toNat ((x352.toInt).toNat + 1) = ar_nw S (x349.toInt).toNat (x352.toInt).toNat) ∨ (x353.toInt = -1 ∧ ar_nw S (x349.toInt).toNat ((x352.toInt).toNat + 1) = ar_nw S (x349.toInt).toNat (x352.toInt).toNat + 1))) → (x352.toInt = x281.toInt) → (x0 = (x349.toInt).toNat) → (30 - x354.toInt).toNat < N199 → aw_W tb h d aj_m276 199 lv348 [] S347 ((ar_QB s h [24, 25, 31] [14, 15, 16, 17, 18, 19] S (fun S' => aw_G g S' ∧ (S.1 30).toInt ≤ (S'.1 30).toInt) (fun S' => aw_G g S' ∧ (S.1 30).toInt + 0 ≤ (S'.1 30).toInt)))) (hm199 : (30 - x354.toInt).toNat < N199 + 1) : ∀ (N : Nat) (S382 : aj_S) (lv383 : aj_V) (x384 : Int32) (x385 : Int32) (x386 : Int32) (x387 : Int32) (x388 : Int32) (x389 : Int32) (x390 : Int32) (x391 : Int32), (aj_lv lv383 0 = some (.ref 117)) → (aj_lv lv383 1 = some (.int x384)) → (aj_lv lv383 3 = some (.int x385)) → (aj_lv lv383 4 = some (.int x386)) → (aj_lv lv383 5 = some (.int x387)) → (aj_lv lv383 6 = some (.int x388)) → (aj_lv lv383 7 = some (.int x389)) → (aj_lv lv383 8 = some (.int x390)) → (aj_lv lv383 9 = some (.int x391)) → (aw_I s h (aw_G g) S382) → (aw_fr [24, 25, 31] [14, 15, 16, 17, 18, 19] S S382) → (20 ≤ x384.toInt ∧ x384.toInt ≤ 47) → (21 ≤ x385.toInt ∧ x385.toInt ≤ 48) → (0 ≤ x386.toInt ∧ x386.toInt ≤ 6) → (0 ≤ x387.toInt ∧ x387.toInt ≤ 5) → ((-1) ≤ x388.toInt ∧ x388.toInt ≤ 5) → (0 ≤ x389.toInt ∧ x389.toInt ≤ 29) → (0 ≤ x390.toInt ∧ x390.toInt ≤ 29) → (0 ≤ x391.toInt ∧ x391.toInt ≤ 1024) → ((S.1 30).toInt + 0 ≤ (S382.1 30).toInt) → (ar_J S S382 (x384.toInt).toNat) → (x385.toInt = x384.toInt + 1) → (x386.toInt = (S.2.2.1 15 (x384.toInt).toNat).toInt + ar_nw S (x384.toInt).toNat (x387.toInt).toNat) → (x387.toInt + 1 ≤ (S.2.2.1 15 ((x384.toInt).toNat + 1)).toInt) → (((0 ≤ x388.toInt ∧ ar_nw S (x384.toInt).toNat ((x387.toInt).toNat + 1) = ar_nw S (x384.toInt).toNat (x387.toInt).toNat) ∨ (x388.toInt = -1 ∧ ar_nw S (x384.toInt).toNat ((x387.toInt).toNat + 1) = ar_nw S (x384.toInt).toNat (x387.toInt).toNat + 1))) → (x387.toInt = x281.toInt) → (x389.toInt = x354.toInt) → (x389.toInt < (S382.2.2.1 14 49).toInt) → (x0 = (x384.toInt).toNat) → (1024 - x391.toInt).toNat < N → aw_W tb h d aj_m276 225 lv383 [] S382 ((ar_QB s h [24, 25, 31] [14, 15, 16, 17, 18, 19] S (fun S' => aw_G g S' ∧ (S.1 30).toInt ≤ (S'.1 30).toInt) (fun S' => aw_G g S' ∧ (S.1 30).toInt + 0 ≤ (S'.1 30).toInt))) := by
  have hs : aw_sT s := aw_hy_sT hU.2.2
  intro N225
  induction N225 with
  | zero =>
    intro S382 lv383 x384 x385 x386 x387 x388 x389 x390 x391 hlv383_0 hlv383_1 hlv383_3 hlv383_4 hlv383_5 hlv383_6 hlv383_7 hlv383_8 hlv383_9 hI392 fr393 bx384 bx385 bx386 bx387 bx388 bx389 bx390 bx391 ck225 J225 b225 n225 c225 s225 o225 e225 r225 x225 hm225
    omega
  | succ N225 ihL225_380 =>
    intro S382 lv383 x384 x385 x386 x387 x388 x389 x390 x391 hlv383_0 hlv383_1 hlv383_3 hlv383_4 hlv383_5 hlv383_6 hlv383_7 hlv383_8 hlv383_9 hI392 fr393 bx384 bx385 bx386 bx387 bx388 bx389 bx390 bx391 ck225 J225 b225 n225 c225 s225 o225 e225 r225 x225 hm225
    have hI394 : aw_I s h (aw_sm S382) S382 := ⟨hI392.1, aw_sm_rf⟩
    have b395 : 0 ≤ (S382.1 30).toInt ∧ (S382.1 30).toInt ≤ 1001 := aw_bd_f hs (hI394).1 (by decide) rfl
    have hjx := hj
    rw [x225] at hjx
    obtain ⟨hj1, hj2, hj3⟩ := hjx
    have nwl : ∀ c : Nat, (c : Int) ≤ (S.2.2.1 15 ((x384.toInt).toNat + 1)).toInt → ar_nw S (x384.toInt).toNat c ≤ ar_nw S (x384.toInt).toNat ((S.2.2.1 15 ((x384.toInt).toNat + 1)).toInt).toNat := fun c hc => ar_nw_le (by omega)
    have nwc := nwl ((x387.toInt).toNat + 1) (by omega)
    refine aw_l0 aj_d276 rfl rfl hlv383_9 ?_
    refine aw_l2 aj_d276 rfl rfl hlv383_0 ?_
    refine aw_g hU.1 aj_d276 rfl rfl (by decide) (v := .ref 122) rfl ?_
    refine aw_l2 aj_d276 rfl rfl hlv383_0 ?_
    have b396 : 0 ≤ (S382.1 37).toInt ∧ (S382.1 37).toInt ≤ 1 := aw_bd_f hs (hI394).1 (by decide) rfl
    refine aw_g hU.1 aj_d276 rfl rfl (by decide) (v := .int (S382.1 37)) rfl ?_
    refine aw_ld (k := 5) hU.1 aj_d276 (Or.inl ⟨rfl, rfl⟩) rfl (by decide) (by decide) rfl (a := (S382.1 37).toInt) rfl (by omega) (by omega) (fun x397 ex397 => ?_)
    have bx397 : 0 ≤ x397.toInt ∧ x397.toInt ≤ 1024 := by
      rw [ex397]
      exact aw_bd_a hs (hI394).1 (k := 5) (by decide) (by decide) rfl (by decide) rfl (by omega)
    refine aw_c (tgt := 300) aj_d276 rfl rfl (fun q398 => ?_) (fun q398 => ?_)
    · have q398 : x391.toInt ≥ x397.toInt := aw_t_ge (a := x391.toInt) (b := x397.toInt) rfl rfl q398
      refine aw_l0 aj_d276 rfl rfl hlv383_6 ?_
      refine aw_z (tgt := 359) aj_d276 rfl rfl (fun q399 => ?_) (fun q399 => ?_)
      · have q399 : x388.toInt ≥ (0 : Int) := aw_t_ge (a := x388.toInt) (b := (0 : Int)) rfl rfl q399
        refine aw_inc aj_d276 rfl hlv383_7 (a := x389.toInt) rfl (by omega) (by omega) (by decide) (by decide) (fun x400 ex400 => ?_)
        obtain ⟨lv401, elv401⟩ : ∃ l, l = aj_set1 lv383 7 (.int x400) := ⟨_, rfl⟩
        rw [← elv401]
        have hlv401_0 : aj_lv lv401 0 = some (.ref 117) := cw_e1 elv401 hlv383_0 (by decide) (Or.inl (by decide))
        have hlv401_1 : aj_lv lv401 1 = some (.int x384) := cw_e1 elv401 hlv383_1 (by decide) (Or.inl (by decide))
        have hlv401_3 : aj_lv lv401 3 = some (.int x385) := cw_e1 elv401 hlv383_3 (by decide) (Or.inl (by decide))
        have hlv401_4 : aj_lv lv401 4 = some (.int x386) := cw_e1 elv401 hlv383_4 (by decide) (Or.inl (by decide))
        have hlv401_5 : aj_lv lv401 5 = some (.int x387) := cw_e1 elv401 hlv383_5 (by decide) (Or.inl (by decide))
        have hlv401_6 : aj_lv lv401 6 = some (.int x388) := cw_e1 elv401 hlv383_6 (by decide) (Or.inr rfl)
        have hlv401_7 : aj_lv lv401 7 = some (.int x400) := by rw [elv401]; exact ak_set1_eq _ _ _
        show aw_W _ _ _ _ 362 lv401 [] _ _
        refine aw_n aj_d276 rfl rfl ?_
        exact ihL199_345 S382 lv401 (x384) (x385) (x386) (x387) (x388) (x400) hlv401_0 hlv401_1 hlv401_3 hlv401_4 hlv401_5 hlv401_6 hlv401_7 ⟨(hI394).1, hI392.2⟩ fr393 (by omega) (by omega) (by omega) (by omega) (by omega) (by omega) (show _ ≤ ((S382.1 30)).toInt by omega) J225 (by omega) (by omega) (by omega) (by omega) (by omega) (by omega) (by omega)
      · have q399 : x388.toInt < (0 : Int) := aw_t_ge (a := x388.toInt) (b := (0 : Int)) rfl rfl q399
        refine aw_l2 aj_d276 rfl rfl hlv383_0 ?_
        refine aw_g hU.1 aj_d276 rfl rfl (by decide) (v := .ref 134) rfl ?_
        refine aw_n aj_d276 rfl rfl ?_
        refine aw_l0 aj_d276 rfl rfl hlv383_7 ?_
        refine aw_l0 aj_d276 rfl rfl hlv383_4 ?_
        refine aw_ks aj_d276 rfl rfl rfl [_, _, _] rfl rfl (Nat.le_of_ble_eq_true rfl) (ar_cellAt (by omega) (a := (49 : Int)) (b := x389.toInt) (c := x386.toInt) rfl rfl rfl (by omega) (by omega) (by omega)) ?_
        rintro _ zx402 ⟨fx402, x402, rfl, ex402⟩
        rw [fx402]
        show aw_W _ _ _ _ 318 lv383 [.int x402, .ref 134] _ _
        refine aw_l2 aj_d276 rfl rfl hlv383_0 ?_
        refine aw_g hU.1 aj_d276 rfl rfl (by decide) (v := .ref 134) rfl ?_
        refine aw_l0 aj_d276 rfl rfl hlv383_3 ?_
        refine aw_l0 aj_d276 rfl rfl hlv383_8 ?_
        refine aw_l0 aj_d276 rfl rfl hlv383_5 ?_
        refine aw_ks aj_d276 rfl rfl rfl [_, _, _] rfl rfl (Nat.le_of_ble_eq_true rfl) (ar_cellAt (by omega) (a := x385.toInt) (b := x390.toInt) (c := x387.toInt) rfl rfl rfl (by omega) (by omega) (by omega)) ?_
        rintro _ zx403 ⟨fx403, x403, rfl, ex403⟩
        rw [fx403]
        show aw_W _ _ _ _ 330 lv383 [.int x403, .ref 134, .int x402, .ref 134] _ _
        refine aw_ld (k := 17) hU.1 aj_d276 (Or.inr (Or.inr (Or.inr ⟨rfl, rfl⟩))) rfl (by decide) (by decide) rfl (a := ((x385.toInt * 30 + x390.toInt) * 8 + x387.toInt)) ex403 (by omega) (by omega) (fun x404 ex404 => ?_)
        have bx404 : 0 ≤ x404.toInt ∧ x404.toInt ≤ 1 := by
          rw [ex404]
          exact aw_bd_a hs (hI394).1 (k := 17) (by decide) (by decide) rfl (by decide) rfl (by omega)
        refine aw_st (k := 17) hU.1 aj_d276 (Or.inr (Or.inr (Or.inr ⟨rfl, rfl⟩))) rfl (by decide) (by decide) rfl (a := (((49 : Int) * 30 + x389.toInt) * 8 + x386.toInt)) ex402 (by omega) (by omega) ?_
        have hI405 : aw_I s h (aw_sm (aw_wa S382 17 ((((49 : Int) * 30 + x389.toInt) * 8 + x386.toInt)).toNat (aj_nar 4 x404))) (aw_wa S382 17 ((((49 : Int) * 30 + x389.toInt) * 8 + x386.toInt)).toNat (aj_nar 4 x404)) := ⟨aw_T_a hU.2.1 hs hU.1.1 (hI394).1 (by decide) (by decide) rfl (by decide) (by decide) rfl (aw_nar4 (aw_bp (a := x404.toInt) rfl (by omega) (by omega)) (by decide) (by decide)), aw_sm_rf⟩
        have fr406 := aw_fr_a (k := 17) (j := ((((49 : Int) * 30 + x389.toInt) * 8 + x386.toInt)).toNat) (v := aj_nar 4 x404) (by decide) fr393
        refine aw_l2 aj_d276 rfl rfl hlv383_0 ?_
        refine aw_g hU.1 aj_d276 rfl rfl (by decide) (v := .ref 135) rfl ?_
        refine aw_n aj_d276 rfl rfl ?_
        refine aw_l0 aj_d276 rfl rfl hlv383_7 ?_
        refine aw_l0 aj_d276 rfl rfl hlv383_4 ?_
        refine aw_ks aj_d276 rfl rfl rfl [_, _, _] rfl rfl (Nat.le_of_ble_eq_true rfl) (ar_cellAt (by omega) (a := (49 : Int)) (b := x389.toInt) (c := x386.toInt) rfl rfl rfl (by omega) (by omega) (by omega)) ?_
        rintro _ zx407 ⟨fx407, x407, rfl, ex407⟩
        rw [fx407]
        show aw_W _ _ _ _ 345 lv383 [.int x407, .ref 135] _ _
        refine aw_l2 aj_d276 rfl rfl hlv383_0 ?_
        refine aw_g hU.1 aj_d276 rfl rfl (by decide) (v := .ref 135) rfl ?_
        refine aw_l0 aj_d276 rfl rfl hlv383_3 ?_
        refine aw_l0 aj_d276 rfl rfl hlv383_8 ?_
        refine aw_l0 aj_d276 rfl rfl hlv383_5 ?_
        refine aw_ks aj_d276 rfl rfl rfl [_, _, _] rfl rfl (Nat.le_of_ble_eq_true rfl) (ar_cellAt (by omega) (a := x385.toInt) (b := x390.toInt) (c := x387.toInt) rfl rfl rfl (by omega) (by omega) (by omega)) ?_
        rintro _ zx408 ⟨fx408, x408, rfl, ex408⟩
        rw [fx408]
        show aw_W _ _ _ _ 357 lv383 [.int x408, .ref 135, .int x407, .ref 135] _ _
        refine aw_ld (k := 18) hU.1 aj_d276 (Or.inl ⟨rfl, rfl⟩) rfl (by decide) (by decide) rfl (a := ((x385.toInt * 30 + x390.toInt) * 8 + x387.toInt)) ex408 (by omega) (by omega) (fun x409 ex409 => ?_)
        refine aw_st (k := 18) hU.1 aj_d276 (Or.inl ⟨rfl, rfl⟩) rfl (by decide) (by decide) rfl (a := (((49 : Int) * 30 + x389.toInt) * 8 + x386.toInt)) ex407 (by omega) (by omega) ?_
        have hI410 : aw_I s h (aw_sm (aw_wa (aw_wa S382 17 ((((49 : Int) * 30 + x389.toInt) * 8 + x386.toInt)).toNat (aj_nar 4 x404)) 18 ((((49 : Int) * 30 + x389.toInt) * 8 + x386.toInt)).toNat (aj_nar 0 x409))) (aw_wa (aw_wa S382 17 ((((49 : Int) * 30 + x389.toInt) * 8 + x386.toInt)).toNat (aj_nar 4 x404)) 18 ((((49 : Int) * 30 + x389.toInt) * 8 + x386.toInt)).toNat (aj_nar 0 x409)) := ⟨aw_T_a hU.2.1 hs hU.1.1 (hI405).1 (by decide) (by decide) rfl (by decide) (by decide) rfl (aw_full _), aw_sm_rf⟩
        have fr411 := aw_fr_a (k := 18) (j := ((((49 : Int) * 30 + x389.toInt) * 8 + x386.toInt)).toNat) (v := aj_nar 0 x409) (by decide) fr406
        have hG412 := aw_G_sk (S' := (aw_wa (aw_wa S382 17 ((((49 : Int) * 30 + x389.toInt) * 8 + x386.toInt)).toNat (aj_nar 4 x404)) 18 ((((49 : Int) * 30 + x389.toInt) * 8 + x386.toInt)).toNat (aj_nar 0 x409))) hI392.2 (aw_sk_2 aw_sk_rf) (aw_kv_2 (aw_G_B hI392.2).1 (by first | rfl | (congr 1) | omega) (by
            rw [aw_nar4_01 (by omega)]
            intro z
            have y := (aw_G_B hI392.2).1 (((x385.toInt * 30 + x390.toInt) * 8 + x387.toInt)).toNat (by omega) (by rw [ex404] at z; exact z)
            have hx : (((x385.toInt * 30 + x390.toInt) * 8 + x387.toInt)).toNat = (((x385.toInt * 30 + x390.toInt) * 8 + x387.toInt)).toNat := by omega
            show 0 ≤ (x409).toInt ∧ (x409).toInt ≤ 7
            rw [ex409]
            show 0 ≤ (S382.2.2.1 18 (((x385.toInt * 30 + x390.toInt) * 8 + x387.toInt)).toNat).toInt ∧ (S382.2.2.1 18 (((x385.toInt * 30 + x390.toInt) * 8 + x387.toInt)).toNat).toInt ≤ 7
            rw [hx]
            exact y))
        have hI413 : aw_I s h (aw_sm (aw_wa (aw_wa S382 17 ((((49 : Int) * 30 + x389.toInt) * 8 + x386.toInt)).toNat (aj_nar 4 x404)) 18 ((((49 : Int) * 30 + x389.toInt) * 8 + x386.toInt)).toNat (aj_nar 0 x409))) (aw_wa (aw_wa S382 17 ((((49 : Int) * 30 + x389.toInt) * 8 + x386.toInt)).toNat (aj_nar 4 x404)) 18 ((((49 : Int) * 30 + x389.toInt) * 8 + x386.toInt)).toNat (aj_nar 0 x409)) := ⟨(hI410).1, aw_sm_rf⟩
        refine aw_inc aj_d276 rfl hlv383_7 (a := x389.toInt) rfl (by omega) (by omega) (by decide) (by decide) (fun x414 ex414 => ?_)
        obtain ⟨lv415, elv415⟩ : ∃ l, l = aj_set1 lv383 7 (.int x414) := ⟨_, rfl⟩
        rw [← elv415]
        have hlv415_0 : aj_lv lv415 0 = some (.ref 117) := cw_e1 elv415 hlv383_0 (by decide) (Or.inl (by decide))
        have hlv415_1 : aj_lv lv415 1 = some (.int x384) := cw_e1 elv415 hlv383_1 (by decide) (Or.inl (by decide))
        have hlv415_3 : aj_lv lv415 3 = some (.int x385) := cw_e1 elv415 hlv383_3 (by decide) (Or.inl (by decide))
        have hlv415_4 : aj_lv lv415 4 = some (.int x386) := cw_e1 elv415 hlv383_4 (by decide) (Or.inl (by decide))
        have hlv415_5 : aj_lv lv415 5 = some (.int x387) := cw_e1 elv415 hlv383_5 (by decide) (Or.inl (by decide))
        have hlv415_6 : aj_lv lv415 6 = some (.int x388) := cw_e1 elv415 hlv383_6 (by decide) (Or.inr rfl)
        have hlv415_7 : aj_lv lv415 7 = some (.int x414) := by rw [elv415]; exact ak_set1_eq _ _ _
        show aw_W _ _ _ _ 362 lv415 [] _ _
        refine aw_n aj_d276 rfl rfl ?_
        exact ihL199_345 (aw_wa (aw_wa S382 17 ((((49 : Int) * 30 + x389.toInt) * 8 + x386.toInt)).toNat (aj_nar 4 x404)) 18 ((((49 : Int) * 30 + x389.toInt) * 8 + x386.toInt)).toNat (aj_nar 0 x409)) lv415 (x384) (x385) (x386) (x387) (x388) (x414) hlv415_0 hlv415_1 hlv415_3 hlv415_4 hlv415_5 hlv415_6 hlv415_7 ⟨(hI413).1, hG412⟩ fr411 (by omega) (by omega) (by omega) (by omega) (by omega) (by omega) (show _ ≤ ((S382.1 30)).toInt by omega) (ar_J_eq rfl rfl rfl J225) (by omega) (by omega) (by omega) (by omega) (by omega) (by omega) (by omega)
    · have q398 : x391.toInt < x397.toInt := aw_t_ge (a := x391.toInt) (b := x397.toInt) rfl rfl q398
      refine aw_l0 aj_d276 rfl rfl hlv383_6 ?_
      refine aw_z (tgt := 300) aj_d276 rfl rfl (fun q416 => ?_) (fun q416 => ?_)
      · have q416 : x388.toInt < (0 : Int) := aw_t_lt (a := x388.toInt) (b := (0 : Int)) rfl rfl q416
        refine aw_l0 aj_d276 rfl rfl hlv383_6 ?_
        refine aw_z (tgt := 359) aj_d276 rfl rfl (fun q417 => ?_) (fun q417 => ?_)
        · have q417 : x388.toInt ≥ (0 : Int) := aw_t_ge (a := x388.toInt) (b := (0 : Int)) rfl rfl q417
          refine aw_inc aj_d276 rfl hlv383_7 (a := x389.toInt) rfl (by omega) (by omega) (by decide) (by decide) (fun x418 ex418 => ?_)
          obtain ⟨lv419, elv419⟩ : ∃ l, l = aj_set1 lv383 7 (.int x418) := ⟨_, rfl⟩
          rw [← elv419]
          have hlv419_0 : aj_lv lv419 0 = some (.ref 117) := cw_e1 elv419 hlv383_0 (by decide) (Or.inl (by decide))
          have hlv419_1 : aj_lv lv419 1 = some (.int x384) := cw_e1 elv419 hlv383_1 (by decide) (Or.inl (by decide))
          have hlv419_3 : aj_lv lv419 3 = some (.int x385) := cw_e1 elv419 hlv383_3 (by decide) (Or.inl (by decide))
          have hlv419_4 : aj_lv lv419 4 = some (.int x386) := cw_e1 elv419 hlv383_4 (by decide) (Or.inl (by decide))
          have hlv419_5 : aj_lv lv419 5 = some (.int x387) := cw_e1 elv419 hlv383_5 (by decide) (Or.inl (by decide))
          have hlv419_6 : aj_lv lv419 6 = some (.int x388) := cw_e1 elv419 hlv383_6 (by decide) (Or.inr rfl)
          have hlv419_7 : aj_lv lv419 7 = some (.int x418) := by rw [elv419]; exact ak_set1_eq _ _ _
          show aw_W _ _ _ _ 362 lv419 [] _ _
          refine aw_n aj_d276 rfl rfl ?_
          exact ihL199_345 S382 lv419 (x384) (x385) (x386) (x387) (x388) (x418) hlv419_0 hlv419_1 hlv419_3 hlv419_4 hlv419_5 hlv419_6 hlv419_7 ⟨(hI394).1, hI392.2⟩ fr393 (by omega) (by omega) (by omega) (by omega) (by omega) (by omega) (show _ ≤ ((S382.1 30)).toInt by omega) J225 (by omega) (by omega) (by omega) (by omega) (by omega) (by omega) (by omega)
        · have q417 : x388.toInt < (0 : Int) := aw_t_ge (a := x388.toInt) (b := (0 : Int)) rfl rfl q417
          refine aw_l2 aj_d276 rfl rfl hlv383_0 ?_
          refine aw_g hU.1 aj_d276 rfl rfl (by decide) (v := .ref 134) rfl ?_
          refine aw_n aj_d276 rfl rfl ?_
          refine aw_l0 aj_d276 rfl rfl hlv383_7 ?_
          refine aw_l0 aj_d276 rfl rfl hlv383_4 ?_
          refine aw_ks aj_d276 rfl rfl rfl [_, _, _] rfl rfl (Nat.le_of_ble_eq_true rfl) (ar_cellAt (by omega) (a := (49 : Int)) (b := x389.toInt) (c := x386.toInt) rfl rfl rfl (by omega) (by omega) (by omega)) ?_
          rintro _ zx420 ⟨fx420, x420, rfl, ex420⟩
          rw [fx420]
          show aw_W _ _ _ _ 318 lv383 [.int x420, .ref 134] _ _
          refine aw_l2 aj_d276 rfl rfl hlv383_0 ?_
          refine aw_g hU.1 aj_d276 rfl rfl (by decide) (v := .ref 134) rfl ?_
          refine aw_l0 aj_d276 rfl rfl hlv383_3 ?_
          refine aw_l0 aj_d276 rfl rfl hlv383_8 ?_
          refine aw_l0 aj_d276 rfl rfl hlv383_5 ?_
          refine aw_ks aj_d276 rfl rfl rfl [_, _, _] rfl rfl (Nat.le_of_ble_eq_true rfl) (ar_cellAt (by omega) (a := x385.toInt) (b := x390.toInt) (c := x387.toInt) rfl rfl rfl (by omega) (by omega) (by omega)) ?_
          rintro _ zx421 ⟨fx421, x421, rfl, ex421⟩
          rw [fx421]
          show aw_W _ _ _ _ 330 lv383 [.int x421, .ref 134, .int x420, .ref 134] _ _
          refine aw_ld (k := 17) hU.1 aj_d276 (Or.inr (Or.inr (Or.inr ⟨rfl, rfl⟩))) rfl (by decide) (by decide) rfl (a := ((x385.toInt * 30 + x390.toInt) * 8 + x387.toInt)) ex421 (by omega) (by omega) (fun x422 ex422 => ?_)
          have bx422 : 0 ≤ x422.toInt ∧ x422.toInt ≤ 1 := by
            rw [ex422]
            exact aw_bd_a hs (hI394).1 (k := 17) (by decide) (by decide) rfl (by decide) rfl (by omega)
          refine aw_st (k := 17) hU.1 aj_d276 (Or.inr (Or.inr (Or.inr ⟨rfl, rfl⟩))) rfl (by decide) (by decide) rfl (a := (((49 : Int) * 30 + x389.toInt) * 8 + x386.toInt)) ex420 (by omega) (by omega) ?_
          have hI423 : aw_I s h (aw_sm (aw_wa S382 17 ((((49 : Int) * 30 + x389.toInt) * 8 + x386.toInt)).toNat (aj_nar 4 x422))) (aw_wa S382 17 ((((49 : Int) * 30 + x389.toInt) * 8 + x386.toInt)).toNat (aj_nar 4 x422)) := ⟨aw_T_a hU.2.1 hs hU.1.1 (hI394).1 (by decide) (by decide) rfl (by decide) (by decide) rfl (aw_nar4 (aw_bp (a := x422.toInt) rfl (by omega) (by omega)) (by decide) (by decide)), aw_sm_rf⟩
          have fr424 := aw_fr_a (k := 17) (j := ((((49 : Int) * 30 + x389.toInt) * 8 + x386.toInt)).toNat) (v := aj_nar 4 x422) (by decide) fr393
          refine aw_l2 aj_d276 rfl rfl hlv383_0 ?_
          refine aw_g hU.1 aj_d276 rfl rfl (by decide) (v := .ref 135) rfl ?_
          refine aw_n aj_d276 rfl rfl ?_
          refine aw_l0 aj_d276 rfl rfl hlv383_7 ?_
          refine aw_l0 aj_d276 rfl rfl hlv383_4 ?_
          refine aw_ks aj_d276 rfl rfl rfl [_, _, _] rfl rfl (Nat.le_of_ble_eq_true rfl) (ar_cellAt (by omega) (a := (49 : Int)) (b := x389.toInt) (c := x386.toInt) rfl rfl rfl (by omega) (by omega) (by omega)) ?_
          rintro _ zx425 ⟨fx425, x425, rfl, ex425⟩
          rw [fx425]
          show aw_W _ _ _ _ 345 lv383 [.int x425, .ref 135] _ _
          refine aw_l2 aj_d276 rfl rfl hlv383_0 ?_
          refine aw_g hU.1 aj_d276 rfl rfl (by decide) (v := .ref 135) rfl ?_
          refine aw_l0 aj_d276 rfl rfl hlv383_3 ?_
          refine aw_l0 aj_d276 rfl rfl hlv383_8 ?_
          refine aw_l0 aj_d276 rfl rfl hlv383_5 ?_
          refine aw_ks aj_d276 rfl rfl rfl [_, _, _] rfl rfl (Nat.le_of_ble_eq_true rfl) (ar_cellAt (by omega) (a := x385.toInt) (b := x390.toInt) (c := x387.toInt) rfl rfl rfl (by omega) (by omega) (by omega)) ?_
          rintro _ zx426 ⟨fx426, x426, rfl, ex426⟩
          rw [fx426]
          show aw_W _ _ _ _ 357 lv383 [.int x426, .ref 135, .int x425, .ref 135] _ _
          refine aw_ld (k := 18) hU.1 aj_d276 (Or.inl ⟨rfl, rfl⟩) rfl (by decide) (by decide) rfl (a := ((x385.toInt * 30 + x390.toInt) * 8 + x387.toInt)) ex426 (by omega) (by omega) (fun x427 ex427 => ?_)
          refine aw_st (k := 18) hU.1 aj_d276 (Or.inl ⟨rfl, rfl⟩) rfl (by decide) (by decide) rfl (a := (((49 : Int) * 30 + x389.toInt) * 8 + x386.toInt)) ex425 (by omega) (by omega) ?_
          have hI428 : aw_I s h (aw_sm (aw_wa (aw_wa S382 17 ((((49 : Int) * 30 + x389.toInt) * 8 + x386.toInt)).toNat (aj_nar 4 x422)) 18 ((((49 : Int) * 30 + x389.toInt) * 8 + x386.toInt)).toNat (aj_nar 0 x427))) (aw_wa (aw_wa S382 17 ((((49 : Int) * 30 + x389.toInt) * 8 + x386.toInt)).toNat (aj_nar 4 x422)) 18 ((((49 : Int) * 30 + x389.toInt) * 8 + x386.toInt)).toNat (aj_nar 0 x427)) := ⟨aw_T_a hU.2.1 hs hU.1.1 (hI423).1 (by decide) (by decide) rfl (by decide) (by decide) rfl (aw_full _), aw_sm_rf⟩
          have fr429 := aw_fr_a (k := 18) (j := ((((49 : Int) * 30 + x389.toInt) * 8 + x386.toInt)).toNat) (v := aj_nar 0 x427) (by decide) fr424
          have hG430 := aw_G_sk (S' := (aw_wa (aw_wa S382 17 ((((49 : Int) * 30 + x389.toInt) * 8 + x386.toInt)).toNat (aj_nar 4 x422)) 18 ((((49 : Int) * 30 + x389.toInt) * 8 + x386.toInt)).toNat (aj_nar 0 x427))) hI392.2 (aw_sk_2 aw_sk_rf) (aw_kv_2 (aw_G_B hI392.2).1 (by first | rfl | (congr 1) | omega) (by
              rw [aw_nar4_01 (by omega)]
              intro z
              have y := (aw_G_B hI392.2).1 (((x385.toInt * 30 + x390.toInt) * 8 + x387.toInt)).toNat (by omega) (by rw [ex422] at z; exact z)
              have hx : (((x385.toInt * 30 + x390.toInt) * 8 + x387.toInt)).toNat = (((x385.toInt * 30 + x390.toInt) * 8 + x387.toInt)).toNat := by omega
              show 0 ≤ (x427).toInt ∧ (x427).toInt ≤ 7
              rw [ex427]
              show 0 ≤ (S382.2.2.1 18 (((x385.toInt * 30 + x390.toInt) * 8 + x387.toInt)).toNat).toInt ∧ (S382.2.2.1 18 (((x385.toInt * 30 + x390.toInt) * 8 + x387.toInt)).toNat).toInt ≤ 7
              rw [hx]
              exact y))
          have hI431 : aw_I s h (aw_sm (aw_wa (aw_wa S382 17 ((((49 : Int) * 30 + x389.toInt) * 8 + x386.toInt)).toNat (aj_nar 4 x422)) 18 ((((49 : Int) * 30 + x389.toInt) * 8 + x386.toInt)).toNat (aj_nar 0 x427))) (aw_wa (aw_wa S382 17 ((((49 : Int) * 30 + x389.toInt) * 8 + x386.toInt)).toNat (aj_nar 4 x422)) 18 ((((49 : Int) * 30 + x389.toInt) * 8 + x386.toInt)).toNat (aj_nar 0 x427)) := ⟨(hI428).1, aw_sm_rf⟩
          refine aw_inc aj_d276 rfl hlv383_7 (a := x389.toInt) rfl (by omega) (by omega) (by decide) (by decide) (fun x432 ex432 => ?_)
          obtain ⟨lv433, elv433⟩ : ∃ l, l = aj_set1 lv383 7 (.int x432) := ⟨_, rfl⟩
          rw [← elv433]
          have hlv433_0 : aj_lv lv433 0 = some (.ref 117) := cw_e1 elv433 hlv383_0 (by decide) (Or.inl (by decide))
          have hlv433_1 : aj_lv lv433 1 = some (.int x384) := cw_e1 elv433 hlv383_1 (by decide) (Or.inl (by decide))
          have hlv433_3 : aj_lv lv433 3 = some (.int x385) := cw_e1 elv433 hlv383_3 (by decide) (Or.inl (by decide))
          have hlv433_4 : aj_lv lv433 4 = some (.int x386) := cw_e1 elv433 hlv383_4 (by decide) (Or.inl (by decide))
          have hlv433_5 : aj_lv lv433 5 = some (.int x387) := cw_e1 elv433 hlv383_5 (by decide) (Or.inl (by decide))
          have hlv433_6 : aj_lv lv433 6 = some (.int x388) := cw_e1 elv433 hlv383_6 (by decide) (Or.inr rfl)
          have hlv433_7 : aj_lv lv433 7 = some (.int x432) := by rw [elv433]; exact ak_set1_eq _ _ _
          show aw_W _ _ _ _ 362 lv433 [] _ _
          refine aw_n aj_d276 rfl rfl ?_
          exact ihL199_345 (aw_wa (aw_wa S382 17 ((((49 : Int) * 30 + x389.toInt) * 8 + x386.toInt)).toNat (aj_nar 4 x422)) 18 ((((49 : Int) * 30 + x389.toInt) * 8 + x386.toInt)).toNat (aj_nar 0 x427)) lv433 (x384) (x385) (x386) (x387) (x388) (x432) hlv433_0 hlv433_1 hlv433_3 hlv433_4 hlv433_5 hlv433_6 hlv433_7 ⟨(hI431).1, hG430⟩ fr429 (by omega) (by omega) (by omega) (by omega) (by omega) (by omega) (show _ ≤ ((S382.1 30)).toInt by omega) (ar_J_eq rfl rfl rfl J225) (by omega) (by omega) (by omega) (by omega) (by omega) (by omega) (by omega)
      · have q416 : x388.toInt ≥ (0 : Int) := aw_t_lt (a := x388.toInt) (b := (0 : Int)) rfl rfl q416
        refine aw_l2 aj_d276 rfl rfl hlv383_0 ?_
        refine aw_l0 aj_d276 rfl rfl hlv383_1 ?_
        refine aw_l0 aj_d276 rfl rfl hlv383_7 ?_
        refine aw_l2 aj_d276 rfl rfl hlv383_0 ?_
        refine aw_g hU.1 aj_d276 rfl rfl (by decide) (v := .ref 131) rfl ?_
        refine aw_l0 aj_d276 rfl rfl hlv383_3 ?_
        have ib434 : (x385.toInt).toNat = (x384.toInt).toNat + 1 := by omega
        refine aw_ld (k := 14) hU.1 aj_d276 (Or.inl ⟨rfl, rfl⟩) rfl (by decide) (by decide) rfl (a := x385.toInt) rfl (by omega) (by omega) (fun x435 ex435 => ?_)
        have bx435 : 0 ≤ x435.toInt ∧ x435.toInt ≤ 30 := by
          rw [ex435]
          exact aw_bd_a hs (hI394).1 (k := 14) (by decide) (by decide) rfl (by decide) rfl (by omega)
        have ftx435 : x435.toInt = (S382.2.2.1 14 (x385.toInt).toNat).toInt := congrArg Int32.toInt (ex435.trans (congrFun rfl _))
        rw [ib434] at ftx435
        have jb := J225.2
        refine aw_div aj_d276 rfl (a := x389.toInt) (b := x435.toInt) rfl rfl (by omega) (by omega) (fun x436 ex436 => ?_)
        have dvx436 := ar_div (a := x389.toInt) (b := x435.toInt) (by omega) (by omega)
        rw [← ex436] at dvx436
        refine aw_l0 aj_d276 rfl rfl hlv383_6 ?_
        refine aw_l0 aj_d276 rfl rfl hlv383_9 ?_
        refine aw_k hU.1 aj_d276 rfl rfl [_, _, _, _] rfl rfl rfl (Nat.le_of_ble_eq_true rfl) (ar_valueAt hU (hI394).1 (aw_G_B hI392.2).1 (by omega) (t := x384) (r := x436) (c := x388) (x := x391) (by omega) (by omega) (by omega) (by omega) (by omega)) ?_
        rintro _ zb437 ⟨fb437, b437, rfl⟩
        rw [fb437]
        show aw_W _ _ _ _ 262 lv383 [.int b437] _ _
        refine aw_l2 aj_d276 rfl rfl hlv383_0 ?_
        refine aw_l0 aj_d276 rfl rfl hlv383_3 ?_
        refine aw_l0 aj_d276 rfl rfl hlv383_8 ?_
        refine aw_l0 aj_d276 rfl rfl hlv383_5 ?_
        refine aw_l0 aj_d276 rfl rfl hlv383_9 ?_
        refine aw_k hU.1 aj_d276 rfl rfl [_, _, _, _] rfl rfl rfl (Nat.le_of_ble_eq_true rfl) (ar_valueAt hU (hI394).1 (aw_G_B hI392.2).1 (by omega) (t := x385) (r := x390) (c := x387) (x := x391) (by omega) (by omega) (by omega) (by omega) (by omega)) ?_
        rintro _ zb438 ⟨fb438, b438, rfl⟩
        rw [fb438]
        show aw_W _ _ _ _ 273 lv383 [.int b438, .int b437] _ _
        refine aw_c (tgt := 294) aj_d276 rfl rfl (fun q439 => ?_) (fun q439 => ?_)
        · have q439 : b437.toInt = b438.toInt := aw_t_eq (a := b437.toInt) (b := b438.toInt) rfl rfl q439
          refine aw_inc aj_d276 rfl hlv383_9 (a := x391.toInt) rfl (by omega) (by omega) (by decide) (by decide) (fun x440 ex440 => ?_)
          obtain ⟨lv441, elv441⟩ : ∃ l, l = aj_set1 lv383 9 (.int x440) := ⟨_, rfl⟩
          rw [← elv441]
          have hlv441_0 : aj_lv lv441 0 = some (.ref 117) := cw_e1 elv441 hlv383_0 (by decide) (Or.inl (by decide))
          have hlv441_1 : aj_lv lv441 1 = some (.int x384) := cw_e1 elv441 hlv383_1 (by decide) (Or.inl (by decide))
          have hlv441_3 : aj_lv lv441 3 = some (.int x385) := cw_e1 elv441 hlv383_3 (by decide) (Or.inl (by decide))
          have hlv441_4 : aj_lv lv441 4 = some (.int x386) := cw_e1 elv441 hlv383_4 (by decide) (Or.inl (by decide))
          have hlv441_5 : aj_lv lv441 5 = some (.int x387) := cw_e1 elv441 hlv383_5 (by decide) (Or.inl (by decide))
          have hlv441_6 : aj_lv lv441 6 = some (.int x388) := cw_e1 elv441 hlv383_6 (by decide) (Or.inl (by decide))
          have hlv441_7 : aj_lv lv441 7 = some (.int x389) := cw_e1 elv441 hlv383_7 (by decide) (Or.inl (by decide))
          have hlv441_8 : aj_lv lv441 8 = some (.int x390) := cw_e1 elv441 hlv383_8 (by decide) (Or.inr rfl)
          have hlv441_9 : aj_lv lv441 9 = some (.int x440) := by rw [elv441]; exact ak_set1_eq _ _ _
          show aw_W _ _ _ _ 297 lv441 [] _ _
          refine aw_n aj_d276 rfl rfl ?_
          exact ihL225_380 S382 lv441 (x384) (x385) (x386) (x387) (x388) (x389) (x390) (x440) hlv441_0 hlv441_1 hlv441_3 hlv441_4 hlv441_5 hlv441_6 hlv441_7 hlv441_8 hlv441_9 ⟨(hI394).1, hI392.2⟩ fr393 (by omega) (by omega) (by omega) (by omega) (by omega) (by omega) (by omega) (by omega) (show _ ≤ ((S382.1 30)).toInt by omega) J225 (by omega) (by omega) (by omega) (by omega) (by omega) (by omega) (by rw [show (S382.2.2.1 14) = S382.2.2.1 14 from rfl]; omega) (by omega) (by omega)
        · have q439 : b437.toInt ≠ b438.toInt := aw_t_eq (a := b437.toInt) (b := b438.toInt) rfl rfl q439
          refine aw_l2 aj_d276 rfl rfl hlv383_0 ?_
          refine aw_g hU.1 aj_d276 rfl rfl (by decide) (v := .ref 136) rfl ?_
          refine aw_l2 aj_d276 rfl rfl hlv383_0 ?_
          refine aw_n aj_d276 rfl rfl ?_
          refine aw_l0 aj_d276 rfl rfl hlv383_7 ?_
          refine aw_k hU.1 aj_d276 rfl rfl [_, _] rfl rfl rfl (Nat.le_of_ble_eq_true rfl) (ar_at (by omega) (a := (49 : Int)) (b := x389.toInt) rfl rfl (by omega) (by omega)) ?_
          rintro _ zx442 ⟨fx442, x442, rfl, ex442⟩
          rw [fx442]
          show aw_W _ _ _ _ 288 lv383 [.int x442, .ref 136] _ _
          refine aw_l0 aj_d276 rfl rfl hlv383_9 ?_
          refine aw_n aj_d276 rfl rfl ?_
          refine aw_ks aj_d276 rfl rfl rfl [_, _, _, _] rfl rfl (Nat.le_of_ble_eq_true rfl) (ar_put hU (hI394).1 (by omega) (k := 19) (n := 48000) (by decide) (by decide) rfl rfl (a := (((49 : Int) * 30 + x389.toInt) * 32)) (b := x391.toInt) ex442 rfl (by omega) (by omega) (by omega) (by decide)) ?_
          rintro _ S443 ⟨hT443, fc443, rfl, pe443⟩
          have fr444 := aw_fr_tr fr393 (aw_fr_sub (F := []) (A := [19]) (by decide) (by decide) fc443)
          have hI445 : aw_I s h (aw_sm S382) S443 := ⟨hT443, aw_sm_tr hI394.2 (aw_fr_sm (by decide) (by decide) (by decide) (F := []) (A := [19]) fc443)⟩
          show aw_W _ _ _ _ 294 lv383 [] _ _
          refine aw_inc aj_d276 rfl hlv383_9 (a := x391.toInt) rfl (by omega) (by omega) (by decide) (by decide) (fun x446 ex446 => ?_)
          obtain ⟨lv447, elv447⟩ : ∃ l, l = aj_set1 lv383 9 (.int x446) := ⟨_, rfl⟩
          rw [← elv447]
          have hlv447_0 : aj_lv lv447 0 = some (.ref 117) := cw_e1 elv447 hlv383_0 (by decide) (Or.inl (by decide))
          have hlv447_1 : aj_lv lv447 1 = some (.int x384) := cw_e1 elv447 hlv383_1 (by decide) (Or.inl (by decide))
          have hlv447_3 : aj_lv lv447 3 = some (.int x385) := cw_e1 elv447 hlv383_3 (by decide) (Or.inl (by decide))
          have hlv447_4 : aj_lv lv447 4 = some (.int x386) := cw_e1 elv447 hlv383_4 (by decide) (Or.inl (by decide))
          have hlv447_5 : aj_lv lv447 5 = some (.int x387) := cw_e1 elv447 hlv383_5 (by decide) (Or.inl (by decide))
          have hlv447_6 : aj_lv lv447 6 = some (.int x388) := cw_e1 elv447 hlv383_6 (by decide) (Or.inl (by decide))
          have hlv447_7 : aj_lv lv447 7 = some (.int x389) := cw_e1 elv447 hlv383_7 (by decide) (Or.inl (by decide))
          have hlv447_8 : aj_lv lv447 8 = some (.int x390) := cw_e1 elv447 hlv383_8 (by decide) (Or.inr rfl)
          have hlv447_9 : aj_lv lv447 9 = some (.int x446) := by rw [elv447]; exact ak_set1_eq _ _ _
          show aw_W _ _ _ _ 297 lv447 [] _ _
          refine aw_n aj_d276 rfl rfl ?_
          have c448 : (S443.1 30).toInt = (S382.1 30).toInt := (congrArg Int32.toInt (fc443.1 30 (by decide)).1).trans rfl
          have b449 : 0 ≤ (S443.1 30).toInt ∧ (S443.1 30).toInt ≤ 1001 := aw_bd_f hs (hI445).1 (by decide) rfl
          exact ihL225_380 S443 lv447 (x384) (x385) (x386) (x387) (x388) (x389) (x390) (x446) hlv447_0 hlv447_1 hlv447_3 hlv447_4 hlv447_5 hlv447_6 hlv447_7 hlv447_8 hlv447_9 ⟨(hI445).1, (aw_G_sm hI445.2 hI392.2)⟩ fr444 (by omega) (by omega) (by omega) (by omega) (by omega) (by omega) (by omega) (by omega) (show _ ≤ ((S443.1 30)).toInt by omega) (ar_J_eq ((fc443.2 14 (by decide)).1.trans rfl) ((fc443.2 15 (by decide)).1.trans rfl) ((fc443.2 16 (by decide)).2.trans rfl) J225) (by omega) (by omega) (by omega) (by omega) (by omega) (by omega) (by rw [show (S443.2.2.1 14) = S382.2.2.1 14 from ((fc443.2 14 (by decide)).1.trans rfl)]; omega) (by omega) (by omega)
theorem ar_join_L199_345 (hU : aw_U tb s h) (hd : 4 ≤ d + 1) (x0 : Nat) (hj : ar_JP S x0) (N88 : Nat) (S249 : aj_S) (x251 : Int32) (x252 : Int32) (x253 : Int32) (x254 : Int32) (ihL88_247 : ∀ (S249 : aj_S) (lv250 : aj_V) (x251 : Int32) (x252 : Int32) (x253 : Int32) (x254 : Int32), (aj_lv lv250 0 = some (.ref 117)) → (aj_lv lv250 1 = some (.int x251)) → (aj_lv lv250 3 = some (.int x252)) → (aj_lv lv250 4 = some (.int x253)) → (aj_lv lv250 5 = some (.int x254)) → (aw_I s h (aw_G g) S249) → (aw_fr [24, 25, 31] [14, 15, 16, 17, 18, 19] S S249) → (20 ≤ x251.toInt ∧ x251.toInt ≤ 47) → (21 ≤ x252.toInt ∧ x252.toInt ≤ 48) → (0 ≤ x253.toInt ∧ x253.toInt ≤ 6) → (0 ≤ x254.toInt ∧ x254.toInt ≤ 6) → ((S.1 30).toInt + 0 ≤ (S249.1 30).toInt) → (ar_J S S249 (x251.toInt).toNat) → (x252.toInt = x251.toInt + 1) → (x253.toInt = (S.2.2.1 15 (x251.toInt).toNat).toInt) → (x0 = (x251.toInt).toNat) → (6 - x254.toInt).toNat < N88 → aw_W tb h d aj_m276 88 lv250 [] S249 ((ar_QB s h [24, 25, 31] [14, 15, 16, 17, 18, 19] S (fun S' => aw_G g S' ∧ (S.1 30).toInt ≤ (S'.1 30).toInt) (fun S' => aw_G g S' ∧ (S.1 30).toInt + 0 ≤ (S'.1 30).toInt)))) (hm88 : (6 - x254.toInt).toNat < N88 + 1) (N127 : Nat) (S262 : aj_S) (x264 : Int32) (x265 : Int32) (x266 : Int32) (x267 : Int32) (ihL127_260 : ∀ (S262 : aj_S) (lv263 : aj_V) (x264 : Int32) (x265 : Int32) (x266 : Int32) (x267 : Int32), (aj_lv lv263 0 = some (.ref 117)) → (aj_lv lv263 1 = some (.int x264)) → (aj_lv lv263 3 = some (.int x265)) → (aj_lv lv263 4 = some (.int x266)) → (aj_lv lv263 5 = some (.int x267)) → (aw_I s h (aw_G g) S262) → (aw_fr [24, 25, 31] [14, 15, 16, 17, 18, 19] S S262) → (20 ≤ x264.toInt ∧ x264.toInt ≤ 47) → (21 ≤ x265.toInt ∧ x265.toInt ≤ 48) → (0 ≤ x266.toInt ∧ x266.toInt ≤ 6) → (0 ≤ x267.toInt ∧ x267.toInt ≤ 30) → ((S.1 30).toInt + 0 ≤ (S262.1 30).toInt) → (ar_J S S262 (x264.toInt).toNat) → (x265.toInt = x264.toInt + 1) → (x266.toInt = (S.2.2.1 15 (x264.toInt).toNat).toInt) → (x0 = (x264.toInt).toNat) → (30 - x267.toInt).toNat < N127 → aw_W tb h d aj_m276 127 lv263 [] S262 ((ar_QB s h [24, 25, 31] [14, 15, 16, 17, 18, 19] S (fun S' => aw_G g S' ∧ (S.1 30).toInt ≤ (S'.1 30).toInt) (fun S' => aw_G g S' ∧ (S.1 30).toInt + 0 ≤ (S'.1 30).toInt)))) (hm127 : (30 - x267.toInt).toNat < N127 + 1) (N166 : Nat) (S276 : aj_S) (x278 : Int32) (x279 : Int32) (x280 : Int32) (x281 : Int32) (ihL166_274 : ∀ (S276 : aj_S) (lv277 : aj_V) (x278 : Int32) (x279 : Int32) (x280 : Int32) (x281 : Int32), (aj_lv lv277 0 = some (.ref 117)) → (aj_lv lv277 1 = some (.int x278)) → (aj_lv lv277 3 = some (.int x279)) → (aj_lv lv277 4 = some (.int x280)) → (aj_lv lv277 5 = some (.int x281)) → (aw_I s h (aw_G g) S276) → (aw_fr [24, 25, 31] [14, 15, 16, 17, 18, 19] S S276) → (20 ≤ x278.toInt ∧ x278.toInt ≤ 47) → (21 ≤ x279.toInt ∧ x279.toInt ≤ 48) → (0 ≤ x280.toInt ∧ x280.toInt ≤ 6) → (0 ≤ x281.toInt ∧ x281.toInt ≤ 6) → ((S.1 30).toInt + 0 ≤ (S276.1 30).toInt) → (ar_J S S276 (x278.toInt).toNat) → (x279.toInt = x278.toInt + 1) → (x280.toInt = (S.2.2.1 15 (x278.toInt).toNat).toInt + ar_nw S (x278.toInt).toNat (x281.toInt).toNat) → (x281.toInt ≤ (S.2.2.1 15 ((x278.toInt).toNat + 1)).toInt) → (x0 = (x278.toInt).toNat) → (6 - x281.toInt).toNat < N166 → aw_W tb h d aj_m276 166 lv277 [] S276 ((ar_QB s h [24, 25, 31] [14, 15, 16, 17, 18, 19] S (fun S' => aw_G g S' ∧ (S.1 30).toInt ≤ (S'.1 30).toInt) (fun S' => aw_G g S' ∧ (S.1 30).toInt + 0 ≤ (S'.1 30).toInt)))) (hm166 : (6 - x281.toInt).toNat < N166 + 1) : ∀ (N : Nat) (S347 : aj_S) (lv348 : aj_V) (x349 : Int32) (x350 : Int32) (x351 : Int32) (x352 : Int32) (x353 : Int32) (x354 : Int32), (aj_lv lv348 0 = some (.ref 117)) → (aj_lv lv348 1 = some (.int x349)) → (aj_lv lv348 3 = some (.int x350)) → (aj_lv lv348 4 = some (.int x351)) → (aj_lv lv348 5 = some (.int x352)) → (aj_lv lv348 6 = some (.int x353)) → (aj_lv lv348 7 = some (.int x354)) → (aw_I s h (aw_G g) S347) → (aw_fr [24, 25, 31] [14, 15, 16, 17, 18, 19] S S347) → (20 ≤ x349.toInt ∧ x349.toInt ≤ 47) → (21 ≤ x350.toInt ∧ x350.toInt ≤ 48) → (0 ≤ x351.toInt ∧ x351.toInt ≤ 6) → (0 ≤ x352.toInt ∧ x352.toInt ≤ 5) → ((-1) ≤ x353.toInt ∧ x353.toInt ≤ 5) → (0 ≤ x354.toInt ∧ x354.toInt ≤ 30) → ((S.1 30).toInt + 0 ≤ (S347.1 30).toInt) → (ar_J S S347 (x349.toInt).toNat) → (x350.toInt = x349.toInt + 1) → (x351.toInt = (S.2.2.1 15 (x349.toInt).toNat).toInt + ar_nw S (x349.toInt).toNat (x352.toInt).toNat) → (x352.toInt + 1 ≤ (S.2.2.1 15 ((x349.toInt).toNat + 1)).toInt) → (((0 ≤ x353.toInt ∧ ar_nw S (x349.toInt).toNat ((x352.toInt).toNat + 1) = ar_nw S (x349.toInt).toNat (x352.toInt).toNat) ∨ (x353.toInt = -1 ∧ ar_nw S (x349.toInt).toNat ((x352.toInt).toNat + 1) = ar_nw S (x349.toInt).toNat (x352.toInt).toNat + 1))) → (x352.toInt = x281.toInt) → (x0 = (x349.toInt).toNat) → (30 - x354.toInt).toNat < N → aw_W tb h d aj_m276 199 lv348 [] S347 ((ar_QB s h [24, 25, 31] [14, 15, 16, 17, 18, 19] S (fun S' => aw_G g S' ∧ (S.1 30).toInt ≤ (S'.1 30).toInt) (fun S' => aw_G g S' ∧ (S.1 30).toInt + 0 ≤ (S'.1 30).toInt))) := by
  have hs : aw_sT s := aw_hy_sT hU.2.2
  intro N199
  induction N199 with
  | zero =>
    intro S347 lv348 x349 x350 x351 x352 x353 x354 hlv348_0 hlv348_1 hlv348_3 hlv348_4 hlv348_5 hlv348_6 hlv348_7 hI355 fr356 bx349 bx350 bx351 bx352 bx353 bx354 ck199 J199 b199 n199 c199 s199 o199 x199 hm199
    omega
  | succ N199 ihL199_345 =>
    intro S347 lv348 x349 x350 x351 x352 x353 x354 hlv348_0 hlv348_1 hlv348_3 hlv348_4 hlv348_5 hlv348_6 hlv348_7 hI355 fr356 bx349 bx350 bx351 bx352 bx353 bx354 ck199 J199 b199 n199 c199 s199 o199 x199 hm199
    have hI357 : aw_I s h (aw_sm S347) S347 := ⟨hI355.1, aw_sm_rf⟩
    have b358 : 0 ≤ (S347.1 30).toInt ∧ (S347.1 30).toInt ≤ 1001 := aw_bd_f hs (hI357).1 (by decide) rfl
    have hjx := hj
    rw [x199] at hjx
    obtain ⟨hj1, hj2, hj3⟩ := hjx
    have nwl : ∀ c : Nat, (c : Int) ≤ (S.2.2.1 15 ((x349.toInt).toNat + 1)).toInt → ar_nw S (x349.toInt).toNat c ≤ ar_nw S (x349.toInt).toNat ((S.2.2.1 15 ((x349.toInt).toNat + 1)).toInt).toNat := fun c hc => ar_nw_le (by omega)
    have nwc := nwl ((x352.toInt).toNat + 1) (by omega)
    refine aw_l0 aj_d276 rfl rfl hlv348_7 ?_
    refine aw_l2 aj_d276 rfl rfl hlv348_0 ?_
    refine aw_g hU.1 aj_d276 rfl rfl (by decide) (v := .ref 131) rfl ?_
    refine aw_n aj_d276 rfl rfl ?_
    refine aw_ld (k := 14) hU.1 aj_d276 (Or.inl ⟨rfl, rfl⟩) rfl (by decide) (by decide) rfl (a := (49 : Int)) rfl (by omega) (by omega) (fun x359 ex359 => ?_)
    have bx359 : 0 ≤ x359.toInt ∧ x359.toInt ≤ 30 := by
      rw [ex359]
      exact aw_bd_a hs (hI357).1 (k := 14) (by decide) (by decide) rfl (by decide) rfl (by omega)
    have ftx359 : x359.toInt = (S347.2.2.1 14 49).toInt := congrArg Int32.toInt (ex359.trans (congrFun rfl _))
    refine aw_c (tgt := 365) aj_d276 rfl rfl (fun q360 => ?_) (fun q360 => ?_)
    · have q360 : x354.toInt ≥ x359.toInt := aw_t_ge (a := x354.toInt) (b := x359.toInt) rfl rfl q360
      refine aw_l0 aj_d276 rfl rfl hlv348_6 ?_
      refine aw_z (tgt := 396) aj_d276 rfl rfl (fun q361 => ?_) (fun q361 => ?_)
      · have q361 : x353.toInt ≥ (0 : Int) := aw_t_ge (a := x353.toInt) (b := (0 : Int)) rfl rfl q361
        refine aw_inc aj_d276 rfl hlv348_5 (a := x352.toInt) rfl (by omega) (by omega) (by decide) (by decide) (fun x362 ex362 => ?_)
        obtain ⟨lv363, elv363⟩ : ∃ l, l = aj_set1 lv348 5 (.int x362) := ⟨_, rfl⟩
        rw [← elv363]
        have hlv363_0 : aj_lv lv363 0 = some (.ref 117) := cw_e1 elv363 hlv348_0 (by decide) (Or.inl (by decide))
        have hlv363_1 : aj_lv lv363 1 = some (.int x349) := cw_e1 elv363 hlv348_1 (by decide) (Or.inl (by decide))
        have hlv363_3 : aj_lv lv363 3 = some (.int x350) := cw_e1 elv363 hlv348_3 (by decide) (Or.inl (by decide))
        have hlv363_4 : aj_lv lv363 4 = some (.int x351) := cw_e1 elv363 hlv348_4 (by decide) (Or.inr rfl)
        have hlv363_5 : aj_lv lv363 5 = some (.int x362) := by rw [elv363]; exact ak_set1_eq _ _ _
        show aw_W _ _ _ _ 399 lv363 [] _ _
        refine aw_n aj_d276 rfl rfl ?_
        exact ihL166_274 S347 lv363 (x349) (x350) (x351) (x362) hlv363_0 hlv363_1 hlv363_3 hlv363_4 hlv363_5 ⟨(hI357).1, hI355.2⟩ fr356 (by omega) (by omega) (by omega) (by omega) (show _ ≤ ((S347.1 30)).toInt by omega) J199 (by omega) (by rw [show (x362.toInt).toNat = (x352.toInt).toNat + 1 by omega]; omega) (by omega) (by omega) (by omega)
      · have q361 : x353.toInt < (0 : Int) := aw_t_ge (a := x353.toInt) (b := (0 : Int)) rfl rfl q361
        refine aw_l2 aj_d276 rfl rfl hlv348_0 ?_
        refine aw_g hU.1 aj_d276 rfl rfl (by decide) (v := .ref 133) rfl ?_
        refine aw_n aj_d276 rfl rfl ?_
        refine aw_l0 aj_d276 rfl rfl hlv348_4 ?_
        refine aw_add aj_d276 rfl (a := (392 : Int)) (b := x351.toInt) rfl rfl (by omega) (by omega) (fun x364 ex364 => ?_)
        refine aw_l2 aj_d276 rfl rfl hlv348_0 ?_
        refine aw_g hU.1 aj_d276 rfl rfl (by decide) (v := .ref 133) rfl ?_
        refine aw_l0 aj_d276 rfl rfl hlv348_3 ?_
        refine aw_n aj_d276 rfl rfl ?_
        refine aw_mul aj_d276 rfl (a := x350.toInt) (b := (8 : Int)) rfl rfl (by omega) (by omega) (fun x365 ex365 => ?_)
        refine aw_l0 aj_d276 rfl rfl hlv348_5 ?_
        refine aw_add aj_d276 rfl (a := x365.toInt) (b := x352.toInt) rfl rfl (by omega) (by omega) (fun x366 ex366 => ?_)
        refine aw_ldl (k := 16) hU.1 aj_d276 rfl (by decide) (by decide) rfl (a := x366.toInt) rfl (by omega) (by omega) (fun y367 ey367 => ?_)
        refine aw_stl (k := 16) hU.1 aj_d276 rfl (by decide) (by decide) rfl (a := x364.toInt) rfl (by omega) (by omega) ?_
        have hI368 := aw_I_b (aw_UV hU aw_Gs_sm) (k := 16) (j := (x364.toInt).toNat) (v := y367) hI357 (by decide) (by decide) (by decide) rfl rfl
        have fr369 := aw_fr_b (k := 16) (j := (x364.toInt).toNat) (v := y367) (by decide) fr356
        have J371 : ar_J S (aw_wb S347 16 (x364.toInt).toNat y367) (x349.toInt).toNat := (ar_J_col (by omega) J199)
        refine aw_inc aj_d276 rfl hlv348_4 (a := x351.toInt) rfl (by omega) (by omega) (by decide) (by decide) (fun x372 ex372 => ?_)
        obtain ⟨lv373, elv373⟩ : ∃ l, l = aj_set1 lv348 4 (.int x372) := ⟨_, rfl⟩
        rw [← elv373]
        have hlv373_0 : aj_lv lv373 0 = some (.ref 117) := cw_e1 elv373 hlv348_0 (by decide) (Or.inl (by decide))
        have hlv373_1 : aj_lv lv373 1 = some (.int x349) := cw_e1 elv373 hlv348_1 (by decide) (Or.inl (by decide))
        have hlv373_3 : aj_lv lv373 3 = some (.int x350) := cw_e1 elv373 hlv348_3 (by decide) (Or.inr rfl)
        have hlv373_5 : aj_lv lv373 5 = some (.int x352) := cw_e1 elv373 hlv348_5 (by decide) (Or.inl (by decide))
        have hlv373_4 : aj_lv lv373 4 = some (.int x372) := by rw [elv373]; exact ak_set1_eq _ _ _
        show aw_W _ _ _ _ 396 lv373 [] _ _
        refine aw_inc aj_d276 rfl hlv373_5 (a := x352.toInt) rfl (by omega) (by omega) (by decide) (by decide) (fun x374 ex374 => ?_)
        obtain ⟨lv375, elv375⟩ : ∃ l, l = aj_set1 lv373 5 (.int x374) := ⟨_, rfl⟩
        rw [← elv375]
        have hlv375_0 : aj_lv lv375 0 = some (.ref 117) := cw_e1 elv375 hlv373_0 (by decide) (Or.inl (by decide))
        have hlv375_1 : aj_lv lv375 1 = some (.int x349) := cw_e1 elv375 hlv373_1 (by decide) (Or.inl (by decide))
        have hlv375_3 : aj_lv lv375 3 = some (.int x350) := cw_e1 elv375 hlv373_3 (by decide) (Or.inl (by decide))
        have hlv375_4 : aj_lv lv375 4 = some (.int x372) := cw_e1 elv375 hlv373_4 (by decide) (Or.inr rfl)
        have hlv375_5 : aj_lv lv375 5 = some (.int x374) := by rw [elv375]; exact ak_set1_eq _ _ _
        show aw_W _ _ _ _ 399 lv375 [] _ _
        refine aw_n aj_d276 rfl rfl ?_
        exact ihL166_274 (aw_wb S347 16 (x364.toInt).toNat y367) lv375 (x349) (x350) (x372) (x374) hlv375_0 hlv375_1 hlv375_3 hlv375_4 hlv375_5 ⟨(hI368).1, (aw_G_sm hI368.2 hI355.2)⟩ fr369 (by omega) (by omega) (by omega) (by omega) (show _ ≤ ((S347.1 30)).toInt by omega) J371 (by omega) (by rw [show (x374.toInt).toNat = (x352.toInt).toNat + 1 by omega]; omega) (by omega) (by omega) (by omega)
    · have q360 : x354.toInt < x359.toInt := aw_t_ge (a := x354.toInt) (b := x359.toInt) rfl rfl q360
      refine aw_l0 aj_d276 rfl rfl hlv348_7 ?_
      refine aw_l2 aj_d276 rfl rfl hlv348_0 ?_
      refine aw_g hU.1 aj_d276 rfl rfl (by decide) (v := .ref 131) rfl ?_
      refine aw_l0 aj_d276 rfl rfl hlv348_3 ?_
      have ib376 : (x350.toInt).toNat = (x349.toInt).toNat + 1 := by omega
      refine aw_ld (k := 14) hU.1 aj_d276 (Or.inl ⟨rfl, rfl⟩) rfl (by decide) (by decide) rfl (a := x350.toInt) rfl (by omega) (by omega) (fun x377 ex377 => ?_)
      have bx377 : 0 ≤ x377.toInt ∧ x377.toInt ≤ 30 := by
        rw [ex377]
        exact aw_bd_a hs (hI357).1 (k := 14) (by decide) (by decide) rfl (by decide) rfl (by omega)
      have ftx377 : x377.toInt = (S347.2.2.1 14 (x350.toInt).toNat).toInt := congrArg Int32.toInt (ex377.trans (congrFun rfl _))
      rw [ib376] at ftx377
      have jb := J199.2
      refine aw_rem aj_d276 rfl (a := x354.toInt) (b := x377.toInt) rfl rfl (by omega) (by omega) (fun x378 ex378 => ?_)
      have dvx378 := ar_mod (a := x354.toInt) (b := x377.toInt) (by omega)
      rw [← ex378] at dvx378
      refine aw_t0 (j := 8) aj_d276 rfl (by decide) rfl ?_
      obtain ⟨lv379, elv379⟩ : ∃ l, l = aj_set1 lv348 8 (.int x378) := ⟨_, rfl⟩
      rw [← elv379]
      have hlv379_0 : aj_lv lv379 0 = some (.ref 117) := cw_e1 elv379 hlv348_0 (by decide) (Or.inl (by decide))
      have hlv379_1 : aj_lv lv379 1 = some (.int x349) := cw_e1 elv379 hlv348_1 (by decide) (Or.inl (by decide))
      have hlv379_3 : aj_lv lv379 3 = some (.int x350) := cw_e1 elv379 hlv348_3 (by decide) (Or.inl (by decide))
      have hlv379_4 : aj_lv lv379 4 = some (.int x351) := cw_e1 elv379 hlv348_4 (by decide) (Or.inl (by decide))
      have hlv379_5 : aj_lv lv379 5 = some (.int x352) := cw_e1 elv379 hlv348_5 (by decide) (Or.inl (by decide))
      have hlv379_6 : aj_lv lv379 6 = some (.int x353) := cw_e1 elv379 hlv348_6 (by decide) (Or.inl (by decide))
      have hlv379_7 : aj_lv lv379 7 = some (.int x354) := cw_e1 elv379 hlv348_7 (by decide) (Or.inr rfl)
      have hlv379_8 : aj_lv lv379 8 = some (.int x378) := by rw [elv379]; exact ak_set1_eq _ _ _
      show aw_W _ _ _ _ 222 lv379 [] _ _
      refine aw_n aj_d276 rfl rfl ?_
      refine aw_t0 (j := 9) aj_d276 rfl (by decide) rfl ?_
      obtain ⟨lv380, elv380⟩ : ∃ l, l = aj_set1 lv379 9 (.int (Int32.ofInt 0)) := ⟨_, rfl⟩
      rw [← elv380]
      have hlv380_0 : aj_lv lv380 0 = some (.ref 117) := cw_e1 elv380 hlv379_0 (by decide) (Or.inl (by decide))
      have hlv380_1 : aj_lv lv380 1 = some (.int x349) := cw_e1 elv380 hlv379_1 (by decide) (Or.inl (by decide))
      have hlv380_3 : aj_lv lv380 3 = some (.int x350) := cw_e1 elv380 hlv379_3 (by decide) (Or.inl (by decide))
      have hlv380_4 : aj_lv lv380 4 = some (.int x351) := cw_e1 elv380 hlv379_4 (by decide) (Or.inl (by decide))
      have hlv380_5 : aj_lv lv380 5 = some (.int x352) := cw_e1 elv380 hlv379_5 (by decide) (Or.inl (by decide))
      have hlv380_6 : aj_lv lv380 6 = some (.int x353) := cw_e1 elv380 hlv379_6 (by decide) (Or.inl (by decide))
      have hlv380_7 : aj_lv lv380 7 = some (.int x354) := cw_e1 elv380 hlv379_7 (by decide) (Or.inl (by decide))
      have hlv380_8 : aj_lv lv380 8 = some (.int x378) := cw_e1 elv380 hlv379_8 (by decide) (Or.inr rfl)
      have hlv380_9 : aj_lv lv380 9 = some (.int (Int32.ofInt 0)) := by rw [elv380]; exact ak_set1_eq _ _ _
      show aw_W _ _ _ _ 225 lv380 [] _ _
      exact (ar_join_L225_380 hU hd x0 hj N88 S249 x251 x252 x253 x254 ihL88_247 hm88 N127 S262 x264 x265 x266 x267 ihL127_260 hm127 N166 S276 x278 x279 x280 x281 ihL166_274 hm166 N199 S347 x349 x350 x351 x352 x353 x354 ihL199_345 hm199) _ S347 lv380 (x349) (x350) (x351) (x352) (x353) (x354) (x378) ((Int32.ofInt 0)) hlv380_0 hlv380_1 hlv380_3 hlv380_4 hlv380_5 hlv380_6 hlv380_7 hlv380_8 hlv380_9 ⟨(hI357).1, hI355.2⟩ fr356 (by omega) (by omega) (by omega) (by omega) (by omega) (by omega) (by omega) (by first | omega | decide) (show _ ≤ ((S347.1 30)).toInt by omega) J199 (by omega) (by omega) (by omega) (by omega) (by omega) (by omega) (by rw [show (S347.2.2.1 14) = S347.2.2.1 14 from rfl]; omega) (by omega) (Nat.lt_succ_self _)
theorem ar_join_L166_274 (hU : aw_U tb s h) (hd : 4 ≤ d + 1) (x0 : Nat) (hj : ar_JP S x0) (N88 : Nat) (S249 : aj_S) (x251 : Int32) (x252 : Int32) (x253 : Int32) (x254 : Int32) (ihL88_247 : ∀ (S249 : aj_S) (lv250 : aj_V) (x251 : Int32) (x252 : Int32) (x253 : Int32) (x254 : Int32), (aj_lv lv250 0 = some (.ref 117)) → (aj_lv lv250 1 = some (.int x251)) → (aj_lv lv250 3 = some (.int x252)) → (aj_lv lv250 4 = some (.int x253)) → (aj_lv lv250 5 = some (.int x254)) → (aw_I s h (aw_G g) S249) → (aw_fr [24, 25, 31] [14, 15, 16, 17, 18, 19] S S249) → (20 ≤ x251.toInt ∧ x251.toInt ≤ 47) → (21 ≤ x252.toInt ∧ x252.toInt ≤ 48) → (0 ≤ x253.toInt ∧ x253.toInt ≤ 6) → (0 ≤ x254.toInt ∧ x254.toInt ≤ 6) → ((S.1 30).toInt + 0 ≤ (S249.1 30).toInt) → (ar_J S S249 (x251.toInt).toNat) → (x252.toInt = x251.toInt + 1) → (x253.toInt = (S.2.2.1 15 (x251.toInt).toNat).toInt) → (x0 = (x251.toInt).toNat) → (6 - x254.toInt).toNat < N88 → aw_W tb h d aj_m276 88 lv250 [] S249 ((ar_QB s h [24, 25, 31] [14, 15, 16, 17, 18, 19] S (fun S' => aw_G g S' ∧ (S.1 30).toInt ≤ (S'.1 30).toInt) (fun S' => aw_G g S' ∧ (S.1 30).toInt + 0 ≤ (S'.1 30).toInt)))) (hm88 : (6 - x254.toInt).toNat < N88 + 1) (N127 : Nat) (S262 : aj_S) (x264 : Int32) (x265 : Int32) (x266 : Int32) (x267 : Int32) (ihL127_260 : ∀ (S262 : aj_S) (lv263 : aj_V) (x264 : Int32) (x265 : Int32) (x266 : Int32) (x267 : Int32), (aj_lv lv263 0 = some (.ref 117)) → (aj_lv lv263 1 = some (.int x264)) → (aj_lv lv263 3 = some (.int x265)) → (aj_lv lv263 4 = some (.int x266)) → (aj_lv lv263 5 = some (.int x267)) → (aw_I s h (aw_G g) S262) → (aw_fr [24, 25, 31] [14, 15, 16, 17, 18, 19] S S262) → (20 ≤ x264.toInt ∧ x264.toInt ≤ 47) → (21 ≤ x265.toInt ∧ x265.toInt ≤ 48) → (0 ≤ x266.toInt ∧ x266.toInt ≤ 6) → (0 ≤ x267.toInt ∧ x267.toInt ≤ 30) → ((S.1 30).toInt + 0 ≤ (S262.1 30).toInt) → (ar_J S S262 (x264.toInt).toNat) → (x265.toInt = x264.toInt + 1) → (x266.toInt = (S.2.2.1 15 (x264.toInt).toNat).toInt) → (x0 = (x264.toInt).toNat) → (30 - x267.toInt).toNat < N127 → aw_W tb h d aj_m276 127 lv263 [] S262 ((ar_QB s h [24, 25, 31] [14, 15, 16, 17, 18, 19] S (fun S' => aw_G g S' ∧ (S.1 30).toInt ≤ (S'.1 30).toInt) (fun S' => aw_G g S' ∧ (S.1 30).toInt + 0 ≤ (S'.1 30).toInt)))) (hm127 : (30 - x267.toInt).toNat < N127 + 1) : ∀ (N : Nat) (S276 : aj_S) (lv277 : aj_V) (x278 : Int32) (x279 : Int32) (x280 : Int32) (x281 : Int32), (aj_lv lv277 0 = some (.ref 117)) → (aj_lv lv277 1 = some (.int x278)) → (aj_lv lv277 3 = some (.int x279)) → (aj_lv lv277 4 = some (.int x280)) → (aj_lv lv277 5 = some (.int x281)) → (aw_I s h (aw_G g) S276) → (aw_fr [24, 25, 31] [14, 15, 16, 17, 18, 19] S S276) → (20 ≤ x278.toInt ∧ x278.toInt ≤ 47) → (21 ≤ x279.toInt ∧ x279.toInt ≤ 48) → (0 ≤ x280.toInt ∧ x280.toInt ≤ 6) → (0 ≤ x281.toInt ∧ x281.toInt ≤ 6) → ((S.1 30).toInt + 0 ≤ (S276.1 30).toInt) → (ar_J S S276 (x278.toInt).toNat) → (x279.toInt = x278.toInt + 1) → (x280.toInt = (S.2.2.1 15 (x278.toInt).toNat).toInt + ar_nw S (x278.toInt).toNat (x281.toInt).toNat) → (x281.toInt ≤ (S.2.2.1 15 ((x278.toInt).toNat + 1)).toInt) → (x0 = (x278.toInt).toNat) → (6 - x281.toInt).toNat < N → aw_W tb h d aj_m276 166 lv277 [] S276 ((ar_QB s h [24, 25, 31] [14, 15, 16, 17, 18, 19] S (fun S' => aw_G g S' ∧ (S.1 30).toInt ≤ (S'.1 30).toInt) (fun S' => aw_G g S' ∧ (S.1 30).toInt + 0 ≤ (S'.1 30).toInt))) := by
  have hs : aw_sT s := aw_hy_sT hU.2.2
  intro N166
  induction N166 with
  | zero =>
    intro S276 lv277 x278 x279 x280 x281 hlv277_0 hlv277_1 hlv277_3 hlv277_4 hlv277_5 hI282 fr283 bx278 bx279 bx280 bx281 ck166 J166 b166 n166 c166 x166 hm166
    omega
  | succ N166 ihL166_274 =>
    intro S276 lv277 x278 x279 x280 x281 hlv277_0 hlv277_1 hlv277_3 hlv277_4 hlv277_5 hI282 fr283 bx278 bx279 bx280 bx281 ck166 J166 b166 n166 c166 x166 hm166
    have hI284 : aw_I s h (aw_sm S276) S276 := ⟨hI282.1, aw_sm_rf⟩
    have b285 : 0 ≤ (S276.1 30).toInt ∧ (S276.1 30).toInt ≤ 1001 := aw_bd_f hs (hI284).1 (by decide) rfl
    have hjx := hj
    rw [x166] at hjx
    obtain ⟨hj1, hj2, hj3⟩ := hjx
    have nwl : ∀ c : Nat, (c : Int) ≤ (S.2.2.1 15 ((x278.toInt).toNat + 1)).toInt → ar_nw S (x278.toInt).toNat c ≤ ar_nw S (x278.toInt).toNat ((S.2.2.1 15 ((x278.toInt).toNat + 1)).toInt).toNat := fun c hc => ar_nw_le (by omega)
    have nwc := nwl (x281.toInt).toNat (by omega)
    refine aw_l0 aj_d276 rfl rfl hlv277_5 ?_
    refine aw_l2 aj_d276 rfl rfl hlv277_0 ?_
    refine aw_g hU.1 aj_d276 rfl rfl (by decide) (v := .ref 132) rfl ?_
    refine aw_l0 aj_d276 rfl rfl hlv277_3 ?_
    have ib286 : (x279.toInt).toNat = (x278.toInt).toNat + 1 := by omega
    refine aw_ld (k := 15) hU.1 aj_d276 (Or.inl ⟨rfl, rfl⟩) rfl (by decide) (by decide) rfl (a := x279.toInt) rfl (by omega) (by omega) (fun x287 ex287 => ?_)
    have bx287 : (-1) ≤ x287.toInt ∧ x287.toInt ≤ 6 := by
      rw [ex287]
      exact aw_bd_a hs (hI284).1 (k := 15) (by decide) (by decide) rfl (by decide) rfl (by omega)
    have ftx287 : x287.toInt = (S276.2.2.1 15 (x279.toInt).toNat).toInt := congrArg Int32.toInt (ex287.trans (congrFun rfl _))
    rw [ib286] at ftx287
    rw [J166.1.2 _ (by omega)] at ftx287
    refine aw_c (tgt := 402) aj_d276 rfl rfl (fun q288 => ?_) (fun q288 => ?_)
    · have q288 : x281.toInt ≥ x287.toInt := aw_t_ge (a := x281.toInt) (b := x287.toInt) rfl rfl q288
      refine aw_n aj_d276 rfl rfl ?_
      refine aw_t0 (j := 5) aj_d276 rfl (by decide) rfl ?_
      obtain ⟨lv289, elv289⟩ : ∃ l, l = aj_set1 lv277 5 (.int (Int32.ofInt 0)) := ⟨_, rfl⟩
      rw [← elv289]
      have hlv289_0 : aj_lv lv289 0 = some (.ref 117) := cw_e1 elv289 hlv277_0 (by decide) (Or.inl (by decide))
      have hlv289_1 : aj_lv lv289 1 = some (.int x278) := cw_e1 elv289 hlv277_1 (by decide) (Or.inl (by decide))
      have hlv289_3 : aj_lv lv289 3 = some (.int x279) := cw_e1 elv289 hlv277_3 (by decide) (Or.inl (by decide))
      have hlv289_4 : aj_lv lv289 4 = some (.int x280) := cw_e1 elv289 hlv277_4 (by decide) (Or.inr rfl)
      have hlv289_5 : aj_lv lv289 5 = some (.int (Int32.ofInt 0)) := by rw [elv289]; exact ak_set1_eq _ _ _
      show aw_W _ _ _ _ 405 lv289 [] _ _
      exact (ar_join_L405_289 hU hd x0 hj N88 S249 x251 x252 x253 x254 ihL88_247 hm88 N127 S262 x264 x265 x266 x267 ihL127_260 hm127 N166 S276 x278 x279 x280 x281 ihL166_274 hm166) _ S276 lv289 (x278) (x279) (x280) ((Int32.ofInt 0)) hlv289_0 hlv289_1 hlv289_3 hlv289_4 hlv289_5 ⟨(hI284).1, hI282.2⟩ fr283 (by omega) (by omega) (by omega) (by first | omega | decide) (show _ ≤ ((S276.1 30)).toInt by omega) J166 (by omega) (by omega) (Nat.lt_succ_self _)
    · have q288 : x281.toInt < x287.toInt := aw_t_ge (a := x281.toInt) (b := x287.toInt) rfl rfl q288
      refine aw_l2 aj_d276 rfl rfl hlv277_0 ?_
      refine aw_l0 aj_d276 rfl rfl hlv277_1 ?_
      refine aw_l2 aj_d276 rfl rfl hlv277_0 ?_
      refine aw_g hU.1 aj_d276 rfl rfl (by decide) (v := .ref 133) rfl ?_
      refine aw_l0 aj_d276 rfl rfl hlv277_3 ?_
      refine aw_n aj_d276 rfl rfl ?_
      refine aw_mul aj_d276 rfl (a := x279.toInt) (b := (8 : Int)) rfl rfl (by omega) (by omega) (fun x340 ex340 => ?_)
      refine aw_l0 aj_d276 rfl rfl hlv277_5 ?_
      refine aw_add aj_d276 rfl (a := x340.toInt) (b := x281.toInt) rfl rfl (by omega) (by omega) (fun x341 ex341 => ?_)
      refine aw_ldl (k := 16) hU.1 aj_d276 rfl (by decide) (by decide) rfl (a := x341.toInt) rfl (by omega) (by omega) (fun y342 ey342 => ?_)
      refine aw_k hU.1 aj_d276 rfl rfl [_, _] rfl rfl rfl (Nat.le_of_ble_eq_true rfl) (aw_columnOfK (aw_UV hU aw_Gs_sm) hI284 (by omega) (t := (x278.toInt).toNat) (by omega) (by omega)) ?_
      rintro _ zb343 ⟨b343, rfl, fb343, hfb343⟩
      rw [fb343]
      have bdb343 := aw_bd_a hs (hI284).1 (k := 15) (j := (x278.toInt).toNat) (by decide) (by decide) rfl (by decide) rfl (by omega)
      have hdb343 := ar_fd_of (c := (x281.toInt).toNat) (J166).1 (by omega) (by omega) bdb343.2 (by omega) ey342 hfb343
      have nwb343 : ((0 ≤ b343.toInt ∧ ar_nw S (x278.toInt).toNat ((x281.toInt).toNat + 1) = ar_nw S (x278.toInt).toNat (x281.toInt).toNat) ∨ (b343.toInt = -1 ∧ ar_nw S (x278.toInt).toNat ((x281.toInt).toNat + 1) = ar_nw S (x278.toInt).toNat (x281.toInt).toNat + 1)) := by
        rcases hdb343 with ⟨z1, z2, z3⟩ | ⟨z1, z2⟩
        · exact Or.inl ⟨z1, ar_nw_1 z3⟩
        · exact Or.inr ⟨z1, ar_nw_2 z2⟩
      have b5b343 : -1 ≤ b343.toInt ∧ b343.toInt ≤ 5 := by
        rcases hdb343 with ⟨z1, z2, z3⟩ | ⟨z1, z2⟩
        · omega
        · omega
      clear hdb343 hfb343 bdb343
      show aw_W _ _ _ _ 194 lv277 [.int b343] _ _
      refine aw_t0 (j := 6) aj_d276 rfl (by decide) rfl ?_
      obtain ⟨lv344, elv344⟩ : ∃ l, l = aj_set1 lv277 6 (.int b343) := ⟨_, rfl⟩
      rw [← elv344]
      have hlv344_0 : aj_lv lv344 0 = some (.ref 117) := cw_e1 elv344 hlv277_0 (by decide) (Or.inl (by decide))
      have hlv344_1 : aj_lv lv344 1 = some (.int x278) := cw_e1 elv344 hlv277_1 (by decide) (Or.inl (by decide))
      have hlv344_3 : aj_lv lv344 3 = some (.int x279) := cw_e1 elv344 hlv277_3 (by decide) (Or.inl (by decide))
      have hlv344_4 : aj_lv lv344 4 = some (.int x280) := cw_e1 elv344 hlv277_4 (by decide) (Or.inl (by decide))
      have hlv344_5 : aj_lv lv344 5 = some (.int x281) := cw_e1 elv344 hlv277_5 (by decide) (Or.inr rfl)
      have hlv344_6 : aj_lv lv344 6 = some (.int b343) := by rw [elv344]; exact ak_set1_eq _ _ _
      show aw_W _ _ _ _ 196 lv344 [] _ _
      refine aw_n aj_d276 rfl rfl ?_
      refine aw_t0 (j := 7) aj_d276 rfl (by decide) rfl ?_
      obtain ⟨lv345, elv345⟩ : ∃ l, l = aj_set1 lv344 7 (.int (Int32.ofInt 0)) := ⟨_, rfl⟩
      rw [← elv345]
      have hlv345_0 : aj_lv lv345 0 = some (.ref 117) := cw_e1 elv345 hlv344_0 (by decide) (Or.inl (by decide))
      have hlv345_1 : aj_lv lv345 1 = some (.int x278) := cw_e1 elv345 hlv344_1 (by decide) (Or.inl (by decide))
      have hlv345_3 : aj_lv lv345 3 = some (.int x279) := cw_e1 elv345 hlv344_3 (by decide) (Or.inl (by decide))
      have hlv345_4 : aj_lv lv345 4 = some (.int x280) := cw_e1 elv345 hlv344_4 (by decide) (Or.inl (by decide))
      have hlv345_5 : aj_lv lv345 5 = some (.int x281) := cw_e1 elv345 hlv344_5 (by decide) (Or.inl (by decide))
      have hlv345_6 : aj_lv lv345 6 = some (.int b343) := cw_e1 elv345 hlv344_6 (by decide) (Or.inr rfl)
      have hlv345_7 : aj_lv lv345 7 = some (.int (Int32.ofInt 0)) := by rw [elv345]; exact ak_set1_eq _ _ _
      show aw_W _ _ _ _ 199 lv345 [] _ _
      exact (ar_join_L199_345 hU hd x0 hj N88 S249 x251 x252 x253 x254 ihL88_247 hm88 N127 S262 x264 x265 x266 x267 ihL127_260 hm127 N166 S276 x278 x279 x280 x281 ihL166_274 hm166) _ S276 lv345 (x278) (x279) (x280) (x281) (b343) ((Int32.ofInt 0)) hlv345_0 hlv345_1 hlv345_3 hlv345_4 hlv345_5 hlv345_6 hlv345_7 ⟨(hI284).1, hI282.2⟩ fr283 (by omega) (by omega) (by omega) (by omega) (by omega) (by first | omega | decide) (show _ ≤ ((S276.1 30)).toInt by omega) J166 (by omega) (by omega) (by omega) (by omega) (by omega) (by omega) (Nat.lt_succ_self _)
theorem ar_join_L127_260 (hU : aw_U tb s h) (hd : 4 ≤ d + 1) (x0 : Nat) (hj : ar_JP S x0) (N88 : Nat) (S249 : aj_S) (x251 : Int32) (x252 : Int32) (x253 : Int32) (x254 : Int32) (ihL88_247 : ∀ (S249 : aj_S) (lv250 : aj_V) (x251 : Int32) (x252 : Int32) (x253 : Int32) (x254 : Int32), (aj_lv lv250 0 = some (.ref 117)) → (aj_lv lv250 1 = some (.int x251)) → (aj_lv lv250 3 = some (.int x252)) → (aj_lv lv250 4 = some (.int x253)) → (aj_lv lv250 5 = some (.int x254)) → (aw_I s h (aw_G g) S249) → (aw_fr [24, 25, 31] [14, 15, 16, 17, 18, 19] S S249) → (20 ≤ x251.toInt ∧ x251.toInt ≤ 47) → (21 ≤ x252.toInt ∧ x252.toInt ≤ 48) → (0 ≤ x253.toInt ∧ x253.toInt ≤ 6) → (0 ≤ x254.toInt ∧ x254.toInt ≤ 6) → ((S.1 30).toInt + 0 ≤ (S249.1 30).toInt) → (ar_J S S249 (x251.toInt).toNat) → (x252.toInt = x251.toInt + 1) → (x253.toInt = (S.2.2.1 15 (x251.toInt).toNat).toInt) → (x0 = (x251.toInt).toNat) → (6 - x254.toInt).toNat < N88 → aw_W tb h d aj_m276 88 lv250 [] S249 ((ar_QB s h [24, 25, 31] [14, 15, 16, 17, 18, 19] S (fun S' => aw_G g S' ∧ (S.1 30).toInt ≤ (S'.1 30).toInt) (fun S' => aw_G g S' ∧ (S.1 30).toInt + 0 ≤ (S'.1 30).toInt)))) (hm88 : (6 - x254.toInt).toNat < N88 + 1) : ∀ (N : Nat) (S262 : aj_S) (lv263 : aj_V) (x264 : Int32) (x265 : Int32) (x266 : Int32) (x267 : Int32), (aj_lv lv263 0 = some (.ref 117)) → (aj_lv lv263 1 = some (.int x264)) → (aj_lv lv263 3 = some (.int x265)) → (aj_lv lv263 4 = some (.int x266)) → (aj_lv lv263 5 = some (.int x267)) → (aw_I s h (aw_G g) S262) → (aw_fr [24, 25, 31] [14, 15, 16, 17, 18, 19] S S262) → (20 ≤ x264.toInt ∧ x264.toInt ≤ 47) → (21 ≤ x265.toInt ∧ x265.toInt ≤ 48) → (0 ≤ x266.toInt ∧ x266.toInt ≤ 6) → (0 ≤ x267.toInt ∧ x267.toInt ≤ 30) → ((S.1 30).toInt + 0 ≤ (S262.1 30).toInt) → (ar_J S S262 (x264.toInt).toNat) → (x265.toInt = x264.toInt + 1) → (x266.toInt = (S.2.2.1 15 (x264.toInt).toNat).toInt) → (x0 = (x264.toInt).toNat) → (30 - x267.toInt).toNat < N → aw_W tb h d aj_m276 127 lv263 [] S262 ((ar_QB s h [24, 25, 31] [14, 15, 16, 17, 18, 19] S (fun S' => aw_G g S' ∧ (S.1 30).toInt ≤ (S'.1 30).toInt) (fun S' => aw_G g S' ∧ (S.1 30).toInt + 0 ≤ (S'.1 30).toInt))) := by
  have hs : aw_sT s := aw_hy_sT hU.2.2
  intro N127
  induction N127 with
  | zero =>
    intro S262 lv263 x264 x265 x266 x267 hlv263_0 hlv263_1 hlv263_3 hlv263_4 hlv263_5 hI268 fr269 bx264 bx265 bx266 bx267 ck127 J127 b127 n127 x127 hm127
    omega
  | succ N127 ihL127_260 =>
    intro S262 lv263 x264 x265 x266 x267 hlv263_0 hlv263_1 hlv263_3 hlv263_4 hlv263_5 hI268 fr269 bx264 bx265 bx266 bx267 ck127 J127 b127 n127 x127 hm127
    have hI270 : aw_I s h (aw_sm S262) S262 := ⟨hI268.1, aw_sm_rf⟩
    have b271 : 0 ≤ (S262.1 30).toInt ∧ (S262.1 30).toInt ≤ 1001 := aw_bd_f hs (hI270).1 (by decide) rfl
    have hjx := hj
    rw [x127] at hjx
    obtain ⟨hj1, hj2, hj3⟩ := hjx
    refine aw_l0 aj_d276 rfl rfl hlv263_5 ?_
    refine aw_l2 aj_d276 rfl rfl hlv263_0 ?_
    refine aw_g hU.1 aj_d276 rfl rfl (by decide) (v := .ref 131) rfl ?_
    refine aw_n aj_d276 rfl rfl ?_
    refine aw_ld (k := 14) hU.1 aj_d276 (Or.inl ⟨rfl, rfl⟩) rfl (by decide) (by decide) rfl (a := (49 : Int)) rfl (by omega) (by omega) (fun x272 ex272 => ?_)
    have bx272 : 0 ≤ x272.toInt ∧ x272.toInt ≤ 30 := by
      rw [ex272]
      exact aw_bd_a hs (hI270).1 (k := 14) (by decide) (by decide) rfl (by decide) rfl (by omega)
    have ftx272 : x272.toInt = (S262.2.2.1 14 49).toInt := congrArg Int32.toInt (ex272.trans (congrFun rfl _))
    refine aw_c (tgt := 163) aj_d276 rfl rfl (fun q273 => ?_) (fun q273 => ?_)
    · have q273 : x267.toInt ≥ x272.toInt := aw_t_ge (a := x267.toInt) (b := x272.toInt) rfl rfl q273
      refine aw_n aj_d276 rfl rfl ?_
      refine aw_t0 (j := 5) aj_d276 rfl (by decide) rfl ?_
      obtain ⟨lv274, elv274⟩ : ∃ l, l = aj_set1 lv263 5 (.int (Int32.ofInt 0)) := ⟨_, rfl⟩
      rw [← elv274]
      have hlv274_0 : aj_lv lv274 0 = some (.ref 117) := cw_e1 elv274 hlv263_0 (by decide) (Or.inl (by decide))
      have hlv274_1 : aj_lv lv274 1 = some (.int x264) := cw_e1 elv274 hlv263_1 (by decide) (Or.inl (by decide))
      have hlv274_3 : aj_lv lv274 3 = some (.int x265) := cw_e1 elv274 hlv263_3 (by decide) (Or.inl (by decide))
      have hlv274_4 : aj_lv lv274 4 = some (.int x266) := cw_e1 elv274 hlv263_4 (by decide) (Or.inr rfl)
      have hlv274_5 : aj_lv lv274 5 = some (.int (Int32.ofInt 0)) := by rw [elv274]; exact ak_set1_eq _ _ _
      show aw_W _ _ _ _ 166 lv274 [] _ _
      exact (ar_join_L166_274 hU hd x0 hj N88 S249 x251 x252 x253 x254 ihL88_247 hm88 N127 S262 x264 x265 x266 x267 ihL127_260 hm127) _ S262 lv274 (x264) (x265) (x266) ((Int32.ofInt 0)) hlv274_0 hlv274_1 hlv274_3 hlv274_4 hlv274_5 ⟨(hI270).1, hI268.2⟩ fr269 (by omega) (by omega) (by omega) (by first | omega | decide) (show _ ≤ ((S262.1 30)).toInt by omega) J127 (by omega) (show (x266).toInt = (S.2.2.1 15 (x264.toInt).toNat).toInt + (0 : Int) by omega) (show (0 : Int) ≤ (S.2.2.1 15 ((x264.toInt).toNat + 1)).toInt by omega) (by omega) (Nat.lt_succ_self _)
    · have q273 : x267.toInt < x272.toInt := aw_t_ge (a := x267.toInt) (b := x272.toInt) rfl rfl q273
      refine aw_l2 aj_d276 rfl rfl hlv263_0 ?_
      refine aw_l0 aj_d276 rfl rfl hlv263_1 ?_
      refine aw_l0 aj_d276 rfl rfl hlv263_5 ?_
      refine aw_l2 aj_d276 rfl rfl hlv263_0 ?_
      refine aw_g hU.1 aj_d276 rfl rfl (by decide) (v := .ref 131) rfl ?_
      refine aw_l0 aj_d276 rfl rfl hlv263_3 ?_
      have ib450 : (x265.toInt).toNat = (x264.toInt).toNat + 1 := by omega
      refine aw_ld (k := 14) hU.1 aj_d276 (Or.inl ⟨rfl, rfl⟩) rfl (by decide) (by decide) rfl (a := x265.toInt) rfl (by omega) (by omega) (fun x451 ex451 => ?_)
      have bx451 : 0 ≤ x451.toInt ∧ x451.toInt ≤ 30 := by
        rw [ex451]
        exact aw_bd_a hs (hI270).1 (k := 14) (by decide) (by decide) rfl (by decide) rfl (by omega)
      have ftx451 : x451.toInt = (S262.2.2.1 14 (x265.toInt).toNat).toInt := congrArg Int32.toInt (ex451.trans (congrFun rfl _))
      rw [ib450] at ftx451
      have jb := J127.2
      refine aw_div aj_d276 rfl (a := x267.toInt) (b := x451.toInt) rfl rfl (by omega) (by omega) (fun x452 ex452 => ?_)
      have dvx452 := ar_div (a := x267.toInt) (b := x451.toInt) (by omega) (by omega)
      rw [← ex452] at dvx452
      refine aw_n aj_d276 rfl rfl ?_
      refine aw_l0 aj_d276 rfl rfl hlv263_5 ?_
      refine aw_k hU.1 aj_d276 rfl rfl [_, _, _, _] rfl rfl rfl (Nat.le_of_ble_eq_true rfl) (ar_copyRow hU (hI270).1 (aw_G_B hI268.2).1 (by omega) (t := x264) (r := x452) (u := (Int8.ofInt 49).toInt32) (v := x267) (by omega) (by omega) (by decide) (by omega)) ?_
      rintro _ S453 ⟨hT453, fc453, rfl, sk453, kv453⟩
      have hG453 := aw_G_sk hI268.2 sk453 kv453
      have fr454 := aw_fr_tr fr269 (aw_fr_sub (F := []) (A := [17, 18, 19]) (by decide) (by decide) fc453)
      have hI455 : aw_I s h (aw_sm S453) S453 := ⟨hT453, aw_sm_rf⟩
      show aw_W _ _ _ _ 157 lv263 [] _ _
      refine aw_inc aj_d276 rfl hlv263_5 (a := x267.toInt) rfl (by omega) (by omega) (by decide) (by decide) (fun x456 ex456 => ?_)
      obtain ⟨lv457, elv457⟩ : ∃ l, l = aj_set1 lv263 5 (.int x456) := ⟨_, rfl⟩
      rw [← elv457]
      have hlv457_0 : aj_lv lv457 0 = some (.ref 117) := cw_e1 elv457 hlv263_0 (by decide) (Or.inl (by decide))
      have hlv457_1 : aj_lv lv457 1 = some (.int x264) := cw_e1 elv457 hlv263_1 (by decide) (Or.inl (by decide))
      have hlv457_3 : aj_lv lv457 3 = some (.int x265) := cw_e1 elv457 hlv263_3 (by decide) (Or.inl (by decide))
      have hlv457_4 : aj_lv lv457 4 = some (.int x266) := cw_e1 elv457 hlv263_4 (by decide) (Or.inr rfl)
      have hlv457_5 : aj_lv lv457 5 = some (.int x456) := by rw [elv457]; exact ak_set1_eq _ _ _
      show aw_W _ _ _ _ 160 lv457 [] _ _
      refine aw_n aj_d276 rfl rfl ?_
      have c458 : (S453.1 30).toInt = (S262.1 30).toInt := (congrArg Int32.toInt (fc453.1 30 (by decide)).1).trans rfl
      have b459 : 0 ≤ (S453.1 30).toInt ∧ (S453.1 30).toInt ≤ 1001 := aw_bd_f hs (hI455).1 (by decide) rfl
      exact ihL127_260 S453 lv457 (x264) (x265) (x266) (x456) hlv457_0 hlv457_1 hlv457_3 hlv457_4 hlv457_5 ⟨(hI455).1, hG453⟩ fr454 (by omega) (by omega) (by omega) (by omega) (show _ ≤ ((S453.1 30)).toInt by omega) (ar_J_eq ((fc453.2 14 (by decide)).1.trans rfl) ((fc453.2 15 (by decide)).1.trans rfl) ((fc453.2 16 (by decide)).2.trans rfl) J127) (by omega) (by omega) (by omega) (by omega)
theorem ar_join_L88_247 (hU : aw_U tb s h) (hd : 4 ≤ d + 1) (x0 : Nat) (hj : ar_JP S x0)  : ∀ (N : Nat) (S249 : aj_S) (lv250 : aj_V) (x251 : Int32) (x252 : Int32) (x253 : Int32) (x254 : Int32), (aj_lv lv250 0 = some (.ref 117)) → (aj_lv lv250 1 = some (.int x251)) → (aj_lv lv250 3 = some (.int x252)) → (aj_lv lv250 4 = some (.int x253)) → (aj_lv lv250 5 = some (.int x254)) → (aw_I s h (aw_G g) S249) → (aw_fr [24, 25, 31] [14, 15, 16, 17, 18, 19] S S249) → (20 ≤ x251.toInt ∧ x251.toInt ≤ 47) → (21 ≤ x252.toInt ∧ x252.toInt ≤ 48) → (0 ≤ x253.toInt ∧ x253.toInt ≤ 6) → (0 ≤ x254.toInt ∧ x254.toInt ≤ 6) → ((S.1 30).toInt + 0 ≤ (S249.1 30).toInt) → (ar_J S S249 (x251.toInt).toNat) → (x252.toInt = x251.toInt + 1) → (x253.toInt = (S.2.2.1 15 (x251.toInt).toNat).toInt) → (x0 = (x251.toInt).toNat) → (6 - x254.toInt).toNat < N → aw_W tb h d aj_m276 88 lv250 [] S249 ((ar_QB s h [24, 25, 31] [14, 15, 16, 17, 18, 19] S (fun S' => aw_G g S' ∧ (S.1 30).toInt ≤ (S'.1 30).toInt) (fun S' => aw_G g S' ∧ (S.1 30).toInt + 0 ≤ (S'.1 30).toInt))) := by
  have hs : aw_sT s := aw_hy_sT hU.2.2
  intro N88
  induction N88 with
  | zero =>
    intro S249 lv250 x251 x252 x253 x254 hlv250_0 hlv250_1 hlv250_3 hlv250_4 hlv250_5 hI255 fr256 bx251 bx252 bx253 bx254 ck88 J88 b88 n88 x88 hm88
    omega
  | succ N88 ihL88_247 =>
    intro S249 lv250 x251 x252 x253 x254 hlv250_0 hlv250_1 hlv250_3 hlv250_4 hlv250_5 hI255 fr256 bx251 bx252 bx253 bx254 ck88 J88 b88 n88 x88 hm88
    have hI257 : aw_I s h (aw_sm S249) S249 := ⟨hI255.1, aw_sm_rf⟩
    have b258 : 0 ≤ (S249.1 30).toInt ∧ (S249.1 30).toInt ≤ 1001 := aw_bd_f hs (hI257).1 (by decide) rfl
    have hjx := hj
    rw [x88] at hjx
    obtain ⟨hj1, hj2, hj3⟩ := hjx
    refine aw_l0 aj_d276 rfl rfl hlv250_5 ?_
    refine aw_l0 aj_d276 rfl rfl hlv250_4 ?_
    refine aw_c (tgt := 124) aj_d276 rfl rfl (fun q259 => ?_) (fun q259 => ?_)
    · have q259 : x254.toInt ≥ x253.toInt := aw_t_ge (a := x254.toInt) (b := x253.toInt) rfl rfl q259
      refine aw_n aj_d276 rfl rfl ?_
      refine aw_t0 (j := 5) aj_d276 rfl (by decide) rfl ?_
      obtain ⟨lv260, elv260⟩ : ∃ l, l = aj_set1 lv250 5 (.int (Int32.ofInt 0)) := ⟨_, rfl⟩
      rw [← elv260]
      have hlv260_0 : aj_lv lv260 0 = some (.ref 117) := cw_e1 elv260 hlv250_0 (by decide) (Or.inl (by decide))
      have hlv260_1 : aj_lv lv260 1 = some (.int x251) := cw_e1 elv260 hlv250_1 (by decide) (Or.inl (by decide))
      have hlv260_3 : aj_lv lv260 3 = some (.int x252) := cw_e1 elv260 hlv250_3 (by decide) (Or.inl (by decide))
      have hlv260_4 : aj_lv lv260 4 = some (.int x253) := cw_e1 elv260 hlv250_4 (by decide) (Or.inr rfl)
      have hlv260_5 : aj_lv lv260 5 = some (.int (Int32.ofInt 0)) := by rw [elv260]; exact ak_set1_eq _ _ _
      show aw_W _ _ _ _ 127 lv260 [] _ _
      exact (ar_join_L127_260 hU hd x0 hj N88 S249 x251 x252 x253 x254 ihL88_247 hm88) _ S249 lv260 (x251) (x252) (x253) ((Int32.ofInt 0)) hlv260_0 hlv260_1 hlv260_3 hlv260_4 hlv260_5 ⟨(hI257).1, hI255.2⟩ fr256 (by omega) (by omega) (by omega) (by first | omega | decide) (show _ ≤ ((S249.1 30)).toInt by omega) J88 (by omega) (by omega) (by omega) (Nat.lt_succ_self _)
    · have q259 : x254.toInt < x253.toInt := aw_t_ge (a := x254.toInt) (b := x253.toInt) rfl rfl q259
      refine aw_l2 aj_d276 rfl rfl hlv250_0 ?_
      refine aw_g hU.1 aj_d276 rfl rfl (by decide) (v := .ref 133) rfl ?_
      refine aw_n aj_d276 rfl rfl ?_
      refine aw_l0 aj_d276 rfl rfl hlv250_5 ?_
      refine aw_add aj_d276 rfl (a := (392 : Int)) (b := x254.toInt) rfl rfl (by omega) (by omega) (fun x460 ex460 => ?_)
      refine aw_l2 aj_d276 rfl rfl hlv250_0 ?_
      refine aw_g hU.1 aj_d276 rfl rfl (by decide) (v := .ref 133) rfl ?_
      refine aw_l0 aj_d276 rfl rfl hlv250_1 ?_
      refine aw_n aj_d276 rfl rfl ?_
      refine aw_mul aj_d276 rfl (a := x251.toInt) (b := (8 : Int)) rfl rfl (by omega) (by omega) (fun x461 ex461 => ?_)
      refine aw_l0 aj_d276 rfl rfl hlv250_5 ?_
      refine aw_add aj_d276 rfl (a := x461.toInt) (b := x254.toInt) rfl rfl (by omega) (by omega) (fun x462 ex462 => ?_)
      refine aw_ldl (k := 16) hU.1 aj_d276 rfl (by decide) (by decide) rfl (a := x462.toInt) rfl (by omega) (by omega) (fun y463 ey463 => ?_)
      refine aw_stl (k := 16) hU.1 aj_d276 rfl (by decide) (by decide) rfl (a := x460.toInt) rfl (by omega) (by omega) ?_
      have hI464 := aw_I_b (aw_UV hU aw_Gs_sm) (k := 16) (j := (x460.toInt).toNat) (v := y463) hI257 (by decide) (by decide) (by decide) rfl rfl
      have fr465 := aw_fr_b (k := 16) (j := (x460.toInt).toNat) (v := y463) (by decide) fr256
      have J467 : ar_J S (aw_wb S249 16 (x460.toInt).toNat y463) (x251.toInt).toNat := (ar_J_col (by omega) J88)
      refine aw_inc aj_d276 rfl hlv250_5 (a := x254.toInt) rfl (by omega) (by omega) (by decide) (by decide) (fun x468 ex468 => ?_)
      obtain ⟨lv469, elv469⟩ : ∃ l, l = aj_set1 lv250 5 (.int x468) := ⟨_, rfl⟩
      rw [← elv469]
      have hlv469_0 : aj_lv lv469 0 = some (.ref 117) := cw_e1 elv469 hlv250_0 (by decide) (Or.inl (by decide))
      have hlv469_1 : aj_lv lv469 1 = some (.int x251) := cw_e1 elv469 hlv250_1 (by decide) (Or.inl (by decide))
      have hlv469_3 : aj_lv lv469 3 = some (.int x252) := cw_e1 elv469 hlv250_3 (by decide) (Or.inl (by decide))
      have hlv469_4 : aj_lv lv469 4 = some (.int x253) := cw_e1 elv469 hlv250_4 (by decide) (Or.inr rfl)
      have hlv469_5 : aj_lv lv469 5 = some (.int x468) := by rw [elv469]; exact ak_set1_eq _ _ _
      show aw_W _ _ _ _ 121 lv469 [] _ _
      refine aw_n aj_d276 rfl rfl ?_
      exact ihL88_247 (aw_wb S249 16 (x460.toInt).toNat y463) lv469 (x251) (x252) (x253) (x468) hlv469_0 hlv469_1 hlv469_3 hlv469_4 hlv469_5 ⟨(hI464).1, (aw_G_sm hI464.2 hI255.2)⟩ fr465 (by omega) (by omega) (by omega) (by omega) (show _ ≤ ((S249.1 30)).toInt by omega) J467 (by omega) (by omega) (by omega) (by omega)
theorem ar_join_L420_547 (hU : aw_U tb s h) (hd : 4 ≤ d + 1) (x0 : Nat) (hj : ar_JP S x0) (N88 : Nat) (S486 : aj_S) (x488 : Int32) (x489 : Int32) (x490 : Int32) (x491 : Int32) (ihL88_484 : ∀ (S486 : aj_S) (lv487 : aj_V) (x488 : Int32) (x489 : Int32) (x490 : Int32) (x491 : Int32), (aj_lv lv487 0 = some (.ref 117)) → (aj_lv lv487 1 = some (.int x488)) → (aj_lv lv487 3 = some (.int x489)) → (aj_lv lv487 4 = some (.int x490)) → (aj_lv lv487 5 = some (.int x491)) → (aw_I s h (aw_G g) S486) → (aw_fr [24, 25, 31] [14, 15, 16, 17, 18, 19] S S486) → (20 ≤ x488.toInt ∧ x488.toInt ≤ 47) → (21 ≤ x489.toInt ∧ x489.toInt ≤ 48) → (0 ≤ x490.toInt ∧ x490.toInt ≤ 6) → (0 ≤ x491.toInt ∧ x491.toInt ≤ 6) → ((S.1 30).toInt + 0 ≤ (S486.1 30).toInt) → (ar_J S S486 (x488.toInt).toNat) → (x489.toInt = x488.toInt + 1) → (x490.toInt = (S.2.2.1 15 (x488.toInt).toNat).toInt) → (x0 = (x488.toInt).toNat) → (6 - x491.toInt).toNat < N88 → aw_W tb h d aj_m276 88 lv487 [] S486 ((ar_QB s h [24, 25, 31] [14, 15, 16, 17, 18, 19] S (fun S' => aw_G g S' ∧ (S.1 30).toInt ≤ (S'.1 30).toInt) (fun S' => aw_G g S' ∧ (S.1 30).toInt + 0 ≤ (S'.1 30).toInt)))) (hm88 : (6 - x491.toInt).toNat < N88 + 1) (N127 : Nat) (S499 : aj_S) (x501 : Int32) (x502 : Int32) (x503 : Int32) (x504 : Int32) (ihL127_497 : ∀ (S499 : aj_S) (lv500 : aj_V) (x501 : Int32) (x502 : Int32) (x503 : Int32) (x504 : Int32), (aj_lv lv500 0 = some (.ref 117)) → (aj_lv lv500 1 = some (.int x501)) → (aj_lv lv500 3 = some (.int x502)) → (aj_lv lv500 4 = some (.int x503)) → (aj_lv lv500 5 = some (.int x504)) → (aw_I s h (aw_G g) S499) → (aw_fr [24, 25, 31] [14, 15, 16, 17, 18, 19] S S499) → (20 ≤ x501.toInt ∧ x501.toInt ≤ 47) → (21 ≤ x502.toInt ∧ x502.toInt ≤ 48) → (0 ≤ x503.toInt ∧ x503.toInt ≤ 6) → (0 ≤ x504.toInt ∧ x504.toInt ≤ 30) → ((S.1 30).toInt + 0 ≤ (S499.1 30).toInt) → (ar_J S S499 (x501.toInt).toNat) → (x502.toInt = x501.toInt + 1) → (x503.toInt = (S.2.2.1 15 (x501.toInt).toNat).toInt) → (x0 = (x501.toInt).toNat) → (30 - x504.toInt).toNat < N127 → aw_W tb h d aj_m276 127 lv500 [] S499 ((ar_QB s h [24, 25, 31] [14, 15, 16, 17, 18, 19] S (fun S' => aw_G g S' ∧ (S.1 30).toInt ≤ (S'.1 30).toInt) (fun S' => aw_G g S' ∧ (S.1 30).toInt + 0 ≤ (S'.1 30).toInt)))) (hm127 : (30 - x504.toInt).toNat < N127 + 1) (N166 : Nat) (S513 : aj_S) (x515 : Int32) (x516 : Int32) (x517 : Int32) (x518 : Int32) (ihL166_511 : ∀ (S513 : aj_S) (lv514 : aj_V) (x515 : Int32) (x516 : Int32) (x517 : Int32) (x518 : Int32), (aj_lv lv514 0 = some (.ref 117)) → (aj_lv lv514 1 = some (.int x515)) → (aj_lv lv514 3 = some (.int x516)) → (aj_lv lv514 4 = some (.int x517)) → (aj_lv lv514 5 = some (.int x518)) → (aw_I s h (aw_G g) S513) → (aw_fr [24, 25, 31] [14, 15, 16, 17, 18, 19] S S513) → (20 ≤ x515.toInt ∧ x515.toInt ≤ 47) → (21 ≤ x516.toInt ∧ x516.toInt ≤ 48) → (0 ≤ x517.toInt ∧ x517.toInt ≤ 6) → (0 ≤ x518.toInt ∧ x518.toInt ≤ 6) → ((S.1 30).toInt + 0 ≤ (S513.1 30).toInt) → (ar_J S S513 (x515.toInt).toNat) → (x516.toInt = x515.toInt + 1) → (x517.toInt = (S.2.2.1 15 (x515.toInt).toNat).toInt + ar_nw S (x515.toInt).toNat (x518.toInt).toNat) → (x518.toInt ≤ (S.2.2.1 15 ((x515.toInt).toNat + 1)).toInt) → (x0 = (x515.toInt).toNat) → (6 - x518.toInt).toNat < N166 → aw_W tb h d aj_m276 166 lv514 [] S513 ((ar_QB s h [24, 25, 31] [14, 15, 16, 17, 18, 19] S (fun S' => aw_G g S' ∧ (S.1 30).toInt ≤ (S'.1 30).toInt) (fun S' => aw_G g S' ∧ (S.1 30).toInt + 0 ≤ (S'.1 30).toInt)))) (hm166 : (6 - x518.toInt).toNat < N166 + 1) (N405 : Nat) (S528 : aj_S) (x530 : Int32) (x531 : Int32) (x532 : Int32) (x533 : Int32) (ihL405_526 : ∀ (S528 : aj_S) (lv529 : aj_V) (x530 : Int32) (x531 : Int32) (x532 : Int32) (x533 : Int32), (aj_lv lv529 0 = some (.ref 117)) → (aj_lv lv529 1 = some (.int x530)) → (aj_lv lv529 3 = some (.int x531)) → (aj_lv lv529 4 = some (.int x532)) → (aj_lv lv529 5 = some (.int x533)) → (aw_I s h (aw_G g) S528) → (aw_fr [24, 25, 31] [14, 15, 16, 17, 18, 19] S S528) → (20 ≤ x530.toInt ∧ x530.toInt ≤ 47) → (21 ≤ x531.toInt ∧ x531.toInt ≤ 48) → (0 ≤ x532.toInt ∧ x532.toInt ≤ 6) → (0 ≤ x533.toInt ∧ x533.toInt ≤ 30) → ((S.1 30).toInt + 0 ≤ (S528.1 30).toInt) → (ar_J S S528 (x530.toInt).toNat) → (x531.toInt = x530.toInt + 1) → (x0 = (x530.toInt).toNat) → (30 - x533.toInt).toNat < N405 → aw_W tb h d aj_m276 405 lv529 [] S528 ((ar_QB s h [24, 25, 31] [14, 15, 16, 17, 18, 19] S (fun S' => aw_G g S' ∧ (S.1 30).toInt ≤ (S'.1 30).toInt) (fun S' => aw_G g S' ∧ (S.1 30).toInt + 0 ≤ (S'.1 30).toInt)))) (hm405 : (30 - x533.toInt).toNat < N405 + 1) : ∀ (N : Nat) (S549 : aj_S) (lv550 : aj_V) (x551 : Int32) (x552 : Int32) (x553 : Int32) (x554 : Int32) (x555 : Int32), (aj_lv lv550 0 = some (.ref 117)) → (aj_lv lv550 1 = some (.int x551)) → (aj_lv lv550 3 = some (.int x552)) → (aj_lv lv550 4 = some (.int x553)) → (aj_lv lv550 5 = some (.int x554)) → (aj_lv lv550 6 = some (.int x555)) → (aw_I s h (aw_G g) S549) → (aw_fr [24, 25, 31] [14, 15, 16, 17, 18, 19] S S549) → (20 ≤ x551.toInt ∧ x551.toInt ≤ 47) → (21 ≤ x552.toInt ∧ x552.toInt ≤ 48) → (0 ≤ x553.toInt ∧ x553.toInt ≤ 6) → (0 ≤ x554.toInt ∧ x554.toInt ≤ 29) → (0 ≤ x555.toInt ∧ x555.toInt ≤ 32) → ((S.1 30).toInt + 0 ≤ (S549.1 30).toInt) → (ar_J S S549 (x551.toInt).toNat) → (x552.toInt = x551.toInt + 1) → (x554.toInt = x533.toInt) → (x554.toInt < (S549.2.2.1 14 49).toInt) → (x0 = (x551.toInt).toNat) → (32 - x555.toInt).toNat < N → aw_W tb h d aj_m276 420 lv550 [] S549 ((ar_QB s h [24, 25, 31] [14, 15, 16, 17, 18, 19] S (fun S' => aw_G g S' ∧ (S.1 30).toInt ≤ (S'.1 30).toInt) (fun S' => aw_G g S' ∧ (S.1 30).toInt + 0 ≤ (S'.1 30).toInt))) := by
  have hs : aw_sT s := aw_hy_sT hU.2.2
  intro N420
  induction N420 with
  | zero =>
    intro S549 lv550 x551 x552 x553 x554 x555 hlv550_0 hlv550_1 hlv550_3 hlv550_4 hlv550_5 hlv550_6 hI556 fr557 bx551 bx552 bx553 bx554 bx555 ck420 J420 b420 e420 r420 x420 hm420
    omega
  | succ N420 ihL420_547 =>
    intro S549 lv550 x551 x552 x553 x554 x555 hlv550_0 hlv550_1 hlv550_3 hlv550_4 hlv550_5 hlv550_6 hI556 fr557 bx551 bx552 bx553 bx554 bx555 ck420 J420 b420 e420 r420 x420 hm420
    have hI558 : aw_I s h (aw_sm S549) S549 := ⟨hI556.1, aw_sm_rf⟩
    have b559 : 0 ≤ (S549.1 30).toInt ∧ (S549.1 30).toInt ≤ 1001 := aw_bd_f hs (hI558).1 (by decide) rfl
    have hjx := hj
    rw [x420] at hjx
    obtain ⟨hj1, hj2, hj3⟩ := hjx
    refine aw_l0 aj_d276 rfl rfl hlv550_6 ?_
    refine aw_n aj_d276 rfl rfl ?_
    refine aw_c (tgt := 474) aj_d276 rfl rfl (fun q560 => ?_) (fun q560 => ?_)
    · have q560 : x555.toInt ≥ (32 : Int) := aw_t_ge (a := x555.toInt) (b := (32 : Int)) rfl rfl q560
      refine aw_inc aj_d276 rfl hlv550_5 (a := x554.toInt) rfl (by omega) (by omega) (by decide) (by decide) (fun x561 ex561 => ?_)
      obtain ⟨lv562, elv562⟩ : ∃ l, l = aj_set1 lv550 5 (.int x561) := ⟨_, rfl⟩
      rw [← elv562]
      have hlv562_0 : aj_lv lv562 0 = some (.ref 117) := cw_e1 elv562 hlv550_0 (by decide) (Or.inl (by decide))
      have hlv562_1 : aj_lv lv562 1 = some (.int x551) := cw_e1 elv562 hlv550_1 (by decide) (Or.inl (by decide))
      have hlv562_3 : aj_lv lv562 3 = some (.int x552) := cw_e1 elv562 hlv550_3 (by decide) (Or.inl (by decide))
      have hlv562_4 : aj_lv lv562 4 = some (.int x553) := cw_e1 elv562 hlv550_4 (by decide) (Or.inr rfl)
      have hlv562_5 : aj_lv lv562 5 = some (.int x561) := by rw [elv562]; exact ak_set1_eq _ _ _
      show aw_W _ _ _ _ 477 lv562 [] _ _
      refine aw_n aj_d276 rfl rfl ?_
      exact ihL405_526 S549 lv562 (x551) (x552) (x553) (x561) hlv562_0 hlv562_1 hlv562_3 hlv562_4 hlv562_5 ⟨(hI558).1, hI556.2⟩ fr557 (by omega) (by omega) (by omega) (by omega) (show _ ≤ ((S549.1 30)).toInt by omega) J420 (by omega) (by omega) (by omega)
    · have q560 : x555.toInt < (32 : Int) := aw_t_ge (a := x555.toInt) (b := (32 : Int)) rfl rfl q560
      refine aw_l2 aj_d276 rfl rfl hlv550_0 ?_
      refine aw_g hU.1 aj_d276 rfl rfl (by decide) (v := .ref 136) rfl ?_
      refine aw_l2 aj_d276 rfl rfl hlv550_0 ?_
      refine aw_n aj_d276 rfl rfl ?_
      refine aw_l0 aj_d276 rfl rfl hlv550_5 ?_
      refine aw_k hU.1 aj_d276 rfl rfl [_, _] rfl rfl rfl (Nat.le_of_ble_eq_true rfl) (ar_at (by omega) (a := (49 : Int)) (b := x554.toInt) rfl rfl (by omega) (by omega)) ?_
      rintro _ zx563 ⟨fx563, x563, rfl, ex563⟩
      rw [fx563]
      show aw_W _ _ _ _ 439 lv550 [.int x563, .ref 136] _ _
      refine aw_l0 aj_d276 rfl rfl hlv550_6 ?_
      refine aw_add aj_d276 rfl (a := (((49 : Int) * 30 + x554.toInt) * 32)) (b := x555.toInt) ex563 rfl (by omega) (by omega) (fun x564 ex564 => ?_)
      refine aw_n aj_d276 rfl rfl ?_
      refine aw_ld (k := 19) hU.1 aj_d276 (Or.inl ⟨rfl, rfl⟩) rfl (by decide) (by decide) rfl (a := x564.toInt) rfl (by omega) (by omega) (fun x565 ex565 => ?_)
      refine aw_l2 aj_d276 rfl rfl hlv550_0 ?_
      refine aw_g hU.1 aj_d276 rfl rfl (by decide) (v := .ref 136) rfl ?_
      refine aw_l2 aj_d276 rfl rfl hlv550_0 ?_
      refine aw_l0 aj_d276 rfl rfl hlv550_3 ?_
      refine aw_l0 aj_d276 rfl rfl hlv550_5 ?_
      refine aw_l2 aj_d276 rfl rfl hlv550_0 ?_
      refine aw_g hU.1 aj_d276 rfl rfl (by decide) (v := .ref 131) rfl ?_
      refine aw_l0 aj_d276 rfl rfl hlv550_3 ?_
      have ib566 : (x552.toInt).toNat = (x551.toInt).toNat + 1 := by omega
      refine aw_ld (k := 14) hU.1 aj_d276 (Or.inl ⟨rfl, rfl⟩) rfl (by decide) (by decide) rfl (a := x552.toInt) rfl (by omega) (by omega) (fun x567 ex567 => ?_)
      have bx567 : 0 ≤ x567.toInt ∧ x567.toInt ≤ 30 := by
        rw [ex567]
        exact aw_bd_a hs (hI558).1 (k := 14) (by decide) (by decide) rfl (by decide) rfl (by omega)
      have ftx567 : x567.toInt = (S549.2.2.1 14 (x552.toInt).toNat).toInt := congrArg Int32.toInt (ex567.trans (congrFun rfl _))
      rw [ib566] at ftx567
      have jb := J420.2
      refine aw_rem aj_d276 rfl (a := x554.toInt) (b := x567.toInt) rfl rfl (by omega) (by omega) (fun x568 ex568 => ?_)
      have dvx568 := ar_mod (a := x554.toInt) (b := x567.toInt) (by omega)
      rw [← ex568] at dvx568
      refine aw_k hU.1 aj_d276 rfl rfl [_, _] rfl rfl rfl (Nat.le_of_ble_eq_true rfl) (ar_at (by omega) (a := x552.toInt) (b := x568.toInt) rfl rfl (by omega) (by omega)) ?_
      rintro _ zx569 ⟨fx569, x569, rfl, ex569⟩
      rw [fx569]
      show aw_W _ _ _ _ 462 lv550 [.int x569, .ref 136, .int x565, .int x564, .ref 136] _ _
      refine aw_l0 aj_d276 rfl rfl hlv550_6 ?_
      refine aw_add aj_d276 rfl (a := ((x552.toInt * 30 + x568.toInt) * 32)) (b := x555.toInt) ex569 rfl (by omega) (by omega) (fun x570 ex570 => ?_)
      refine aw_ld (k := 19) hU.1 aj_d276 (Or.inl ⟨rfl, rfl⟩) rfl (by decide) (by decide) rfl (a := x570.toInt) rfl (by omega) (by omega) (fun x571 ex571 => ?_)
      refine aw_any aj_d276 rfl rfl (fun x572 ex572 => ?_)
      refine aw_st (k := 19) hU.1 aj_d276 (Or.inl ⟨rfl, rfl⟩) rfl (by decide) (by decide) rfl (a := x564.toInt) rfl (by omega) (by omega) ?_
      have hI573 := aw_I_a (aw_UV hU aw_Gs_sm) (k := 19) (j := (x564.toInt).toNat) (v := aj_nar 0 x572) hI558 (by decide) (by decide) (by decide) rfl (by decide) (by decide) rfl (aw_full _)
      have fr574 := aw_fr_a (k := 19) (j := (x564.toInt).toNat) (v := aj_nar 0 x572) (by decide) fr557
      refine aw_inc aj_d276 rfl hlv550_6 (a := x555.toInt) rfl (by omega) (by omega) (by decide) (by decide) (fun x575 ex575 => ?_)
      obtain ⟨lv576, elv576⟩ : ∃ l, l = aj_set1 lv550 6 (.int x575) := ⟨_, rfl⟩
      rw [← elv576]
      have hlv576_0 : aj_lv lv576 0 = some (.ref 117) := cw_e1 elv576 hlv550_0 (by decide) (Or.inl (by decide))
      have hlv576_1 : aj_lv lv576 1 = some (.int x551) := cw_e1 elv576 hlv550_1 (by decide) (Or.inl (by decide))
      have hlv576_3 : aj_lv lv576 3 = some (.int x552) := cw_e1 elv576 hlv550_3 (by decide) (Or.inl (by decide))
      have hlv576_4 : aj_lv lv576 4 = some (.int x553) := cw_e1 elv576 hlv550_4 (by decide) (Or.inl (by decide))
      have hlv576_5 : aj_lv lv576 5 = some (.int x554) := cw_e1 elv576 hlv550_5 (by decide) (Or.inr rfl)
      have hlv576_6 : aj_lv lv576 6 = some (.int x575) := by rw [elv576]; exact ak_set1_eq _ _ _
      show aw_W _ _ _ _ 471 lv576 [] _ _
      refine aw_n aj_d276 rfl rfl ?_
      exact ihL420_547 (aw_wa S549 19 (x564.toInt).toNat (aj_nar 0 x572)) lv576 (x551) (x552) (x553) (x554) (x575) hlv576_0 hlv576_1 hlv576_3 hlv576_4 hlv576_5 hlv576_6 ⟨(hI573).1, (aw_G_sm hI573.2 hI556.2)⟩ fr574 (by omega) (by omega) (by omega) (by omega) (by omega) (show _ ≤ ((S549.1 30)).toInt by omega) (ar_J_eq rfl rfl rfl J420) (by omega) (by omega) (by rw [show ((aw_wa S549 19 (x564.toInt).toNat (aj_nar 0 x572)).2.2.1 14) = S549.2.2.1 14 from rfl]; omega) (by omega) (by omega)
theorem ar_join_L405_526 (hU : aw_U tb s h) (hd : 4 ≤ d + 1) (x0 : Nat) (hj : ar_JP S x0) (N88 : Nat) (S486 : aj_S) (x488 : Int32) (x489 : Int32) (x490 : Int32) (x491 : Int32) (ihL88_484 : ∀ (S486 : aj_S) (lv487 : aj_V) (x488 : Int32) (x489 : Int32) (x490 : Int32) (x491 : Int32), (aj_lv lv487 0 = some (.ref 117)) → (aj_lv lv487 1 = some (.int x488)) → (aj_lv lv487 3 = some (.int x489)) → (aj_lv lv487 4 = some (.int x490)) → (aj_lv lv487 5 = some (.int x491)) → (aw_I s h (aw_G g) S486) → (aw_fr [24, 25, 31] [14, 15, 16, 17, 18, 19] S S486) → (20 ≤ x488.toInt ∧ x488.toInt ≤ 47) → (21 ≤ x489.toInt ∧ x489.toInt ≤ 48) → (0 ≤ x490.toInt ∧ x490.toInt ≤ 6) → (0 ≤ x491.toInt ∧ x491.toInt ≤ 6) → ((S.1 30).toInt + 0 ≤ (S486.1 30).toInt) → (ar_J S S486 (x488.toInt).toNat) → (x489.toInt = x488.toInt + 1) → (x490.toInt = (S.2.2.1 15 (x488.toInt).toNat).toInt) → (x0 = (x488.toInt).toNat) → (6 - x491.toInt).toNat < N88 → aw_W tb h d aj_m276 88 lv487 [] S486 ((ar_QB s h [24, 25, 31] [14, 15, 16, 17, 18, 19] S (fun S' => aw_G g S' ∧ (S.1 30).toInt ≤ (S'.1 30).toInt) (fun S' => aw_G g S' ∧ (S.1 30).toInt + 0 ≤ (S'.1 30).toInt)))) (hm88 : (6 - x491.toInt).toNat < N88 + 1) (N127 : Nat) (S499 : aj_S) (x501 : Int32) (x502 : Int32) (x503 : Int32) (x504 : Int32) (ihL127_497 : ∀ (S499 : aj_S) (lv500 : aj_V) (x501 : Int32) (x502 : Int32) (x503 : Int32) (x504 : Int32), (aj_lv lv500 0 = some (.ref 117)) → (aj_lv lv500 1 = some (.int x501)) → (aj_lv lv500 3 = some (.int x502)) → (aj_lv lv500 4 = some (.int x503)) → (aj_lv lv500 5 = some (.int x504)) → (aw_I s h (aw_G g) S499) → (aw_fr [24, 25, 31] [14, 15, 16, 17, 18, 19] S S499) → (20 ≤ x501.toInt ∧ x501.toInt ≤ 47) → (21 ≤ x502.toInt ∧ x502.toInt ≤ 48) → (0 ≤ x503.toInt ∧ x503.toInt ≤ 6) → (0 ≤ x504.toInt ∧ x504.toInt ≤ 30) → ((S.1 30).toInt + 0 ≤ (S499.1 30).toInt) → (ar_J S S499 (x501.toInt).toNat) → (x502.toInt = x501.toInt + 1) → (x503.toInt = (S.2.2.1 15 (x501.toInt).toNat).toInt) → (x0 = (x501.toInt).toNat) → (30 - x504.toInt).toNat < N127 → aw_W tb h d aj_m276 127 lv500 [] S499 ((ar_QB s h [24, 25, 31] [14, 15, 16, 17, 18, 19] S (fun S' => aw_G g S' ∧ (S.1 30).toInt ≤ (S'.1 30).toInt) (fun S' => aw_G g S' ∧ (S.1 30).toInt + 0 ≤ (S'.1 30).toInt)))) (hm127 : (30 - x504.toInt).toNat < N127 + 1) (N166 : Nat) (S513 : aj_S) (x515 : Int32) (x516 : Int32) (x517 : Int32) (x518 : Int32) (ihL166_511 : ∀ (S513 : aj_S) (lv514 : aj_V) (x515 : Int32) (x516 : Int32) (x517 : Int32) (x518 : Int32), (aj_lv lv514 0 = some (.ref 117)) → (aj_lv lv514 1 = some (.int x515)) → (aj_lv lv514 3 = some (.int x516)) → (aj_lv lv514 4 = some (.int x517)) → (aj_lv lv514 5 = some (.int x518)) → (aw_I s h (aw_G g) S513) → (aw_fr [24, 25, 31] [14, 15, 16, 17, 18, 19] S S513) → (20 ≤ x515.toInt ∧ x515.toInt ≤ 47) → (21 ≤ x516.toInt ∧ x516.toInt ≤ 48) → (0 ≤ x517.toInt ∧ x517.toInt ≤ 6) → (0 ≤ x518.toInt ∧ x518.toInt ≤ 6) → ((S.1 30).toInt + 0 ≤ (S513.1 30).toInt) → (ar_J S S513 (x515.toInt).toNat) → (x516.toInt = x515.toInt + 1) → (x517.toInt = (S.2.2.1 15 (x515.toInt).toNat).toInt + ar_nw S (x515.toInt).toNat (x518.toInt).toNat) → (x518.toInt ≤ (S.2.2.1 15 ((x515.toInt).toNat + 1)).toInt) → (x0 = (x515.toInt).toNat) → (6 - x518.toInt).toNat < N166 → aw_W tb h d aj_m276 166 lv514 [] S513 ((ar_QB s h [24, 25, 31] [14, 15, 16, 17, 18, 19] S (fun S' => aw_G g S' ∧ (S.1 30).toInt ≤ (S'.1 30).toInt) (fun S' => aw_G g S' ∧ (S.1 30).toInt + 0 ≤ (S'.1 30).toInt)))) (hm166 : (6 - x518.toInt).toNat < N166 + 1) : ∀ (N : Nat) (S528 : aj_S) (lv529 : aj_V) (x530 : Int32) (x531 : Int32) (x532 : Int32) (x533 : Int32), (aj_lv lv529 0 = some (.ref 117)) → (aj_lv lv529 1 = some (.int x530)) → (aj_lv lv529 3 = some (.int x531)) → (aj_lv lv529 4 = some (.int x532)) → (aj_lv lv529 5 = some (.int x533)) → (aw_I s h (aw_G g) S528) → (aw_fr [24, 25, 31] [14, 15, 16, 17, 18, 19] S S528) → (20 ≤ x530.toInt ∧ x530.toInt ≤ 47) → (21 ≤ x531.toInt ∧ x531.toInt ≤ 48) → (0 ≤ x532.toInt ∧ x532.toInt ≤ 6) → (0 ≤ x533.toInt ∧ x533.toInt ≤ 30) → ((S.1 30).toInt + 0 ≤ (S528.1 30).toInt) → (ar_J S S528 (x530.toInt).toNat) → (x531.toInt = x530.toInt + 1) → (x0 = (x530.toInt).toNat) → (30 - x533.toInt).toNat < N → aw_W tb h d aj_m276 405 lv529 [] S528 ((ar_QB s h [24, 25, 31] [14, 15, 16, 17, 18, 19] S (fun S' => aw_G g S' ∧ (S.1 30).toInt ≤ (S'.1 30).toInt) (fun S' => aw_G g S' ∧ (S.1 30).toInt + 0 ≤ (S'.1 30).toInt))) := by
  have hs : aw_sT s := aw_hy_sT hU.2.2
  intro N405
  induction N405 with
  | zero =>
    intro S528 lv529 x530 x531 x532 x533 hlv529_0 hlv529_1 hlv529_3 hlv529_4 hlv529_5 hI534 fr535 bx530 bx531 bx532 bx533 ck405 J405 b405 x405 hm405
    omega
  | succ N405 ihL405_526 =>
    intro S528 lv529 x530 x531 x532 x533 hlv529_0 hlv529_1 hlv529_3 hlv529_4 hlv529_5 hI534 fr535 bx530 bx531 bx532 bx533 ck405 J405 b405 x405 hm405
    have hI536 : aw_I s h (aw_sm S528) S528 := ⟨hI534.1, aw_sm_rf⟩
    have b537 : 0 ≤ (S528.1 30).toInt ∧ (S528.1 30).toInt ≤ 1001 := aw_bd_f hs (hI536).1 (by decide) rfl
    have hjx := hj
    rw [x405] at hjx
    obtain ⟨hj1, hj2, hj3⟩ := hjx
    refine aw_l0 aj_d276 rfl rfl hlv529_5 ?_
    refine aw_l2 aj_d276 rfl rfl hlv529_0 ?_
    refine aw_g hU.1 aj_d276 rfl rfl (by decide) (v := .ref 131) rfl ?_
    refine aw_n aj_d276 rfl rfl ?_
    refine aw_ld (k := 14) hU.1 aj_d276 (Or.inl ⟨rfl, rfl⟩) rfl (by decide) (by decide) rfl (a := (49 : Int)) rfl (by omega) (by omega) (fun x538 ex538 => ?_)
    have bx538 : 0 ≤ x538.toInt ∧ x538.toInt ≤ 30 := by
      rw [ex538]
      exact aw_bd_a hs (hI536).1 (k := 14) (by decide) (by decide) rfl (by decide) rfl (by omega)
    have ftx538 : x538.toInt = (S528.2.2.1 14 49).toInt := congrArg Int32.toInt (ex538.trans (congrFun rfl _))
    refine aw_c (tgt := 480) aj_d276 rfl rfl (fun q539 => ?_) (fun q539 => ?_)
    · have q539 : x533.toInt ≥ x538.toInt := aw_t_ge (a := x533.toInt) (b := x538.toInt) rfl rfl q539
      refine aw_l2 aj_d276 rfl rfl hlv529_0 ?_
      refine aw_g hU.1 aj_d276 rfl rfl (by decide) (v := .ref 132) rfl ?_
      refine aw_n aj_d276 rfl rfl ?_
      refine aw_l0 aj_d276 rfl rfl hlv529_4 ?_
      refine aw_st (k := 15) hU.1 aj_d276 (Or.inl ⟨rfl, rfl⟩) rfl (by decide) (by decide) rfl (a := (49 : Int)) rfl (by omega) (by omega) ?_
      have hI540 := aw_I_a (aw_UV hU aw_Gs_sm) (k := 15) (j := ((49 : Int)).toNat) (v := aj_nar 0 x532) hI536 (by decide) (by decide) (by decide) rfl (by decide) (by decide) rfl (aw_bp (a := x532.toInt) rfl (by omega) (by omega))
      have fr541 := aw_fr_a (k := 15) (j := ((49 : Int)).toNat) (v := aj_nar 0 x532) (by decide) fr535
      refine aw_l2 aj_d276 rfl rfl hlv529_0 ?_
      refine aw_n aj_d276 rfl rfl ?_
      refine aw_l0 aj_d276 rfl rfl hlv529_1 ?_
      refine aw_k hU.1 aj_d276 rfl rfl [_, _] rfl rfl rfl (Nat.le_of_ble_eq_true rfl) (aw_toK hU aw_Gs_G (con := ac_c251) (by omega) (ar_251 hU.2.1 (aw_SPc hU.2.2 aw_Gs_G) aw_kpc (arc_252 hU)) ⟨(hI540).1, (aw_G_sm hI540.2 hI534.2)⟩ ⟨(aw_g117 hU.2.2), (cw_gw (a := (49 : Int)) rfl (by omega) (by omega)), (cw_gw (a := x530.toInt) rfl (by omega) (by omega)), trivial⟩ (fun e he => nomatch he)) ?_
      rintro r542 S542 ⟨hr542, hJ542, fc542, po542, -⟩
      have hT542 := hJ542.1
      replace fc542 := aw_fr_sub (F' := []) (A' := [14, 15, 16, 17, 18, 19]) (by decide) (by decide) fc542
      have fr543 := aw_fr_tr fr541 (aw_fr_sub (F := []) (A := [14, 15, 16, 17, 18, 19]) (by decide) (by decide) fc542)
      have hI544 : aw_I s h (aw_sm S542) S542 := ⟨hT542, aw_sm_rf⟩
      obtain rfl := cw_rN hr542
      show aw_W _ _ _ _ 496 lv529 [] _ _
      refine aw_n aj_d276 rfl rfl ?_
      refine aw_e aj_d276 rfl rfl ?_
      have c545 : (S542.1 30).toInt = (S528.1 30).toInt := (congrArg Int32.toInt (fc542.1 30 (by decide)).1).trans rfl
      have b546 : 0 ≤ (S542.1 30).toInt ∧ (S542.1 30).toInt ≤ 1001 := aw_bd_f hs (hI544).1 (by decide) rfl
      exact ⟨(hI544).1, fr543, Or.inr ⟨_, rfl, rfl, hJ542.2, (show _ + 0 ≤ ((S542.1 30)).toInt by omega)⟩⟩
    · have q539 : x533.toInt < x538.toInt := aw_t_ge (a := x533.toInt) (b := x538.toInt) rfl rfl q539
      refine aw_n aj_d276 rfl rfl ?_
      refine aw_t0 (j := 6) aj_d276 rfl (by decide) rfl ?_
      obtain ⟨lv547, elv547⟩ : ∃ l, l = aj_set1 lv529 6 (.int (Int32.ofInt 0)) := ⟨_, rfl⟩
      rw [← elv547]
      have hlv547_0 : aj_lv lv547 0 = some (.ref 117) := cw_e1 elv547 hlv529_0 (by decide) (Or.inl (by decide))
      have hlv547_1 : aj_lv lv547 1 = some (.int x530) := cw_e1 elv547 hlv529_1 (by decide) (Or.inl (by decide))
      have hlv547_3 : aj_lv lv547 3 = some (.int x531) := cw_e1 elv547 hlv529_3 (by decide) (Or.inl (by decide))
      have hlv547_4 : aj_lv lv547 4 = some (.int x532) := cw_e1 elv547 hlv529_4 (by decide) (Or.inl (by decide))
      have hlv547_5 : aj_lv lv547 5 = some (.int x533) := cw_e1 elv547 hlv529_5 (by decide) (Or.inr rfl)
      have hlv547_6 : aj_lv lv547 6 = some (.int (Int32.ofInt 0)) := by rw [elv547]; exact ak_set1_eq _ _ _
      show aw_W _ _ _ _ 420 lv547 [] _ _
      exact (ar_join_L420_547 hU hd x0 hj N88 S486 x488 x489 x490 x491 ihL88_484 hm88 N127 S499 x501 x502 x503 x504 ihL127_497 hm127 N166 S513 x515 x516 x517 x518 ihL166_511 hm166 N405 S528 x530 x531 x532 x533 ihL405_526 hm405) _ S528 lv547 (x530) (x531) (x532) (x533) ((Int32.ofInt 0)) hlv547_0 hlv547_1 hlv547_3 hlv547_4 hlv547_5 hlv547_6 ⟨(hI536).1, hI534.2⟩ fr535 (by omega) (by omega) (by omega) (by omega) (by first | omega | decide) (show _ ≤ ((S528.1 30)).toInt by omega) J405 (by omega) (by omega) (by rw [show (S528.2.2.1 14) = S528.2.2.1 14 from rfl]; omega) (by omega) (Nat.lt_succ_self _)
theorem ar_join_L225_617 (hU : aw_U tb s h) (hd : 4 ≤ d + 1) (x0 : Nat) (hj : ar_JP S x0) (N88 : Nat) (S486 : aj_S) (x488 : Int32) (x489 : Int32) (x490 : Int32) (x491 : Int32) (ihL88_484 : ∀ (S486 : aj_S) (lv487 : aj_V) (x488 : Int32) (x489 : Int32) (x490 : Int32) (x491 : Int32), (aj_lv lv487 0 = some (.ref 117)) → (aj_lv lv487 1 = some (.int x488)) → (aj_lv lv487 3 = some (.int x489)) → (aj_lv lv487 4 = some (.int x490)) → (aj_lv lv487 5 = some (.int x491)) → (aw_I s h (aw_G g) S486) → (aw_fr [24, 25, 31] [14, 15, 16, 17, 18, 19] S S486) → (20 ≤ x488.toInt ∧ x488.toInt ≤ 47) → (21 ≤ x489.toInt ∧ x489.toInt ≤ 48) → (0 ≤ x490.toInt ∧ x490.toInt ≤ 6) → (0 ≤ x491.toInt ∧ x491.toInt ≤ 6) → ((S.1 30).toInt + 0 ≤ (S486.1 30).toInt) → (ar_J S S486 (x488.toInt).toNat) → (x489.toInt = x488.toInt + 1) → (x490.toInt = (S.2.2.1 15 (x488.toInt).toNat).toInt) → (x0 = (x488.toInt).toNat) → (6 - x491.toInt).toNat < N88 → aw_W tb h d aj_m276 88 lv487 [] S486 ((ar_QB s h [24, 25, 31] [14, 15, 16, 17, 18, 19] S (fun S' => aw_G g S' ∧ (S.1 30).toInt ≤ (S'.1 30).toInt) (fun S' => aw_G g S' ∧ (S.1 30).toInt + 0 ≤ (S'.1 30).toInt)))) (hm88 : (6 - x491.toInt).toNat < N88 + 1) (N127 : Nat) (S499 : aj_S) (x501 : Int32) (x502 : Int32) (x503 : Int32) (x504 : Int32) (ihL127_497 : ∀ (S499 : aj_S) (lv500 : aj_V) (x501 : Int32) (x502 : Int32) (x503 : Int32) (x504 : Int32), (aj_lv lv500 0 = some (.ref 117)) → (aj_lv lv500 1 = some (.int x501)) → (aj_lv lv500 3 = some (.int x502)) → (aj_lv lv500 4 = some (.int x503)) → (aj_lv lv500 5 = some (.int x504)) → (aw_I s h (aw_G g) S499) → (aw_fr [24, 25, 31] [14, 15, 16, 17, 18, 19] S S499) → (20 ≤ x501.toInt ∧ x501.toInt ≤ 47) → (21 ≤ x502.toInt ∧ x502.toInt ≤ 48) → (0 ≤ x503.toInt ∧ x503.toInt ≤ 6) → (0 ≤ x504.toInt ∧ x504.toInt ≤ 30) → ((S.1 30).toInt + 0 ≤ (S499.1 30).toInt) → (ar_J S S499 (x501.toInt).toNat) → (x502.toInt = x501.toInt + 1) → (x503.toInt = (S.2.2.1 15 (x501.toInt).toNat).toInt) → (x0 = (x501.toInt).toNat) → (30 - x504.toInt).toNat < N127 → aw_W tb h d aj_m276 127 lv500 [] S499 ((ar_QB s h [24, 25, 31] [14, 15, 16, 17, 18, 19] S (fun S' => aw_G g S' ∧ (S.1 30).toInt ≤ (S'.1 30).toInt) (fun S' => aw_G g S' ∧ (S.1 30).toInt + 0 ≤ (S'.1 30).toInt)))) (hm127 : (30 - x504.toInt).toNat < N127 + 1) (N166 : Nat) (S513 : aj_S) (x515 : Int32) (x516 : Int32) (x517 : Int32) (x518 : Int32) (ihL166_511 : ∀ (S513 : aj_S) (lv514 : aj_V) (x515 : Int32) (x516 : Int32) (x517 : Int32) (x518 : Int32), (aj_lv lv514 0 = some (.ref 117)) → (aj_lv lv514 1 = some (.int x515)) → (aj_lv lv514 3 = some (.int x516)) → (aj_lv lv514 4 = some (.int x517)) → (aj_lv lv514 5 = some (.int x518)) → (aw_I s h (aw_G g) S513) → (aw_fr [24, 25, 31] [14, 15, 16, 17, 18, 19] S S513) → (20 ≤ x515.toInt ∧ x515.toInt ≤ 47) → (21 ≤ x516.toInt ∧ x516.toInt ≤ 48) → (0 ≤ x517.toInt ∧ x517.toInt ≤ 6) → (0 ≤ x518.toInt ∧ x518.toInt ≤ 6) → ((S.1 30).toInt + 0 ≤ (S513.1 30).toInt) → (ar_J S S513 (x515.toInt).toNat) → (x516.toInt = x515.toInt + 1) → (x517.toInt = (S.2.2.1 15 (x515.toInt).toNat).toInt + ar_nw S (x515.toInt).toNat (x518.toInt).toNat) → (x518.toInt ≤ (S.2.2.1 15 ((x515.toInt).toNat + 1)).toInt) → (x0 = (x515.toInt).toNat) → (6 - x518.toInt).toNat < N166 → aw_W tb h d aj_m276 166 lv514 [] S513 ((ar_QB s h [24, 25, 31] [14, 15, 16, 17, 18, 19] S (fun S' => aw_G g S' ∧ (S.1 30).toInt ≤ (S'.1 30).toInt) (fun S' => aw_G g S' ∧ (S.1 30).toInt + 0 ≤ (S'.1 30).toInt)))) (hm166 : (6 - x518.toInt).toNat < N166 + 1) (N199 : Nat) (S584 : aj_S) (x586 : Int32) (x587 : Int32) (x588 : Int32) (x589 : Int32) (x590 : Int32) (x591 : Int32) (ihL199_582 : ∀ (S584 : aj_S) (lv585 : aj_V) (x586 : Int32) (x587 : Int32) (x588 : Int32) (x589 : Int32) (x590 : Int32) (x591 : Int32), (aj_lv lv585 0 = some (.ref 117)) → (aj_lv lv585 1 = some (.int x586)) → (aj_lv lv585 3 = some (.int x587)) → (aj_lv lv585 4 = some (.int x588)) → (aj_lv lv585 5 = some (.int x589)) → (aj_lv lv585 6 = some (.int x590)) → (aj_lv lv585 7 = some (.int x591)) → (aw_I s h (aw_G g) S584) → (aw_fr [24, 25, 31] [14, 15, 16, 17, 18, 19] S S584) → (20 ≤ x586.toInt ∧ x586.toInt ≤ 47) → (21 ≤ x587.toInt ∧ x587.toInt ≤ 48) → (0 ≤ x588.toInt ∧ x588.toInt ≤ 6) → (0 ≤ x589.toInt ∧ x589.toInt ≤ 5) → ((-1) ≤ x590.toInt ∧ x590.toInt ≤ 5) → (0 ≤ x591.toInt ∧ x591.toInt ≤ 30) → ((S.1 30).toInt + 0 ≤ (S584.1 30).toInt) → (ar_J S S584 (x586.toInt).toNat) → (x587.toInt = x586.toInt + 1) → (x588.toInt = (S.2.2.1 15 (x586.toInt).toNat).toInt + ar_nw S (x586.toInt).toNat (x589.toInt).toNat) → (x589.toInt + 1 ≤ (S.2.2.1 15 ((x586.toInt).toNat + 1)).toInt) → (((0 ≤ x590.toInt ∧ ar_nw S (x586.toInt).toNat ((x589.toInt).toNat + 1) = ar_nw S (x586.toInt).toNat (x589.toInt).toNat) ∨ (x590.toInt = -1 ∧ ar_nw S (x586.toInt).toNat ((x589.toInt).toNat + 1) = ar_nw S (x586.toInt).toNat (x589.toInt).toNat + 1))) → (x589.toInt = x518.toInt) → (x0 = (x586.toInt).toNat) → (30 - x591.toInt).toNat < N199 → aw_W tb h d aj_m276 199 lv585 [] S584 ((ar_QB s h [24, 25, 31] [14, 15, 16, 17, 18, 19] S (fun S' => aw_G g S' ∧ (S.1 30).toInt ≤ (S'.1 30).toInt) (fun S' => aw_G g S' ∧ (S.1 30).toInt + 0 ≤ (S'.1 30).toInt)))) (hm199 : (30 - x591.toInt).toNat < N199 + 1) : ∀ (N : Nat) (S619 : aj_S) (lv620 : aj_V) (x621 : Int32) (x622 : Int32) (x623 : Int32) (x624 : Int32) (x625 : Int32) (x626 : Int32) (x627 : Int32) (x628 : Int32), (aj_lv lv620 0 = some (.ref 117)) → (aj_lv lv620 1 = some (.int x621)) → (aj_lv lv620 3 = some (.int x622)) → (aj_lv lv620 4 = some (.int x623)) → (aj_lv lv620 5 = some (.int x624)) → (aj_lv lv620 6 = some (.int x625)) → (aj_lv lv620 7 = some (.int x626)) → (aj_lv lv620 8 = some (.int x627)) → (aj_lv lv620 9 = some (.int x628)) → (aw_I s h (aw_G g) S619) → (aw_fr [24, 25, 31] [14, 15, 16, 17, 18, 19] S S619) → (20 ≤ x621.toInt ∧ x621.toInt ≤ 47) → (21 ≤ x622.toInt ∧ x622.toInt ≤ 48) → (0 ≤ x623.toInt ∧ x623.toInt ≤ 6) → (0 ≤ x624.toInt ∧ x624.toInt ≤ 5) → ((-1) ≤ x625.toInt ∧ x625.toInt ≤ 5) → (0 ≤ x626.toInt ∧ x626.toInt ≤ 29) → (0 ≤ x627.toInt ∧ x627.toInt ≤ 29) → (0 ≤ x628.toInt ∧ x628.toInt ≤ 1024) → ((S.1 30).toInt + 0 ≤ (S619.1 30).toInt) → (ar_J S S619 (x621.toInt).toNat) → (x622.toInt = x621.toInt + 1) → (x623.toInt = (S.2.2.1 15 (x621.toInt).toNat).toInt + ar_nw S (x621.toInt).toNat (x624.toInt).toNat) → (x624.toInt + 1 ≤ (S.2.2.1 15 ((x621.toInt).toNat + 1)).toInt) → (((0 ≤ x625.toInt ∧ ar_nw S (x621.toInt).toNat ((x624.toInt).toNat + 1) = ar_nw S (x621.toInt).toNat (x624.toInt).toNat) ∨ (x625.toInt = -1 ∧ ar_nw S (x621.toInt).toNat ((x624.toInt).toNat + 1) = ar_nw S (x621.toInt).toNat (x624.toInt).toNat + 1))) → (x624.toInt = x518.toInt) → (x626.toInt = x591.toInt) → (x626.toInt < (S619.2.2.1 14 49).toInt) → (x0 = (x621.toInt).toNat) → (1024 - x628.toInt).toNat < N → aw_W tb h d aj_m276 225 lv620 [] S619 ((ar_QB s h [24, 25, 31] [14, 15, 16, 17, 18, 19] S (fun S' => aw_G g S' ∧ (S.1 30).toInt ≤ (S'.1 30).toInt) (fun S' => aw_G g S' ∧ (S.1 30).toInt + 0 ≤ (S'.1 30).toInt))) := by
  have hs : aw_sT s := aw_hy_sT hU.2.2
  intro N225
  induction N225 with
  | zero =>
    intro S619 lv620 x621 x622 x623 x624 x625 x626 x627 x628 hlv620_0 hlv620_1 hlv620_3 hlv620_4 hlv620_5 hlv620_6 hlv620_7 hlv620_8 hlv620_9 hI629 fr630 bx621 bx622 bx623 bx624 bx625 bx626 bx627 bx628 ck225 J225 b225 n225 c225 s225 o225 e225 r225 x225 hm225
    omega
  | succ N225 ihL225_617 =>
    intro S619 lv620 x621 x622 x623 x624 x625 x626 x627 x628 hlv620_0 hlv620_1 hlv620_3 hlv620_4 hlv620_5 hlv620_6 hlv620_7 hlv620_8 hlv620_9 hI629 fr630 bx621 bx622 bx623 bx624 bx625 bx626 bx627 bx628 ck225 J225 b225 n225 c225 s225 o225 e225 r225 x225 hm225
    have hI631 : aw_I s h (aw_sm S619) S619 := ⟨hI629.1, aw_sm_rf⟩
    have b632 : 0 ≤ (S619.1 30).toInt ∧ (S619.1 30).toInt ≤ 1001 := aw_bd_f hs (hI631).1 (by decide) rfl
    have hjx := hj
    rw [x225] at hjx
    obtain ⟨hj1, hj2, hj3⟩ := hjx
    have nwl : ∀ c : Nat, (c : Int) ≤ (S.2.2.1 15 ((x621.toInt).toNat + 1)).toInt → ar_nw S (x621.toInt).toNat c ≤ ar_nw S (x621.toInt).toNat ((S.2.2.1 15 ((x621.toInt).toNat + 1)).toInt).toNat := fun c hc => ar_nw_le (by omega)
    have nwc := nwl ((x624.toInt).toNat + 1) (by omega)
    refine aw_l0 aj_d276 rfl rfl hlv620_9 ?_
    refine aw_l2 aj_d276 rfl rfl hlv620_0 ?_
    refine aw_g hU.1 aj_d276 rfl rfl (by decide) (v := .ref 122) rfl ?_
    refine aw_l2 aj_d276 rfl rfl hlv620_0 ?_
    have b633 : 0 ≤ (S619.1 37).toInt ∧ (S619.1 37).toInt ≤ 1 := aw_bd_f hs (hI631).1 (by decide) rfl
    refine aw_g hU.1 aj_d276 rfl rfl (by decide) (v := .int (S619.1 37)) rfl ?_
    refine aw_ld (k := 5) hU.1 aj_d276 (Or.inl ⟨rfl, rfl⟩) rfl (by decide) (by decide) rfl (a := (S619.1 37).toInt) rfl (by omega) (by omega) (fun x634 ex634 => ?_)
    have bx634 : 0 ≤ x634.toInt ∧ x634.toInt ≤ 1024 := by
      rw [ex634]
      exact aw_bd_a hs (hI631).1 (k := 5) (by decide) (by decide) rfl (by decide) rfl (by omega)
    refine aw_c (tgt := 300) aj_d276 rfl rfl (fun q635 => ?_) (fun q635 => ?_)
    · have q635 : x628.toInt ≥ x634.toInt := aw_t_ge (a := x628.toInt) (b := x634.toInt) rfl rfl q635
      refine aw_l0 aj_d276 rfl rfl hlv620_6 ?_
      refine aw_z (tgt := 359) aj_d276 rfl rfl (fun q636 => ?_) (fun q636 => ?_)
      · have q636 : x625.toInt ≥ (0 : Int) := aw_t_ge (a := x625.toInt) (b := (0 : Int)) rfl rfl q636
        refine aw_inc aj_d276 rfl hlv620_7 (a := x626.toInt) rfl (by omega) (by omega) (by decide) (by decide) (fun x637 ex637 => ?_)
        obtain ⟨lv638, elv638⟩ : ∃ l, l = aj_set1 lv620 7 (.int x637) := ⟨_, rfl⟩
        rw [← elv638]
        have hlv638_0 : aj_lv lv638 0 = some (.ref 117) := cw_e1 elv638 hlv620_0 (by decide) (Or.inl (by decide))
        have hlv638_1 : aj_lv lv638 1 = some (.int x621) := cw_e1 elv638 hlv620_1 (by decide) (Or.inl (by decide))
        have hlv638_3 : aj_lv lv638 3 = some (.int x622) := cw_e1 elv638 hlv620_3 (by decide) (Or.inl (by decide))
        have hlv638_4 : aj_lv lv638 4 = some (.int x623) := cw_e1 elv638 hlv620_4 (by decide) (Or.inl (by decide))
        have hlv638_5 : aj_lv lv638 5 = some (.int x624) := cw_e1 elv638 hlv620_5 (by decide) (Or.inl (by decide))
        have hlv638_6 : aj_lv lv638 6 = some (.int x625) := cw_e1 elv638 hlv620_6 (by decide) (Or.inr rfl)
        have hlv638_7 : aj_lv lv638 7 = some (.int x637) := by rw [elv638]; exact ak_set1_eq _ _ _
        show aw_W _ _ _ _ 362 lv638 [] _ _
        refine aw_n aj_d276 rfl rfl ?_
        exact ihL199_582 S619 lv638 (x621) (x622) (x623) (x624) (x625) (x637) hlv638_0 hlv638_1 hlv638_3 hlv638_4 hlv638_5 hlv638_6 hlv638_7 ⟨(hI631).1, hI629.2⟩ fr630 (by omega) (by omega) (by omega) (by omega) (by omega) (by omega) (show _ ≤ ((S619.1 30)).toInt by omega) J225 (by omega) (by omega) (by omega) (by omega) (by omega) (by omega) (by omega)
      · have q636 : x625.toInt < (0 : Int) := aw_t_ge (a := x625.toInt) (b := (0 : Int)) rfl rfl q636
        refine aw_l2 aj_d276 rfl rfl hlv620_0 ?_
        refine aw_g hU.1 aj_d276 rfl rfl (by decide) (v := .ref 134) rfl ?_
        refine aw_n aj_d276 rfl rfl ?_
        refine aw_l0 aj_d276 rfl rfl hlv620_7 ?_
        refine aw_l0 aj_d276 rfl rfl hlv620_4 ?_
        refine aw_ks aj_d276 rfl rfl rfl [_, _, _] rfl rfl (Nat.le_of_ble_eq_true rfl) (ar_cellAt (by omega) (a := (49 : Int)) (b := x626.toInt) (c := x623.toInt) rfl rfl rfl (by omega) (by omega) (by omega)) ?_
        rintro _ zx639 ⟨fx639, x639, rfl, ex639⟩
        rw [fx639]
        show aw_W _ _ _ _ 318 lv620 [.int x639, .ref 134] _ _
        refine aw_l2 aj_d276 rfl rfl hlv620_0 ?_
        refine aw_g hU.1 aj_d276 rfl rfl (by decide) (v := .ref 134) rfl ?_
        refine aw_l0 aj_d276 rfl rfl hlv620_3 ?_
        refine aw_l0 aj_d276 rfl rfl hlv620_8 ?_
        refine aw_l0 aj_d276 rfl rfl hlv620_5 ?_
        refine aw_ks aj_d276 rfl rfl rfl [_, _, _] rfl rfl (Nat.le_of_ble_eq_true rfl) (ar_cellAt (by omega) (a := x622.toInt) (b := x627.toInt) (c := x624.toInt) rfl rfl rfl (by omega) (by omega) (by omega)) ?_
        rintro _ zx640 ⟨fx640, x640, rfl, ex640⟩
        rw [fx640]
        show aw_W _ _ _ _ 330 lv620 [.int x640, .ref 134, .int x639, .ref 134] _ _
        refine aw_ld (k := 17) hU.1 aj_d276 (Or.inr (Or.inr (Or.inr ⟨rfl, rfl⟩))) rfl (by decide) (by decide) rfl (a := ((x622.toInt * 30 + x627.toInt) * 8 + x624.toInt)) ex640 (by omega) (by omega) (fun x641 ex641 => ?_)
        have bx641 : 0 ≤ x641.toInt ∧ x641.toInt ≤ 1 := by
          rw [ex641]
          exact aw_bd_a hs (hI631).1 (k := 17) (by decide) (by decide) rfl (by decide) rfl (by omega)
        refine aw_st (k := 17) hU.1 aj_d276 (Or.inr (Or.inr (Or.inr ⟨rfl, rfl⟩))) rfl (by decide) (by decide) rfl (a := (((49 : Int) * 30 + x626.toInt) * 8 + x623.toInt)) ex639 (by omega) (by omega) ?_
        have hI642 : aw_I s h (aw_sm (aw_wa S619 17 ((((49 : Int) * 30 + x626.toInt) * 8 + x623.toInt)).toNat (aj_nar 4 x641))) (aw_wa S619 17 ((((49 : Int) * 30 + x626.toInt) * 8 + x623.toInt)).toNat (aj_nar 4 x641)) := ⟨aw_T_a hU.2.1 hs hU.1.1 (hI631).1 (by decide) (by decide) rfl (by decide) (by decide) rfl (aw_nar4 (aw_bp (a := x641.toInt) rfl (by omega) (by omega)) (by decide) (by decide)), aw_sm_rf⟩
        have fr643 := aw_fr_a (k := 17) (j := ((((49 : Int) * 30 + x626.toInt) * 8 + x623.toInt)).toNat) (v := aj_nar 4 x641) (by decide) fr630
        refine aw_l2 aj_d276 rfl rfl hlv620_0 ?_
        refine aw_g hU.1 aj_d276 rfl rfl (by decide) (v := .ref 135) rfl ?_
        refine aw_n aj_d276 rfl rfl ?_
        refine aw_l0 aj_d276 rfl rfl hlv620_7 ?_
        refine aw_l0 aj_d276 rfl rfl hlv620_4 ?_
        refine aw_ks aj_d276 rfl rfl rfl [_, _, _] rfl rfl (Nat.le_of_ble_eq_true rfl) (ar_cellAt (by omega) (a := (49 : Int)) (b := x626.toInt) (c := x623.toInt) rfl rfl rfl (by omega) (by omega) (by omega)) ?_
        rintro _ zx644 ⟨fx644, x644, rfl, ex644⟩
        rw [fx644]
        show aw_W _ _ _ _ 345 lv620 [.int x644, .ref 135] _ _
        refine aw_l2 aj_d276 rfl rfl hlv620_0 ?_
        refine aw_g hU.1 aj_d276 rfl rfl (by decide) (v := .ref 135) rfl ?_
        refine aw_l0 aj_d276 rfl rfl hlv620_3 ?_
        refine aw_l0 aj_d276 rfl rfl hlv620_8 ?_
        refine aw_l0 aj_d276 rfl rfl hlv620_5 ?_
        refine aw_ks aj_d276 rfl rfl rfl [_, _, _] rfl rfl (Nat.le_of_ble_eq_true rfl) (ar_cellAt (by omega) (a := x622.toInt) (b := x627.toInt) (c := x624.toInt) rfl rfl rfl (by omega) (by omega) (by omega)) ?_
        rintro _ zx645 ⟨fx645, x645, rfl, ex645⟩
        rw [fx645]
        show aw_W _ _ _ _ 357 lv620 [.int x645, .ref 135, .int x644, .ref 135] _ _
        refine aw_ld (k := 18) hU.1 aj_d276 (Or.inl ⟨rfl, rfl⟩) rfl (by decide) (by decide) rfl (a := ((x622.toInt * 30 + x627.toInt) * 8 + x624.toInt)) ex645 (by omega) (by omega) (fun x646 ex646 => ?_)
        refine aw_st (k := 18) hU.1 aj_d276 (Or.inl ⟨rfl, rfl⟩) rfl (by decide) (by decide) rfl (a := (((49 : Int) * 30 + x626.toInt) * 8 + x623.toInt)) ex644 (by omega) (by omega) ?_
        have hI647 : aw_I s h (aw_sm (aw_wa (aw_wa S619 17 ((((49 : Int) * 30 + x626.toInt) * 8 + x623.toInt)).toNat (aj_nar 4 x641)) 18 ((((49 : Int) * 30 + x626.toInt) * 8 + x623.toInt)).toNat (aj_nar 0 x646))) (aw_wa (aw_wa S619 17 ((((49 : Int) * 30 + x626.toInt) * 8 + x623.toInt)).toNat (aj_nar 4 x641)) 18 ((((49 : Int) * 30 + x626.toInt) * 8 + x623.toInt)).toNat (aj_nar 0 x646)) := ⟨aw_T_a hU.2.1 hs hU.1.1 (hI642).1 (by decide) (by decide) rfl (by decide) (by decide) rfl (aw_full _), aw_sm_rf⟩
        have fr648 := aw_fr_a (k := 18) (j := ((((49 : Int) * 30 + x626.toInt) * 8 + x623.toInt)).toNat) (v := aj_nar 0 x646) (by decide) fr643
        have hG649 := aw_G_sk (S' := (aw_wa (aw_wa S619 17 ((((49 : Int) * 30 + x626.toInt) * 8 + x623.toInt)).toNat (aj_nar 4 x641)) 18 ((((49 : Int) * 30 + x626.toInt) * 8 + x623.toInt)).toNat (aj_nar 0 x646))) hI629.2 (aw_sk_2 aw_sk_rf) (aw_kv_2 (aw_G_B hI629.2).1 (by first | rfl | (congr 1) | omega) (by
            rw [aw_nar4_01 (by omega)]
            intro z
            have y := (aw_G_B hI629.2).1 (((x622.toInt * 30 + x627.toInt) * 8 + x624.toInt)).toNat (by omega) (by rw [ex641] at z; exact z)
            have hx : (((x622.toInt * 30 + x627.toInt) * 8 + x624.toInt)).toNat = (((x622.toInt * 30 + x627.toInt) * 8 + x624.toInt)).toNat := by omega
            show 0 ≤ (x646).toInt ∧ (x646).toInt ≤ 7
            rw [ex646]
            show 0 ≤ (S619.2.2.1 18 (((x622.toInt * 30 + x627.toInt) * 8 + x624.toInt)).toNat).toInt ∧ (S619.2.2.1 18 (((x622.toInt * 30 + x627.toInt) * 8 + x624.toInt)).toNat).toInt ≤ 7
            rw [hx]
            exact y))
        have hI650 : aw_I s h (aw_sm (aw_wa (aw_wa S619 17 ((((49 : Int) * 30 + x626.toInt) * 8 + x623.toInt)).toNat (aj_nar 4 x641)) 18 ((((49 : Int) * 30 + x626.toInt) * 8 + x623.toInt)).toNat (aj_nar 0 x646))) (aw_wa (aw_wa S619 17 ((((49 : Int) * 30 + x626.toInt) * 8 + x623.toInt)).toNat (aj_nar 4 x641)) 18 ((((49 : Int) * 30 + x626.toInt) * 8 + x623.toInt)).toNat (aj_nar 0 x646)) := ⟨(hI647).1, aw_sm_rf⟩
        refine aw_inc aj_d276 rfl hlv620_7 (a := x626.toInt) rfl (by omega) (by omega) (by decide) (by decide) (fun x651 ex651 => ?_)
        obtain ⟨lv652, elv652⟩ : ∃ l, l = aj_set1 lv620 7 (.int x651) := ⟨_, rfl⟩
        rw [← elv652]
        have hlv652_0 : aj_lv lv652 0 = some (.ref 117) := cw_e1 elv652 hlv620_0 (by decide) (Or.inl (by decide))
        have hlv652_1 : aj_lv lv652 1 = some (.int x621) := cw_e1 elv652 hlv620_1 (by decide) (Or.inl (by decide))
        have hlv652_3 : aj_lv lv652 3 = some (.int x622) := cw_e1 elv652 hlv620_3 (by decide) (Or.inl (by decide))
        have hlv652_4 : aj_lv lv652 4 = some (.int x623) := cw_e1 elv652 hlv620_4 (by decide) (Or.inl (by decide))
        have hlv652_5 : aj_lv lv652 5 = some (.int x624) := cw_e1 elv652 hlv620_5 (by decide) (Or.inl (by decide))
        have hlv652_6 : aj_lv lv652 6 = some (.int x625) := cw_e1 elv652 hlv620_6 (by decide) (Or.inr rfl)
        have hlv652_7 : aj_lv lv652 7 = some (.int x651) := by rw [elv652]; exact ak_set1_eq _ _ _
        show aw_W _ _ _ _ 362 lv652 [] _ _
        refine aw_n aj_d276 rfl rfl ?_
        exact ihL199_582 (aw_wa (aw_wa S619 17 ((((49 : Int) * 30 + x626.toInt) * 8 + x623.toInt)).toNat (aj_nar 4 x641)) 18 ((((49 : Int) * 30 + x626.toInt) * 8 + x623.toInt)).toNat (aj_nar 0 x646)) lv652 (x621) (x622) (x623) (x624) (x625) (x651) hlv652_0 hlv652_1 hlv652_3 hlv652_4 hlv652_5 hlv652_6 hlv652_7 ⟨(hI650).1, hG649⟩ fr648 (by omega) (by omega) (by omega) (by omega) (by omega) (by omega) (show _ ≤ ((S619.1 30)).toInt by omega) (ar_J_eq rfl rfl rfl J225) (by omega) (by omega) (by omega) (by omega) (by omega) (by omega) (by omega)
    · have q635 : x628.toInt < x634.toInt := aw_t_ge (a := x628.toInt) (b := x634.toInt) rfl rfl q635
      refine aw_l0 aj_d276 rfl rfl hlv620_6 ?_
      refine aw_z (tgt := 300) aj_d276 rfl rfl (fun q653 => ?_) (fun q653 => ?_)
      · have q653 : x625.toInt < (0 : Int) := aw_t_lt (a := x625.toInt) (b := (0 : Int)) rfl rfl q653
        refine aw_l0 aj_d276 rfl rfl hlv620_6 ?_
        refine aw_z (tgt := 359) aj_d276 rfl rfl (fun q654 => ?_) (fun q654 => ?_)
        · have q654 : x625.toInt ≥ (0 : Int) := aw_t_ge (a := x625.toInt) (b := (0 : Int)) rfl rfl q654
          refine aw_inc aj_d276 rfl hlv620_7 (a := x626.toInt) rfl (by omega) (by omega) (by decide) (by decide) (fun x655 ex655 => ?_)
          obtain ⟨lv656, elv656⟩ : ∃ l, l = aj_set1 lv620 7 (.int x655) := ⟨_, rfl⟩
          rw [← elv656]
          have hlv656_0 : aj_lv lv656 0 = some (.ref 117) := cw_e1 elv656 hlv620_0 (by decide) (Or.inl (by decide))
          have hlv656_1 : aj_lv lv656 1 = some (.int x621) := cw_e1 elv656 hlv620_1 (by decide) (Or.inl (by decide))
          have hlv656_3 : aj_lv lv656 3 = some (.int x622) := cw_e1 elv656 hlv620_3 (by decide) (Or.inl (by decide))
          have hlv656_4 : aj_lv lv656 4 = some (.int x623) := cw_e1 elv656 hlv620_4 (by decide) (Or.inl (by decide))
          have hlv656_5 : aj_lv lv656 5 = some (.int x624) := cw_e1 elv656 hlv620_5 (by decide) (Or.inl (by decide))
          have hlv656_6 : aj_lv lv656 6 = some (.int x625) := cw_e1 elv656 hlv620_6 (by decide) (Or.inr rfl)
          have hlv656_7 : aj_lv lv656 7 = some (.int x655) := by rw [elv656]; exact ak_set1_eq _ _ _
          show aw_W _ _ _ _ 362 lv656 [] _ _
          refine aw_n aj_d276 rfl rfl ?_
          exact ihL199_582 S619 lv656 (x621) (x622) (x623) (x624) (x625) (x655) hlv656_0 hlv656_1 hlv656_3 hlv656_4 hlv656_5 hlv656_6 hlv656_7 ⟨(hI631).1, hI629.2⟩ fr630 (by omega) (by omega) (by omega) (by omega) (by omega) (by omega) (show _ ≤ ((S619.1 30)).toInt by omega) J225 (by omega) (by omega) (by omega) (by omega) (by omega) (by omega) (by omega)
        · have q654 : x625.toInt < (0 : Int) := aw_t_ge (a := x625.toInt) (b := (0 : Int)) rfl rfl q654
          refine aw_l2 aj_d276 rfl rfl hlv620_0 ?_
          refine aw_g hU.1 aj_d276 rfl rfl (by decide) (v := .ref 134) rfl ?_
          refine aw_n aj_d276 rfl rfl ?_
          refine aw_l0 aj_d276 rfl rfl hlv620_7 ?_
          refine aw_l0 aj_d276 rfl rfl hlv620_4 ?_
          refine aw_ks aj_d276 rfl rfl rfl [_, _, _] rfl rfl (Nat.le_of_ble_eq_true rfl) (ar_cellAt (by omega) (a := (49 : Int)) (b := x626.toInt) (c := x623.toInt) rfl rfl rfl (by omega) (by omega) (by omega)) ?_
          rintro _ zx657 ⟨fx657, x657, rfl, ex657⟩
          rw [fx657]
          show aw_W _ _ _ _ 318 lv620 [.int x657, .ref 134] _ _
          refine aw_l2 aj_d276 rfl rfl hlv620_0 ?_
          refine aw_g hU.1 aj_d276 rfl rfl (by decide) (v := .ref 134) rfl ?_
          refine aw_l0 aj_d276 rfl rfl hlv620_3 ?_
          refine aw_l0 aj_d276 rfl rfl hlv620_8 ?_
          refine aw_l0 aj_d276 rfl rfl hlv620_5 ?_
          refine aw_ks aj_d276 rfl rfl rfl [_, _, _] rfl rfl (Nat.le_of_ble_eq_true rfl) (ar_cellAt (by omega) (a := x622.toInt) (b := x627.toInt) (c := x624.toInt) rfl rfl rfl (by omega) (by omega) (by omega)) ?_
          rintro _ zx658 ⟨fx658, x658, rfl, ex658⟩
          rw [fx658]
          show aw_W _ _ _ _ 330 lv620 [.int x658, .ref 134, .int x657, .ref 134] _ _
          refine aw_ld (k := 17) hU.1 aj_d276 (Or.inr (Or.inr (Or.inr ⟨rfl, rfl⟩))) rfl (by decide) (by decide) rfl (a := ((x622.toInt * 30 + x627.toInt) * 8 + x624.toInt)) ex658 (by omega) (by omega) (fun x659 ex659 => ?_)
          have bx659 : 0 ≤ x659.toInt ∧ x659.toInt ≤ 1 := by
            rw [ex659]
            exact aw_bd_a hs (hI631).1 (k := 17) (by decide) (by decide) rfl (by decide) rfl (by omega)
          refine aw_st (k := 17) hU.1 aj_d276 (Or.inr (Or.inr (Or.inr ⟨rfl, rfl⟩))) rfl (by decide) (by decide) rfl (a := (((49 : Int) * 30 + x626.toInt) * 8 + x623.toInt)) ex657 (by omega) (by omega) ?_
          have hI660 : aw_I s h (aw_sm (aw_wa S619 17 ((((49 : Int) * 30 + x626.toInt) * 8 + x623.toInt)).toNat (aj_nar 4 x659))) (aw_wa S619 17 ((((49 : Int) * 30 + x626.toInt) * 8 + x623.toInt)).toNat (aj_nar 4 x659)) := ⟨aw_T_a hU.2.1 hs hU.1.1 (hI631).1 (by decide) (by decide) rfl (by decide) (by decide) rfl (aw_nar4 (aw_bp (a := x659.toInt) rfl (by omega) (by omega)) (by decide) (by decide)), aw_sm_rf⟩
          have fr661 := aw_fr_a (k := 17) (j := ((((49 : Int) * 30 + x626.toInt) * 8 + x623.toInt)).toNat) (v := aj_nar 4 x659) (by decide) fr630
          refine aw_l2 aj_d276 rfl rfl hlv620_0 ?_
          refine aw_g hU.1 aj_d276 rfl rfl (by decide) (v := .ref 135) rfl ?_
          refine aw_n aj_d276 rfl rfl ?_
          refine aw_l0 aj_d276 rfl rfl hlv620_7 ?_
          refine aw_l0 aj_d276 rfl rfl hlv620_4 ?_
          refine aw_ks aj_d276 rfl rfl rfl [_, _, _] rfl rfl (Nat.le_of_ble_eq_true rfl) (ar_cellAt (by omega) (a := (49 : Int)) (b := x626.toInt) (c := x623.toInt) rfl rfl rfl (by omega) (by omega) (by omega)) ?_
          rintro _ zx662 ⟨fx662, x662, rfl, ex662⟩
          rw [fx662]
          show aw_W _ _ _ _ 345 lv620 [.int x662, .ref 135] _ _
          refine aw_l2 aj_d276 rfl rfl hlv620_0 ?_
          refine aw_g hU.1 aj_d276 rfl rfl (by decide) (v := .ref 135) rfl ?_
          refine aw_l0 aj_d276 rfl rfl hlv620_3 ?_
          refine aw_l0 aj_d276 rfl rfl hlv620_8 ?_
          refine aw_l0 aj_d276 rfl rfl hlv620_5 ?_
          refine aw_ks aj_d276 rfl rfl rfl [_, _, _] rfl rfl (Nat.le_of_ble_eq_true rfl) (ar_cellAt (by omega) (a := x622.toInt) (b := x627.toInt) (c := x624.toInt) rfl rfl rfl (by omega) (by omega) (by omega)) ?_
          rintro _ zx663 ⟨fx663, x663, rfl, ex663⟩
          rw [fx663]
          show aw_W _ _ _ _ 357 lv620 [.int x663, .ref 135, .int x662, .ref 135] _ _
          refine aw_ld (k := 18) hU.1 aj_d276 (Or.inl ⟨rfl, rfl⟩) rfl (by decide) (by decide) rfl (a := ((x622.toInt * 30 + x627.toInt) * 8 + x624.toInt)) ex663 (by omega) (by omega) (fun x664 ex664 => ?_)
          refine aw_st (k := 18) hU.1 aj_d276 (Or.inl ⟨rfl, rfl⟩) rfl (by decide) (by decide) rfl (a := (((49 : Int) * 30 + x626.toInt) * 8 + x623.toInt)) ex662 (by omega) (by omega) ?_
          have hI665 : aw_I s h (aw_sm (aw_wa (aw_wa S619 17 ((((49 : Int) * 30 + x626.toInt) * 8 + x623.toInt)).toNat (aj_nar 4 x659)) 18 ((((49 : Int) * 30 + x626.toInt) * 8 + x623.toInt)).toNat (aj_nar 0 x664))) (aw_wa (aw_wa S619 17 ((((49 : Int) * 30 + x626.toInt) * 8 + x623.toInt)).toNat (aj_nar 4 x659)) 18 ((((49 : Int) * 30 + x626.toInt) * 8 + x623.toInt)).toNat (aj_nar 0 x664)) := ⟨aw_T_a hU.2.1 hs hU.1.1 (hI660).1 (by decide) (by decide) rfl (by decide) (by decide) rfl (aw_full _), aw_sm_rf⟩
          have fr666 := aw_fr_a (k := 18) (j := ((((49 : Int) * 30 + x626.toInt) * 8 + x623.toInt)).toNat) (v := aj_nar 0 x664) (by decide) fr661
          have hG667 := aw_G_sk (S' := (aw_wa (aw_wa S619 17 ((((49 : Int) * 30 + x626.toInt) * 8 + x623.toInt)).toNat (aj_nar 4 x659)) 18 ((((49 : Int) * 30 + x626.toInt) * 8 + x623.toInt)).toNat (aj_nar 0 x664))) hI629.2 (aw_sk_2 aw_sk_rf) (aw_kv_2 (aw_G_B hI629.2).1 (by first | rfl | (congr 1) | omega) (by
              rw [aw_nar4_01 (by omega)]
              intro z
              have y := (aw_G_B hI629.2).1 (((x622.toInt * 30 + x627.toInt) * 8 + x624.toInt)).toNat (by omega) (by rw [ex659] at z; exact z)
              have hx : (((x622.toInt * 30 + x627.toInt) * 8 + x624.toInt)).toNat = (((x622.toInt * 30 + x627.toInt) * 8 + x624.toInt)).toNat := by omega
              show 0 ≤ (x664).toInt ∧ (x664).toInt ≤ 7
              rw [ex664]
              show 0 ≤ (S619.2.2.1 18 (((x622.toInt * 30 + x627.toInt) * 8 + x624.toInt)).toNat).toInt ∧ (S619.2.2.1 18 (((x622.toInt * 30 + x627.toInt) * 8 + x624.toInt)).toNat).toInt ≤ 7
              rw [hx]
              exact y))
          have hI668 : aw_I s h (aw_sm (aw_wa (aw_wa S619 17 ((((49 : Int) * 30 + x626.toInt) * 8 + x623.toInt)).toNat (aj_nar 4 x659)) 18 ((((49 : Int) * 30 + x626.toInt) * 8 + x623.toInt)).toNat (aj_nar 0 x664))) (aw_wa (aw_wa S619 17 ((((49 : Int) * 30 + x626.toInt) * 8 + x623.toInt)).toNat (aj_nar 4 x659)) 18 ((((49 : Int) * 30 + x626.toInt) * 8 + x623.toInt)).toNat (aj_nar 0 x664)) := ⟨(hI665).1, aw_sm_rf⟩
          refine aw_inc aj_d276 rfl hlv620_7 (a := x626.toInt) rfl (by omega) (by omega) (by decide) (by decide) (fun x669 ex669 => ?_)
          obtain ⟨lv670, elv670⟩ : ∃ l, l = aj_set1 lv620 7 (.int x669) := ⟨_, rfl⟩
          rw [← elv670]
          have hlv670_0 : aj_lv lv670 0 = some (.ref 117) := cw_e1 elv670 hlv620_0 (by decide) (Or.inl (by decide))
          have hlv670_1 : aj_lv lv670 1 = some (.int x621) := cw_e1 elv670 hlv620_1 (by decide) (Or.inl (by decide))
          have hlv670_3 : aj_lv lv670 3 = some (.int x622) := cw_e1 elv670 hlv620_3 (by decide) (Or.inl (by decide))
          have hlv670_4 : aj_lv lv670 4 = some (.int x623) := cw_e1 elv670 hlv620_4 (by decide) (Or.inl (by decide))
          have hlv670_5 : aj_lv lv670 5 = some (.int x624) := cw_e1 elv670 hlv620_5 (by decide) (Or.inl (by decide))
          have hlv670_6 : aj_lv lv670 6 = some (.int x625) := cw_e1 elv670 hlv620_6 (by decide) (Or.inr rfl)
          have hlv670_7 : aj_lv lv670 7 = some (.int x669) := by rw [elv670]; exact ak_set1_eq _ _ _
          show aw_W _ _ _ _ 362 lv670 [] _ _
          refine aw_n aj_d276 rfl rfl ?_
          exact ihL199_582 (aw_wa (aw_wa S619 17 ((((49 : Int) * 30 + x626.toInt) * 8 + x623.toInt)).toNat (aj_nar 4 x659)) 18 ((((49 : Int) * 30 + x626.toInt) * 8 + x623.toInt)).toNat (aj_nar 0 x664)) lv670 (x621) (x622) (x623) (x624) (x625) (x669) hlv670_0 hlv670_1 hlv670_3 hlv670_4 hlv670_5 hlv670_6 hlv670_7 ⟨(hI668).1, hG667⟩ fr666 (by omega) (by omega) (by omega) (by omega) (by omega) (by omega) (show _ ≤ ((S619.1 30)).toInt by omega) (ar_J_eq rfl rfl rfl J225) (by omega) (by omega) (by omega) (by omega) (by omega) (by omega) (by omega)
      · have q653 : x625.toInt ≥ (0 : Int) := aw_t_lt (a := x625.toInt) (b := (0 : Int)) rfl rfl q653
        refine aw_l2 aj_d276 rfl rfl hlv620_0 ?_
        refine aw_l0 aj_d276 rfl rfl hlv620_1 ?_
        refine aw_l0 aj_d276 rfl rfl hlv620_7 ?_
        refine aw_l2 aj_d276 rfl rfl hlv620_0 ?_
        refine aw_g hU.1 aj_d276 rfl rfl (by decide) (v := .ref 131) rfl ?_
        refine aw_l0 aj_d276 rfl rfl hlv620_3 ?_
        have ib671 : (x622.toInt).toNat = (x621.toInt).toNat + 1 := by omega
        refine aw_ld (k := 14) hU.1 aj_d276 (Or.inl ⟨rfl, rfl⟩) rfl (by decide) (by decide) rfl (a := x622.toInt) rfl (by omega) (by omega) (fun x672 ex672 => ?_)
        have bx672 : 0 ≤ x672.toInt ∧ x672.toInt ≤ 30 := by
          rw [ex672]
          exact aw_bd_a hs (hI631).1 (k := 14) (by decide) (by decide) rfl (by decide) rfl (by omega)
        have ftx672 : x672.toInt = (S619.2.2.1 14 (x622.toInt).toNat).toInt := congrArg Int32.toInt (ex672.trans (congrFun rfl _))
        rw [ib671] at ftx672
        have jb := J225.2
        refine aw_div aj_d276 rfl (a := x626.toInt) (b := x672.toInt) rfl rfl (by omega) (by omega) (fun x673 ex673 => ?_)
        have dvx673 := ar_div (a := x626.toInt) (b := x672.toInt) (by omega) (by omega)
        rw [← ex673] at dvx673
        refine aw_l0 aj_d276 rfl rfl hlv620_6 ?_
        refine aw_l0 aj_d276 rfl rfl hlv620_9 ?_
        refine aw_k hU.1 aj_d276 rfl rfl [_, _, _, _] rfl rfl rfl (Nat.le_of_ble_eq_true rfl) (ar_valueAt hU (hI631).1 (aw_G_B hI629.2).1 (by omega) (t := x621) (r := x673) (c := x625) (x := x628) (by omega) (by omega) (by omega) (by omega) (by omega)) ?_
        rintro _ zb674 ⟨fb674, b674, rfl⟩
        rw [fb674]
        show aw_W _ _ _ _ 262 lv620 [.int b674] _ _
        refine aw_l2 aj_d276 rfl rfl hlv620_0 ?_
        refine aw_l0 aj_d276 rfl rfl hlv620_3 ?_
        refine aw_l0 aj_d276 rfl rfl hlv620_8 ?_
        refine aw_l0 aj_d276 rfl rfl hlv620_5 ?_
        refine aw_l0 aj_d276 rfl rfl hlv620_9 ?_
        refine aw_k hU.1 aj_d276 rfl rfl [_, _, _, _] rfl rfl rfl (Nat.le_of_ble_eq_true rfl) (ar_valueAt hU (hI631).1 (aw_G_B hI629.2).1 (by omega) (t := x622) (r := x627) (c := x624) (x := x628) (by omega) (by omega) (by omega) (by omega) (by omega)) ?_
        rintro _ zb675 ⟨fb675, b675, rfl⟩
        rw [fb675]
        show aw_W _ _ _ _ 273 lv620 [.int b675, .int b674] _ _
        refine aw_c (tgt := 294) aj_d276 rfl rfl (fun q676 => ?_) (fun q676 => ?_)
        · have q676 : b674.toInt = b675.toInt := aw_t_eq (a := b674.toInt) (b := b675.toInt) rfl rfl q676
          refine aw_inc aj_d276 rfl hlv620_9 (a := x628.toInt) rfl (by omega) (by omega) (by decide) (by decide) (fun x677 ex677 => ?_)
          obtain ⟨lv678, elv678⟩ : ∃ l, l = aj_set1 lv620 9 (.int x677) := ⟨_, rfl⟩
          rw [← elv678]
          have hlv678_0 : aj_lv lv678 0 = some (.ref 117) := cw_e1 elv678 hlv620_0 (by decide) (Or.inl (by decide))
          have hlv678_1 : aj_lv lv678 1 = some (.int x621) := cw_e1 elv678 hlv620_1 (by decide) (Or.inl (by decide))
          have hlv678_3 : aj_lv lv678 3 = some (.int x622) := cw_e1 elv678 hlv620_3 (by decide) (Or.inl (by decide))
          have hlv678_4 : aj_lv lv678 4 = some (.int x623) := cw_e1 elv678 hlv620_4 (by decide) (Or.inl (by decide))
          have hlv678_5 : aj_lv lv678 5 = some (.int x624) := cw_e1 elv678 hlv620_5 (by decide) (Or.inl (by decide))
          have hlv678_6 : aj_lv lv678 6 = some (.int x625) := cw_e1 elv678 hlv620_6 (by decide) (Or.inl (by decide))
          have hlv678_7 : aj_lv lv678 7 = some (.int x626) := cw_e1 elv678 hlv620_7 (by decide) (Or.inl (by decide))
          have hlv678_8 : aj_lv lv678 8 = some (.int x627) := cw_e1 elv678 hlv620_8 (by decide) (Or.inr rfl)
          have hlv678_9 : aj_lv lv678 9 = some (.int x677) := by rw [elv678]; exact ak_set1_eq _ _ _
          show aw_W _ _ _ _ 297 lv678 [] _ _
          refine aw_n aj_d276 rfl rfl ?_
          exact ihL225_617 S619 lv678 (x621) (x622) (x623) (x624) (x625) (x626) (x627) (x677) hlv678_0 hlv678_1 hlv678_3 hlv678_4 hlv678_5 hlv678_6 hlv678_7 hlv678_8 hlv678_9 ⟨(hI631).1, hI629.2⟩ fr630 (by omega) (by omega) (by omega) (by omega) (by omega) (by omega) (by omega) (by omega) (show _ ≤ ((S619.1 30)).toInt by omega) J225 (by omega) (by omega) (by omega) (by omega) (by omega) (by omega) (by rw [show (S619.2.2.1 14) = S619.2.2.1 14 from rfl]; omega) (by omega) (by omega)
        · have q676 : b674.toInt ≠ b675.toInt := aw_t_eq (a := b674.toInt) (b := b675.toInt) rfl rfl q676
          refine aw_l2 aj_d276 rfl rfl hlv620_0 ?_
          refine aw_g hU.1 aj_d276 rfl rfl (by decide) (v := .ref 136) rfl ?_
          refine aw_l2 aj_d276 rfl rfl hlv620_0 ?_
          refine aw_n aj_d276 rfl rfl ?_
          refine aw_l0 aj_d276 rfl rfl hlv620_7 ?_
          refine aw_k hU.1 aj_d276 rfl rfl [_, _] rfl rfl rfl (Nat.le_of_ble_eq_true rfl) (ar_at (by omega) (a := (49 : Int)) (b := x626.toInt) rfl rfl (by omega) (by omega)) ?_
          rintro _ zx679 ⟨fx679, x679, rfl, ex679⟩
          rw [fx679]
          show aw_W _ _ _ _ 288 lv620 [.int x679, .ref 136] _ _
          refine aw_l0 aj_d276 rfl rfl hlv620_9 ?_
          refine aw_n aj_d276 rfl rfl ?_
          refine aw_ks aj_d276 rfl rfl rfl [_, _, _, _] rfl rfl (Nat.le_of_ble_eq_true rfl) (ar_put hU (hI631).1 (by omega) (k := 19) (n := 48000) (by decide) (by decide) rfl rfl (a := (((49 : Int) * 30 + x626.toInt) * 32)) (b := x628.toInt) ex679 rfl (by omega) (by omega) (by omega) (by decide)) ?_
          rintro _ S680 ⟨hT680, fc680, rfl, pe680⟩
          have fr681 := aw_fr_tr fr630 (aw_fr_sub (F := []) (A := [19]) (by decide) (by decide) fc680)
          have hI682 : aw_I s h (aw_sm S619) S680 := ⟨hT680, aw_sm_tr hI631.2 (aw_fr_sm (by decide) (by decide) (by decide) (F := []) (A := [19]) fc680)⟩
          show aw_W _ _ _ _ 294 lv620 [] _ _
          refine aw_inc aj_d276 rfl hlv620_9 (a := x628.toInt) rfl (by omega) (by omega) (by decide) (by decide) (fun x683 ex683 => ?_)
          obtain ⟨lv684, elv684⟩ : ∃ l, l = aj_set1 lv620 9 (.int x683) := ⟨_, rfl⟩
          rw [← elv684]
          have hlv684_0 : aj_lv lv684 0 = some (.ref 117) := cw_e1 elv684 hlv620_0 (by decide) (Or.inl (by decide))
          have hlv684_1 : aj_lv lv684 1 = some (.int x621) := cw_e1 elv684 hlv620_1 (by decide) (Or.inl (by decide))
          have hlv684_3 : aj_lv lv684 3 = some (.int x622) := cw_e1 elv684 hlv620_3 (by decide) (Or.inl (by decide))
          have hlv684_4 : aj_lv lv684 4 = some (.int x623) := cw_e1 elv684 hlv620_4 (by decide) (Or.inl (by decide))
          have hlv684_5 : aj_lv lv684 5 = some (.int x624) := cw_e1 elv684 hlv620_5 (by decide) (Or.inl (by decide))
          have hlv684_6 : aj_lv lv684 6 = some (.int x625) := cw_e1 elv684 hlv620_6 (by decide) (Or.inl (by decide))
          have hlv684_7 : aj_lv lv684 7 = some (.int x626) := cw_e1 elv684 hlv620_7 (by decide) (Or.inl (by decide))
          have hlv684_8 : aj_lv lv684 8 = some (.int x627) := cw_e1 elv684 hlv620_8 (by decide) (Or.inr rfl)
          have hlv684_9 : aj_lv lv684 9 = some (.int x683) := by rw [elv684]; exact ak_set1_eq _ _ _
          show aw_W _ _ _ _ 297 lv684 [] _ _
          refine aw_n aj_d276 rfl rfl ?_
          have c685 : (S680.1 30).toInt = (S619.1 30).toInt := (congrArg Int32.toInt (fc680.1 30 (by decide)).1).trans rfl
          have b686 : 0 ≤ (S680.1 30).toInt ∧ (S680.1 30).toInt ≤ 1001 := aw_bd_f hs (hI682).1 (by decide) rfl
          exact ihL225_617 S680 lv684 (x621) (x622) (x623) (x624) (x625) (x626) (x627) (x683) hlv684_0 hlv684_1 hlv684_3 hlv684_4 hlv684_5 hlv684_6 hlv684_7 hlv684_8 hlv684_9 ⟨(hI682).1, (aw_G_sm hI682.2 hI629.2)⟩ fr681 (by omega) (by omega) (by omega) (by omega) (by omega) (by omega) (by omega) (by omega) (show _ ≤ ((S680.1 30)).toInt by omega) (ar_J_eq ((fc680.2 14 (by decide)).1.trans rfl) ((fc680.2 15 (by decide)).1.trans rfl) ((fc680.2 16 (by decide)).2.trans rfl) J225) (by omega) (by omega) (by omega) (by omega) (by omega) (by omega) (by rw [show (S680.2.2.1 14) = S619.2.2.1 14 from ((fc680.2 14 (by decide)).1.trans rfl)]; omega) (by omega) (by omega)
theorem ar_join_L199_582 (hU : aw_U tb s h) (hd : 4 ≤ d + 1) (x0 : Nat) (hj : ar_JP S x0) (N88 : Nat) (S486 : aj_S) (x488 : Int32) (x489 : Int32) (x490 : Int32) (x491 : Int32) (ihL88_484 : ∀ (S486 : aj_S) (lv487 : aj_V) (x488 : Int32) (x489 : Int32) (x490 : Int32) (x491 : Int32), (aj_lv lv487 0 = some (.ref 117)) → (aj_lv lv487 1 = some (.int x488)) → (aj_lv lv487 3 = some (.int x489)) → (aj_lv lv487 4 = some (.int x490)) → (aj_lv lv487 5 = some (.int x491)) → (aw_I s h (aw_G g) S486) → (aw_fr [24, 25, 31] [14, 15, 16, 17, 18, 19] S S486) → (20 ≤ x488.toInt ∧ x488.toInt ≤ 47) → (21 ≤ x489.toInt ∧ x489.toInt ≤ 48) → (0 ≤ x490.toInt ∧ x490.toInt ≤ 6) → (0 ≤ x491.toInt ∧ x491.toInt ≤ 6) → ((S.1 30).toInt + 0 ≤ (S486.1 30).toInt) → (ar_J S S486 (x488.toInt).toNat) → (x489.toInt = x488.toInt + 1) → (x490.toInt = (S.2.2.1 15 (x488.toInt).toNat).toInt) → (x0 = (x488.toInt).toNat) → (6 - x491.toInt).toNat < N88 → aw_W tb h d aj_m276 88 lv487 [] S486 ((ar_QB s h [24, 25, 31] [14, 15, 16, 17, 18, 19] S (fun S' => aw_G g S' ∧ (S.1 30).toInt ≤ (S'.1 30).toInt) (fun S' => aw_G g S' ∧ (S.1 30).toInt + 0 ≤ (S'.1 30).toInt)))) (hm88 : (6 - x491.toInt).toNat < N88 + 1) (N127 : Nat) (S499 : aj_S) (x501 : Int32) (x502 : Int32) (x503 : Int32) (x504 : Int32) (ihL127_497 : ∀ (S499 : aj_S) (lv500 : aj_V) (x501 : Int32) (x502 : Int32) (x503 : Int32) (x504 : Int32), (aj_lv lv500 0 = some (.ref 117)) → (aj_lv lv500 1 = some (.int x501)) → (aj_lv lv500 3 = some (.int x502)) → (aj_lv lv500 4 = some (.int x503)) → (aj_lv lv500 5 = some (.int x504)) → (aw_I s h (aw_G g) S499) → (aw_fr [24, 25, 31] [14, 15, 16, 17, 18, 19] S S499) → (20 ≤ x501.toInt ∧ x501.toInt ≤ 47) → (21 ≤ x502.toInt ∧ x502.toInt ≤ 48) → (0 ≤ x503.toInt ∧ x503.toInt ≤ 6) → (0 ≤ x504.toInt ∧ x504.toInt ≤ 30) → ((S.1 30).toInt + 0 ≤ (S499.1 30).toInt) → (ar_J S S499 (x501.toInt).toNat) → (x502.toInt = x501.toInt + 1) → (x503.toInt = (S.2.2.1 15 (x501.toInt).toNat).toInt) → (x0 = (x501.toInt).toNat) → (30 - x504.toInt).toNat < N127 → aw_W tb h d aj_m276 127 lv500 [] S499 ((ar_QB s h [24, 25, 31] [14, 15, 16, 17, 18, 19] S (fun S' => aw_G g S' ∧ (S.1 30).toInt ≤ (S'.1 30).toInt) (fun S' => aw_G g S' ∧ (S.1 30).toInt + 0 ≤ (S'.1 30).toInt)))) (hm127 : (30 - x504.toInt).toNat < N127 + 1) (N166 : Nat) (S513 : aj_S) (x515 : Int32) (x516 : Int32) (x517 : Int32) (x518 : Int32) (ihL166_511 : ∀ (S513 : aj_S) (lv514 : aj_V) (x515 : Int32) (x516 : Int32) (x517 : Int32) (x518 : Int32), (aj_lv lv514 0 = some (.ref 117)) → (aj_lv lv514 1 = some (.int x515)) → (aj_lv lv514 3 = some (.int x516)) → (aj_lv lv514 4 = some (.int x517)) → (aj_lv lv514 5 = some (.int x518)) → (aw_I s h (aw_G g) S513) → (aw_fr [24, 25, 31] [14, 15, 16, 17, 18, 19] S S513) → (20 ≤ x515.toInt ∧ x515.toInt ≤ 47) → (21 ≤ x516.toInt ∧ x516.toInt ≤ 48) → (0 ≤ x517.toInt ∧ x517.toInt ≤ 6) → (0 ≤ x518.toInt ∧ x518.toInt ≤ 6) → ((S.1 30).toInt + 0 ≤ (S513.1 30).toInt) → (ar_J S S513 (x515.toInt).toNat) → (x516.toInt = x515.toInt + 1) → (x517.toInt = (S.2.2.1 15 (x515.toInt).toNat).toInt + ar_nw S (x515.toInt).toNat (x518.toInt).toNat) → (x518.toInt ≤ (S.2.2.1 15 ((x515.toInt).toNat + 1)).toInt) → (x0 = (x515.toInt).toNat) → (6 - x518.toInt).toNat < N166 → aw_W tb h d aj_m276 166 lv514 [] S513 ((ar_QB s h [24, 25, 31] [14, 15, 16, 17, 18, 19] S (fun S' => aw_G g S' ∧ (S.1 30).toInt ≤ (S'.1 30).toInt) (fun S' => aw_G g S' ∧ (S.1 30).toInt + 0 ≤ (S'.1 30).toInt)))) (hm166 : (6 - x518.toInt).toNat < N166 + 1) : ∀ (N : Nat) (S584 : aj_S) (lv585 : aj_V) (x586 : Int32) (x587 : Int32) (x588 : Int32) (x589 : Int32) (x590 : Int32) (x591 : Int32), (aj_lv lv585 0 = some (.ref 117)) → (aj_lv lv585 1 = some (.int x586)) → (aj_lv lv585 3 = some (.int x587)) → (aj_lv lv585 4 = some (.int x588)) → (aj_lv lv585 5 = some (.int x589)) → (aj_lv lv585 6 = some (.int x590)) → (aj_lv lv585 7 = some (.int x591)) → (aw_I s h (aw_G g) S584) → (aw_fr [24, 25, 31] [14, 15, 16, 17, 18, 19] S S584) → (20 ≤ x586.toInt ∧ x586.toInt ≤ 47) → (21 ≤ x587.toInt ∧ x587.toInt ≤ 48) → (0 ≤ x588.toInt ∧ x588.toInt ≤ 6) → (0 ≤ x589.toInt ∧ x589.toInt ≤ 5) → ((-1) ≤ x590.toInt ∧ x590.toInt ≤ 5) → (0 ≤ x591.toInt ∧ x591.toInt ≤ 30) → ((S.1 30).toInt + 0 ≤ (S584.1 30).toInt) → (ar_J S S584 (x586.toInt).toNat) → (x587.toInt = x586.toInt + 1) → (x588.toInt = (S.2.2.1 15 (x586.toInt).toNat).toInt + ar_nw S (x586.toInt).toNat (x589.toInt).toNat) → (x589.toInt + 1 ≤ (S.2.2.1 15 ((x586.toInt).toNat + 1)).toInt) → (((0 ≤ x590.toInt ∧ ar_nw S (x586.toInt).toNat ((x589.toInt).toNat + 1) = ar_nw S (x586.toInt).toNat (x589.toInt).toNat) ∨ (x590.toInt = -1 ∧ ar_nw S (x586.toInt).toNat ((x589.toInt).toNat + 1) = ar_nw S (x586.toInt).toNat (x589.toInt).toNat + 1))) → (x589.toInt = x518.toInt) → (x0 = (x586.toInt).toNat) → (30 - x591.toInt).toNat < N → aw_W tb h d aj_m276 199 lv585 [] S584 ((ar_QB s h [24, 25, 31] [14, 15, 16, 17, 18, 19] S (fun S' => aw_G g S' ∧ (S.1 30).toInt ≤ (S'.1 30).toInt) (fun S' => aw_G g S' ∧ (S.1 30).toInt + 0 ≤ (S'.1 30).toInt))) := by
  have hs : aw_sT s := aw_hy_sT hU.2.2
  intro N199
  induction N199 with
  | zero =>
    intro S584 lv585 x586 x587 x588 x589 x590 x591 hlv585_0 hlv585_1 hlv585_3 hlv585_4 hlv585_5 hlv585_6 hlv585_7 hI592 fr593 bx586 bx587 bx588 bx589 bx590 bx591 ck199 J199 b199 n199 c199 s199 o199 x199 hm199
    omega
  | succ N199 ihL199_582 =>
    intro S584 lv585 x586 x587 x588 x589 x590 x591 hlv585_0 hlv585_1 hlv585_3 hlv585_4 hlv585_5 hlv585_6 hlv585_7 hI592 fr593 bx586 bx587 bx588 bx589 bx590 bx591 ck199 J199 b199 n199 c199 s199 o199 x199 hm199
    have hI594 : aw_I s h (aw_sm S584) S584 := ⟨hI592.1, aw_sm_rf⟩
    have b595 : 0 ≤ (S584.1 30).toInt ∧ (S584.1 30).toInt ≤ 1001 := aw_bd_f hs (hI594).1 (by decide) rfl
    have hjx := hj
    rw [x199] at hjx
    obtain ⟨hj1, hj2, hj3⟩ := hjx
    have nwl : ∀ c : Nat, (c : Int) ≤ (S.2.2.1 15 ((x586.toInt).toNat + 1)).toInt → ar_nw S (x586.toInt).toNat c ≤ ar_nw S (x586.toInt).toNat ((S.2.2.1 15 ((x586.toInt).toNat + 1)).toInt).toNat := fun c hc => ar_nw_le (by omega)
    have nwc := nwl ((x589.toInt).toNat + 1) (by omega)
    refine aw_l0 aj_d276 rfl rfl hlv585_7 ?_
    refine aw_l2 aj_d276 rfl rfl hlv585_0 ?_
    refine aw_g hU.1 aj_d276 rfl rfl (by decide) (v := .ref 131) rfl ?_
    refine aw_n aj_d276 rfl rfl ?_
    refine aw_ld (k := 14) hU.1 aj_d276 (Or.inl ⟨rfl, rfl⟩) rfl (by decide) (by decide) rfl (a := (49 : Int)) rfl (by omega) (by omega) (fun x596 ex596 => ?_)
    have bx596 : 0 ≤ x596.toInt ∧ x596.toInt ≤ 30 := by
      rw [ex596]
      exact aw_bd_a hs (hI594).1 (k := 14) (by decide) (by decide) rfl (by decide) rfl (by omega)
    have ftx596 : x596.toInt = (S584.2.2.1 14 49).toInt := congrArg Int32.toInt (ex596.trans (congrFun rfl _))
    refine aw_c (tgt := 365) aj_d276 rfl rfl (fun q597 => ?_) (fun q597 => ?_)
    · have q597 : x591.toInt ≥ x596.toInt := aw_t_ge (a := x591.toInt) (b := x596.toInt) rfl rfl q597
      refine aw_l0 aj_d276 rfl rfl hlv585_6 ?_
      refine aw_z (tgt := 396) aj_d276 rfl rfl (fun q598 => ?_) (fun q598 => ?_)
      · have q598 : x590.toInt ≥ (0 : Int) := aw_t_ge (a := x590.toInt) (b := (0 : Int)) rfl rfl q598
        refine aw_inc aj_d276 rfl hlv585_5 (a := x589.toInt) rfl (by omega) (by omega) (by decide) (by decide) (fun x599 ex599 => ?_)
        obtain ⟨lv600, elv600⟩ : ∃ l, l = aj_set1 lv585 5 (.int x599) := ⟨_, rfl⟩
        rw [← elv600]
        have hlv600_0 : aj_lv lv600 0 = some (.ref 117) := cw_e1 elv600 hlv585_0 (by decide) (Or.inl (by decide))
        have hlv600_1 : aj_lv lv600 1 = some (.int x586) := cw_e1 elv600 hlv585_1 (by decide) (Or.inl (by decide))
        have hlv600_3 : aj_lv lv600 3 = some (.int x587) := cw_e1 elv600 hlv585_3 (by decide) (Or.inl (by decide))
        have hlv600_4 : aj_lv lv600 4 = some (.int x588) := cw_e1 elv600 hlv585_4 (by decide) (Or.inr rfl)
        have hlv600_5 : aj_lv lv600 5 = some (.int x599) := by rw [elv600]; exact ak_set1_eq _ _ _
        show aw_W _ _ _ _ 399 lv600 [] _ _
        refine aw_n aj_d276 rfl rfl ?_
        exact ihL166_511 S584 lv600 (x586) (x587) (x588) (x599) hlv600_0 hlv600_1 hlv600_3 hlv600_4 hlv600_5 ⟨(hI594).1, hI592.2⟩ fr593 (by omega) (by omega) (by omega) (by omega) (show _ ≤ ((S584.1 30)).toInt by omega) J199 (by omega) (by rw [show (x599.toInt).toNat = (x589.toInt).toNat + 1 by omega]; omega) (by omega) (by omega) (by omega)
      · have q598 : x590.toInt < (0 : Int) := aw_t_ge (a := x590.toInt) (b := (0 : Int)) rfl rfl q598
        refine aw_l2 aj_d276 rfl rfl hlv585_0 ?_
        refine aw_g hU.1 aj_d276 rfl rfl (by decide) (v := .ref 133) rfl ?_
        refine aw_n aj_d276 rfl rfl ?_
        refine aw_l0 aj_d276 rfl rfl hlv585_4 ?_
        refine aw_add aj_d276 rfl (a := (392 : Int)) (b := x588.toInt) rfl rfl (by omega) (by omega) (fun x601 ex601 => ?_)
        refine aw_l2 aj_d276 rfl rfl hlv585_0 ?_
        refine aw_g hU.1 aj_d276 rfl rfl (by decide) (v := .ref 133) rfl ?_
        refine aw_l0 aj_d276 rfl rfl hlv585_3 ?_
        refine aw_n aj_d276 rfl rfl ?_
        refine aw_mul aj_d276 rfl (a := x587.toInt) (b := (8 : Int)) rfl rfl (by omega) (by omega) (fun x602 ex602 => ?_)
        refine aw_l0 aj_d276 rfl rfl hlv585_5 ?_
        refine aw_add aj_d276 rfl (a := x602.toInt) (b := x589.toInt) rfl rfl (by omega) (by omega) (fun x603 ex603 => ?_)
        refine aw_ldl (k := 16) hU.1 aj_d276 rfl (by decide) (by decide) rfl (a := x603.toInt) rfl (by omega) (by omega) (fun y604 ey604 => ?_)
        refine aw_stl (k := 16) hU.1 aj_d276 rfl (by decide) (by decide) rfl (a := x601.toInt) rfl (by omega) (by omega) ?_
        have hI605 := aw_I_b (aw_UV hU aw_Gs_sm) (k := 16) (j := (x601.toInt).toNat) (v := y604) hI594 (by decide) (by decide) (by decide) rfl rfl
        have fr606 := aw_fr_b (k := 16) (j := (x601.toInt).toNat) (v := y604) (by decide) fr593
        have J608 : ar_J S (aw_wb S584 16 (x601.toInt).toNat y604) (x586.toInt).toNat := (ar_J_col (by omega) J199)
        refine aw_inc aj_d276 rfl hlv585_4 (a := x588.toInt) rfl (by omega) (by omega) (by decide) (by decide) (fun x609 ex609 => ?_)
        obtain ⟨lv610, elv610⟩ : ∃ l, l = aj_set1 lv585 4 (.int x609) := ⟨_, rfl⟩
        rw [← elv610]
        have hlv610_0 : aj_lv lv610 0 = some (.ref 117) := cw_e1 elv610 hlv585_0 (by decide) (Or.inl (by decide))
        have hlv610_1 : aj_lv lv610 1 = some (.int x586) := cw_e1 elv610 hlv585_1 (by decide) (Or.inl (by decide))
        have hlv610_3 : aj_lv lv610 3 = some (.int x587) := cw_e1 elv610 hlv585_3 (by decide) (Or.inr rfl)
        have hlv610_5 : aj_lv lv610 5 = some (.int x589) := cw_e1 elv610 hlv585_5 (by decide) (Or.inl (by decide))
        have hlv610_4 : aj_lv lv610 4 = some (.int x609) := by rw [elv610]; exact ak_set1_eq _ _ _
        show aw_W _ _ _ _ 396 lv610 [] _ _
        refine aw_inc aj_d276 rfl hlv610_5 (a := x589.toInt) rfl (by omega) (by omega) (by decide) (by decide) (fun x611 ex611 => ?_)
        obtain ⟨lv612, elv612⟩ : ∃ l, l = aj_set1 lv610 5 (.int x611) := ⟨_, rfl⟩
        rw [← elv612]
        have hlv612_0 : aj_lv lv612 0 = some (.ref 117) := cw_e1 elv612 hlv610_0 (by decide) (Or.inl (by decide))
        have hlv612_1 : aj_lv lv612 1 = some (.int x586) := cw_e1 elv612 hlv610_1 (by decide) (Or.inl (by decide))
        have hlv612_3 : aj_lv lv612 3 = some (.int x587) := cw_e1 elv612 hlv610_3 (by decide) (Or.inl (by decide))
        have hlv612_4 : aj_lv lv612 4 = some (.int x609) := cw_e1 elv612 hlv610_4 (by decide) (Or.inr rfl)
        have hlv612_5 : aj_lv lv612 5 = some (.int x611) := by rw [elv612]; exact ak_set1_eq _ _ _
        show aw_W _ _ _ _ 399 lv612 [] _ _
        refine aw_n aj_d276 rfl rfl ?_
        exact ihL166_511 (aw_wb S584 16 (x601.toInt).toNat y604) lv612 (x586) (x587) (x609) (x611) hlv612_0 hlv612_1 hlv612_3 hlv612_4 hlv612_5 ⟨(hI605).1, (aw_G_sm hI605.2 hI592.2)⟩ fr606 (by omega) (by omega) (by omega) (by omega) (show _ ≤ ((S584.1 30)).toInt by omega) J608 (by omega) (by rw [show (x611.toInt).toNat = (x589.toInt).toNat + 1 by omega]; omega) (by omega) (by omega) (by omega)
    · have q597 : x591.toInt < x596.toInt := aw_t_ge (a := x591.toInt) (b := x596.toInt) rfl rfl q597
      refine aw_l0 aj_d276 rfl rfl hlv585_7 ?_
      refine aw_l2 aj_d276 rfl rfl hlv585_0 ?_
      refine aw_g hU.1 aj_d276 rfl rfl (by decide) (v := .ref 131) rfl ?_
      refine aw_l0 aj_d276 rfl rfl hlv585_3 ?_
      have ib613 : (x587.toInt).toNat = (x586.toInt).toNat + 1 := by omega
      refine aw_ld (k := 14) hU.1 aj_d276 (Or.inl ⟨rfl, rfl⟩) rfl (by decide) (by decide) rfl (a := x587.toInt) rfl (by omega) (by omega) (fun x614 ex614 => ?_)
      have bx614 : 0 ≤ x614.toInt ∧ x614.toInt ≤ 30 := by
        rw [ex614]
        exact aw_bd_a hs (hI594).1 (k := 14) (by decide) (by decide) rfl (by decide) rfl (by omega)
      have ftx614 : x614.toInt = (S584.2.2.1 14 (x587.toInt).toNat).toInt := congrArg Int32.toInt (ex614.trans (congrFun rfl _))
      rw [ib613] at ftx614
      have jb := J199.2
      refine aw_rem aj_d276 rfl (a := x591.toInt) (b := x614.toInt) rfl rfl (by omega) (by omega) (fun x615 ex615 => ?_)
      have dvx615 := ar_mod (a := x591.toInt) (b := x614.toInt) (by omega)
      rw [← ex615] at dvx615
      refine aw_t0 (j := 8) aj_d276 rfl (by decide) rfl ?_
      obtain ⟨lv616, elv616⟩ : ∃ l, l = aj_set1 lv585 8 (.int x615) := ⟨_, rfl⟩
      rw [← elv616]
      have hlv616_0 : aj_lv lv616 0 = some (.ref 117) := cw_e1 elv616 hlv585_0 (by decide) (Or.inl (by decide))
      have hlv616_1 : aj_lv lv616 1 = some (.int x586) := cw_e1 elv616 hlv585_1 (by decide) (Or.inl (by decide))
      have hlv616_3 : aj_lv lv616 3 = some (.int x587) := cw_e1 elv616 hlv585_3 (by decide) (Or.inl (by decide))
      have hlv616_4 : aj_lv lv616 4 = some (.int x588) := cw_e1 elv616 hlv585_4 (by decide) (Or.inl (by decide))
      have hlv616_5 : aj_lv lv616 5 = some (.int x589) := cw_e1 elv616 hlv585_5 (by decide) (Or.inl (by decide))
      have hlv616_6 : aj_lv lv616 6 = some (.int x590) := cw_e1 elv616 hlv585_6 (by decide) (Or.inl (by decide))
      have hlv616_7 : aj_lv lv616 7 = some (.int x591) := cw_e1 elv616 hlv585_7 (by decide) (Or.inr rfl)
      have hlv616_8 : aj_lv lv616 8 = some (.int x615) := by rw [elv616]; exact ak_set1_eq _ _ _
      show aw_W _ _ _ _ 222 lv616 [] _ _
      refine aw_n aj_d276 rfl rfl ?_
      refine aw_t0 (j := 9) aj_d276 rfl (by decide) rfl ?_
      obtain ⟨lv617, elv617⟩ : ∃ l, l = aj_set1 lv616 9 (.int (Int32.ofInt 0)) := ⟨_, rfl⟩
      rw [← elv617]
      have hlv617_0 : aj_lv lv617 0 = some (.ref 117) := cw_e1 elv617 hlv616_0 (by decide) (Or.inl (by decide))
      have hlv617_1 : aj_lv lv617 1 = some (.int x586) := cw_e1 elv617 hlv616_1 (by decide) (Or.inl (by decide))
      have hlv617_3 : aj_lv lv617 3 = some (.int x587) := cw_e1 elv617 hlv616_3 (by decide) (Or.inl (by decide))
      have hlv617_4 : aj_lv lv617 4 = some (.int x588) := cw_e1 elv617 hlv616_4 (by decide) (Or.inl (by decide))
      have hlv617_5 : aj_lv lv617 5 = some (.int x589) := cw_e1 elv617 hlv616_5 (by decide) (Or.inl (by decide))
      have hlv617_6 : aj_lv lv617 6 = some (.int x590) := cw_e1 elv617 hlv616_6 (by decide) (Or.inl (by decide))
      have hlv617_7 : aj_lv lv617 7 = some (.int x591) := cw_e1 elv617 hlv616_7 (by decide) (Or.inl (by decide))
      have hlv617_8 : aj_lv lv617 8 = some (.int x615) := cw_e1 elv617 hlv616_8 (by decide) (Or.inr rfl)
      have hlv617_9 : aj_lv lv617 9 = some (.int (Int32.ofInt 0)) := by rw [elv617]; exact ak_set1_eq _ _ _
      show aw_W _ _ _ _ 225 lv617 [] _ _
      exact (ar_join_L225_617 hU hd x0 hj N88 S486 x488 x489 x490 x491 ihL88_484 hm88 N127 S499 x501 x502 x503 x504 ihL127_497 hm127 N166 S513 x515 x516 x517 x518 ihL166_511 hm166 N199 S584 x586 x587 x588 x589 x590 x591 ihL199_582 hm199) _ S584 lv617 (x586) (x587) (x588) (x589) (x590) (x591) (x615) ((Int32.ofInt 0)) hlv617_0 hlv617_1 hlv617_3 hlv617_4 hlv617_5 hlv617_6 hlv617_7 hlv617_8 hlv617_9 ⟨(hI594).1, hI592.2⟩ fr593 (by omega) (by omega) (by omega) (by omega) (by omega) (by omega) (by omega) (by first | omega | decide) (show _ ≤ ((S584.1 30)).toInt by omega) J199 (by omega) (by omega) (by omega) (by omega) (by omega) (by omega) (by rw [show (S584.2.2.1 14) = S584.2.2.1 14 from rfl]; omega) (by omega) (Nat.lt_succ_self _)
theorem ar_join_L166_511 (hU : aw_U tb s h) (hd : 4 ≤ d + 1) (x0 : Nat) (hj : ar_JP S x0) (N88 : Nat) (S486 : aj_S) (x488 : Int32) (x489 : Int32) (x490 : Int32) (x491 : Int32) (ihL88_484 : ∀ (S486 : aj_S) (lv487 : aj_V) (x488 : Int32) (x489 : Int32) (x490 : Int32) (x491 : Int32), (aj_lv lv487 0 = some (.ref 117)) → (aj_lv lv487 1 = some (.int x488)) → (aj_lv lv487 3 = some (.int x489)) → (aj_lv lv487 4 = some (.int x490)) → (aj_lv lv487 5 = some (.int x491)) → (aw_I s h (aw_G g) S486) → (aw_fr [24, 25, 31] [14, 15, 16, 17, 18, 19] S S486) → (20 ≤ x488.toInt ∧ x488.toInt ≤ 47) → (21 ≤ x489.toInt ∧ x489.toInt ≤ 48) → (0 ≤ x490.toInt ∧ x490.toInt ≤ 6) → (0 ≤ x491.toInt ∧ x491.toInt ≤ 6) → ((S.1 30).toInt + 0 ≤ (S486.1 30).toInt) → (ar_J S S486 (x488.toInt).toNat) → (x489.toInt = x488.toInt + 1) → (x490.toInt = (S.2.2.1 15 (x488.toInt).toNat).toInt) → (x0 = (x488.toInt).toNat) → (6 - x491.toInt).toNat < N88 → aw_W tb h d aj_m276 88 lv487 [] S486 ((ar_QB s h [24, 25, 31] [14, 15, 16, 17, 18, 19] S (fun S' => aw_G g S' ∧ (S.1 30).toInt ≤ (S'.1 30).toInt) (fun S' => aw_G g S' ∧ (S.1 30).toInt + 0 ≤ (S'.1 30).toInt)))) (hm88 : (6 - x491.toInt).toNat < N88 + 1) (N127 : Nat) (S499 : aj_S) (x501 : Int32) (x502 : Int32) (x503 : Int32) (x504 : Int32) (ihL127_497 : ∀ (S499 : aj_S) (lv500 : aj_V) (x501 : Int32) (x502 : Int32) (x503 : Int32) (x504 : Int32), (aj_lv lv500 0 = some (.ref 117)) → (aj_lv lv500 1 = some (.int x501)) → (aj_lv lv500 3 = some (.int x502)) → (aj_lv lv500 4 = some (.int x503)) → (aj_lv lv500 5 = some (.int x504)) → (aw_I s h (aw_G g) S499) → (aw_fr [24, 25, 31] [14, 15, 16, 17, 18, 19] S S499) → (20 ≤ x501.toInt ∧ x501.toInt ≤ 47) → (21 ≤ x502.toInt ∧ x502.toInt ≤ 48) → (0 ≤ x503.toInt ∧ x503.toInt ≤ 6) → (0 ≤ x504.toInt ∧ x504.toInt ≤ 30) → ((S.1 30).toInt + 0 ≤ (S499.1 30).toInt) → (ar_J S S499 (x501.toInt).toNat) → (x502.toInt = x501.toInt + 1) → (x503.toInt = (S.2.2.1 15 (x501.toInt).toNat).toInt) → (x0 = (x501.toInt).toNat) → (30 - x504.toInt).toNat < N127 → aw_W tb h d aj_m276 127 lv500 [] S499 ((ar_QB s h [24, 25, 31] [14, 15, 16, 17, 18, 19] S (fun S' => aw_G g S' ∧ (S.1 30).toInt ≤ (S'.1 30).toInt) (fun S' => aw_G g S' ∧ (S.1 30).toInt + 0 ≤ (S'.1 30).toInt)))) (hm127 : (30 - x504.toInt).toNat < N127 + 1) : ∀ (N : Nat) (S513 : aj_S) (lv514 : aj_V) (x515 : Int32) (x516 : Int32) (x517 : Int32) (x518 : Int32), (aj_lv lv514 0 = some (.ref 117)) → (aj_lv lv514 1 = some (.int x515)) → (aj_lv lv514 3 = some (.int x516)) → (aj_lv lv514 4 = some (.int x517)) → (aj_lv lv514 5 = some (.int x518)) → (aw_I s h (aw_G g) S513) → (aw_fr [24, 25, 31] [14, 15, 16, 17, 18, 19] S S513) → (20 ≤ x515.toInt ∧ x515.toInt ≤ 47) → (21 ≤ x516.toInt ∧ x516.toInt ≤ 48) → (0 ≤ x517.toInt ∧ x517.toInt ≤ 6) → (0 ≤ x518.toInt ∧ x518.toInt ≤ 6) → ((S.1 30).toInt + 0 ≤ (S513.1 30).toInt) → (ar_J S S513 (x515.toInt).toNat) → (x516.toInt = x515.toInt + 1) → (x517.toInt = (S.2.2.1 15 (x515.toInt).toNat).toInt + ar_nw S (x515.toInt).toNat (x518.toInt).toNat) → (x518.toInt ≤ (S.2.2.1 15 ((x515.toInt).toNat + 1)).toInt) → (x0 = (x515.toInt).toNat) → (6 - x518.toInt).toNat < N → aw_W tb h d aj_m276 166 lv514 [] S513 ((ar_QB s h [24, 25, 31] [14, 15, 16, 17, 18, 19] S (fun S' => aw_G g S' ∧ (S.1 30).toInt ≤ (S'.1 30).toInt) (fun S' => aw_G g S' ∧ (S.1 30).toInt + 0 ≤ (S'.1 30).toInt))) := by
  have hs : aw_sT s := aw_hy_sT hU.2.2
  intro N166
  induction N166 with
  | zero =>
    intro S513 lv514 x515 x516 x517 x518 hlv514_0 hlv514_1 hlv514_3 hlv514_4 hlv514_5 hI519 fr520 bx515 bx516 bx517 bx518 ck166 J166 b166 n166 c166 x166 hm166
    omega
  | succ N166 ihL166_511 =>
    intro S513 lv514 x515 x516 x517 x518 hlv514_0 hlv514_1 hlv514_3 hlv514_4 hlv514_5 hI519 fr520 bx515 bx516 bx517 bx518 ck166 J166 b166 n166 c166 x166 hm166
    have hI521 : aw_I s h (aw_sm S513) S513 := ⟨hI519.1, aw_sm_rf⟩
    have b522 : 0 ≤ (S513.1 30).toInt ∧ (S513.1 30).toInt ≤ 1001 := aw_bd_f hs (hI521).1 (by decide) rfl
    have hjx := hj
    rw [x166] at hjx
    obtain ⟨hj1, hj2, hj3⟩ := hjx
    have nwl : ∀ c : Nat, (c : Int) ≤ (S.2.2.1 15 ((x515.toInt).toNat + 1)).toInt → ar_nw S (x515.toInt).toNat c ≤ ar_nw S (x515.toInt).toNat ((S.2.2.1 15 ((x515.toInt).toNat + 1)).toInt).toNat := fun c hc => ar_nw_le (by omega)
    have nwc := nwl (x518.toInt).toNat (by omega)
    refine aw_l0 aj_d276 rfl rfl hlv514_5 ?_
    refine aw_l2 aj_d276 rfl rfl hlv514_0 ?_
    refine aw_g hU.1 aj_d276 rfl rfl (by decide) (v := .ref 132) rfl ?_
    refine aw_l0 aj_d276 rfl rfl hlv514_3 ?_
    have ib523 : (x516.toInt).toNat = (x515.toInt).toNat + 1 := by omega
    refine aw_ld (k := 15) hU.1 aj_d276 (Or.inl ⟨rfl, rfl⟩) rfl (by decide) (by decide) rfl (a := x516.toInt) rfl (by omega) (by omega) (fun x524 ex524 => ?_)
    have bx524 : (-1) ≤ x524.toInt ∧ x524.toInt ≤ 6 := by
      rw [ex524]
      exact aw_bd_a hs (hI521).1 (k := 15) (by decide) (by decide) rfl (by decide) rfl (by omega)
    have ftx524 : x524.toInt = (S513.2.2.1 15 (x516.toInt).toNat).toInt := congrArg Int32.toInt (ex524.trans (congrFun rfl _))
    rw [ib523] at ftx524
    rw [J166.1.2 _ (by omega)] at ftx524
    refine aw_c (tgt := 402) aj_d276 rfl rfl (fun q525 => ?_) (fun q525 => ?_)
    · have q525 : x518.toInt ≥ x524.toInt := aw_t_ge (a := x518.toInt) (b := x524.toInt) rfl rfl q525
      refine aw_n aj_d276 rfl rfl ?_
      refine aw_t0 (j := 5) aj_d276 rfl (by decide) rfl ?_
      obtain ⟨lv526, elv526⟩ : ∃ l, l = aj_set1 lv514 5 (.int (Int32.ofInt 0)) := ⟨_, rfl⟩
      rw [← elv526]
      have hlv526_0 : aj_lv lv526 0 = some (.ref 117) := cw_e1 elv526 hlv514_0 (by decide) (Or.inl (by decide))
      have hlv526_1 : aj_lv lv526 1 = some (.int x515) := cw_e1 elv526 hlv514_1 (by decide) (Or.inl (by decide))
      have hlv526_3 : aj_lv lv526 3 = some (.int x516) := cw_e1 elv526 hlv514_3 (by decide) (Or.inl (by decide))
      have hlv526_4 : aj_lv lv526 4 = some (.int x517) := cw_e1 elv526 hlv514_4 (by decide) (Or.inr rfl)
      have hlv526_5 : aj_lv lv526 5 = some (.int (Int32.ofInt 0)) := by rw [elv526]; exact ak_set1_eq _ _ _
      show aw_W _ _ _ _ 405 lv526 [] _ _
      exact (ar_join_L405_526 hU hd x0 hj N88 S486 x488 x489 x490 x491 ihL88_484 hm88 N127 S499 x501 x502 x503 x504 ihL127_497 hm127 N166 S513 x515 x516 x517 x518 ihL166_511 hm166) _ S513 lv526 (x515) (x516) (x517) ((Int32.ofInt 0)) hlv526_0 hlv526_1 hlv526_3 hlv526_4 hlv526_5 ⟨(hI521).1, hI519.2⟩ fr520 (by omega) (by omega) (by omega) (by first | omega | decide) (show _ ≤ ((S513.1 30)).toInt by omega) J166 (by omega) (by omega) (Nat.lt_succ_self _)
    · have q525 : x518.toInt < x524.toInt := aw_t_ge (a := x518.toInt) (b := x524.toInt) rfl rfl q525
      refine aw_l2 aj_d276 rfl rfl hlv514_0 ?_
      refine aw_l0 aj_d276 rfl rfl hlv514_1 ?_
      refine aw_l2 aj_d276 rfl rfl hlv514_0 ?_
      refine aw_g hU.1 aj_d276 rfl rfl (by decide) (v := .ref 133) rfl ?_
      refine aw_l0 aj_d276 rfl rfl hlv514_3 ?_
      refine aw_n aj_d276 rfl rfl ?_
      refine aw_mul aj_d276 rfl (a := x516.toInt) (b := (8 : Int)) rfl rfl (by omega) (by omega) (fun x577 ex577 => ?_)
      refine aw_l0 aj_d276 rfl rfl hlv514_5 ?_
      refine aw_add aj_d276 rfl (a := x577.toInt) (b := x518.toInt) rfl rfl (by omega) (by omega) (fun x578 ex578 => ?_)
      refine aw_ldl (k := 16) hU.1 aj_d276 rfl (by decide) (by decide) rfl (a := x578.toInt) rfl (by omega) (by omega) (fun y579 ey579 => ?_)
      refine aw_k hU.1 aj_d276 rfl rfl [_, _] rfl rfl rfl (Nat.le_of_ble_eq_true rfl) (aw_columnOfK (aw_UV hU aw_Gs_sm) hI521 (by omega) (t := (x515.toInt).toNat) (by omega) (by omega)) ?_
      rintro _ zb580 ⟨b580, rfl, fb580, hfb580⟩
      rw [fb580]
      have bdb580 := aw_bd_a hs (hI521).1 (k := 15) (j := (x515.toInt).toNat) (by decide) (by decide) rfl (by decide) rfl (by omega)
      have hdb580 := ar_fd_of (c := (x518.toInt).toNat) (J166).1 (by omega) (by omega) bdb580.2 (by omega) ey579 hfb580
      have nwb580 : ((0 ≤ b580.toInt ∧ ar_nw S (x515.toInt).toNat ((x518.toInt).toNat + 1) = ar_nw S (x515.toInt).toNat (x518.toInt).toNat) ∨ (b580.toInt = -1 ∧ ar_nw S (x515.toInt).toNat ((x518.toInt).toNat + 1) = ar_nw S (x515.toInt).toNat (x518.toInt).toNat + 1)) := by
        rcases hdb580 with ⟨z1, z2, z3⟩ | ⟨z1, z2⟩
        · exact Or.inl ⟨z1, ar_nw_1 z3⟩
        · exact Or.inr ⟨z1, ar_nw_2 z2⟩
      have b5b580 : -1 ≤ b580.toInt ∧ b580.toInt ≤ 5 := by
        rcases hdb580 with ⟨z1, z2, z3⟩ | ⟨z1, z2⟩
        · omega
        · omega
      clear hdb580 hfb580 bdb580
      show aw_W _ _ _ _ 194 lv514 [.int b580] _ _
      refine aw_t0 (j := 6) aj_d276 rfl (by decide) rfl ?_
      obtain ⟨lv581, elv581⟩ : ∃ l, l = aj_set1 lv514 6 (.int b580) := ⟨_, rfl⟩
      rw [← elv581]
      have hlv581_0 : aj_lv lv581 0 = some (.ref 117) := cw_e1 elv581 hlv514_0 (by decide) (Or.inl (by decide))
      have hlv581_1 : aj_lv lv581 1 = some (.int x515) := cw_e1 elv581 hlv514_1 (by decide) (Or.inl (by decide))
      have hlv581_3 : aj_lv lv581 3 = some (.int x516) := cw_e1 elv581 hlv514_3 (by decide) (Or.inl (by decide))
      have hlv581_4 : aj_lv lv581 4 = some (.int x517) := cw_e1 elv581 hlv514_4 (by decide) (Or.inl (by decide))
      have hlv581_5 : aj_lv lv581 5 = some (.int x518) := cw_e1 elv581 hlv514_5 (by decide) (Or.inr rfl)
      have hlv581_6 : aj_lv lv581 6 = some (.int b580) := by rw [elv581]; exact ak_set1_eq _ _ _
      show aw_W _ _ _ _ 196 lv581 [] _ _
      refine aw_n aj_d276 rfl rfl ?_
      refine aw_t0 (j := 7) aj_d276 rfl (by decide) rfl ?_
      obtain ⟨lv582, elv582⟩ : ∃ l, l = aj_set1 lv581 7 (.int (Int32.ofInt 0)) := ⟨_, rfl⟩
      rw [← elv582]
      have hlv582_0 : aj_lv lv582 0 = some (.ref 117) := cw_e1 elv582 hlv581_0 (by decide) (Or.inl (by decide))
      have hlv582_1 : aj_lv lv582 1 = some (.int x515) := cw_e1 elv582 hlv581_1 (by decide) (Or.inl (by decide))
      have hlv582_3 : aj_lv lv582 3 = some (.int x516) := cw_e1 elv582 hlv581_3 (by decide) (Or.inl (by decide))
      have hlv582_4 : aj_lv lv582 4 = some (.int x517) := cw_e1 elv582 hlv581_4 (by decide) (Or.inl (by decide))
      have hlv582_5 : aj_lv lv582 5 = some (.int x518) := cw_e1 elv582 hlv581_5 (by decide) (Or.inl (by decide))
      have hlv582_6 : aj_lv lv582 6 = some (.int b580) := cw_e1 elv582 hlv581_6 (by decide) (Or.inr rfl)
      have hlv582_7 : aj_lv lv582 7 = some (.int (Int32.ofInt 0)) := by rw [elv582]; exact ak_set1_eq _ _ _
      show aw_W _ _ _ _ 199 lv582 [] _ _
      exact (ar_join_L199_582 hU hd x0 hj N88 S486 x488 x489 x490 x491 ihL88_484 hm88 N127 S499 x501 x502 x503 x504 ihL127_497 hm127 N166 S513 x515 x516 x517 x518 ihL166_511 hm166) _ S513 lv582 (x515) (x516) (x517) (x518) (b580) ((Int32.ofInt 0)) hlv582_0 hlv582_1 hlv582_3 hlv582_4 hlv582_5 hlv582_6 hlv582_7 ⟨(hI521).1, hI519.2⟩ fr520 (by omega) (by omega) (by omega) (by omega) (by omega) (by first | omega | decide) (show _ ≤ ((S513.1 30)).toInt by omega) J166 (by omega) (by omega) (by omega) (by omega) (by omega) (by omega) (Nat.lt_succ_self _)
theorem ar_join_L127_497 (hU : aw_U tb s h) (hd : 4 ≤ d + 1) (x0 : Nat) (hj : ar_JP S x0) (N88 : Nat) (S486 : aj_S) (x488 : Int32) (x489 : Int32) (x490 : Int32) (x491 : Int32) (ihL88_484 : ∀ (S486 : aj_S) (lv487 : aj_V) (x488 : Int32) (x489 : Int32) (x490 : Int32) (x491 : Int32), (aj_lv lv487 0 = some (.ref 117)) → (aj_lv lv487 1 = some (.int x488)) → (aj_lv lv487 3 = some (.int x489)) → (aj_lv lv487 4 = some (.int x490)) → (aj_lv lv487 5 = some (.int x491)) → (aw_I s h (aw_G g) S486) → (aw_fr [24, 25, 31] [14, 15, 16, 17, 18, 19] S S486) → (20 ≤ x488.toInt ∧ x488.toInt ≤ 47) → (21 ≤ x489.toInt ∧ x489.toInt ≤ 48) → (0 ≤ x490.toInt ∧ x490.toInt ≤ 6) → (0 ≤ x491.toInt ∧ x491.toInt ≤ 6) → ((S.1 30).toInt + 0 ≤ (S486.1 30).toInt) → (ar_J S S486 (x488.toInt).toNat) → (x489.toInt = x488.toInt + 1) → (x490.toInt = (S.2.2.1 15 (x488.toInt).toNat).toInt) → (x0 = (x488.toInt).toNat) → (6 - x491.toInt).toNat < N88 → aw_W tb h d aj_m276 88 lv487 [] S486 ((ar_QB s h [24, 25, 31] [14, 15, 16, 17, 18, 19] S (fun S' => aw_G g S' ∧ (S.1 30).toInt ≤ (S'.1 30).toInt) (fun S' => aw_G g S' ∧ (S.1 30).toInt + 0 ≤ (S'.1 30).toInt)))) (hm88 : (6 - x491.toInt).toNat < N88 + 1) : ∀ (N : Nat) (S499 : aj_S) (lv500 : aj_V) (x501 : Int32) (x502 : Int32) (x503 : Int32) (x504 : Int32), (aj_lv lv500 0 = some (.ref 117)) → (aj_lv lv500 1 = some (.int x501)) → (aj_lv lv500 3 = some (.int x502)) → (aj_lv lv500 4 = some (.int x503)) → (aj_lv lv500 5 = some (.int x504)) → (aw_I s h (aw_G g) S499) → (aw_fr [24, 25, 31] [14, 15, 16, 17, 18, 19] S S499) → (20 ≤ x501.toInt ∧ x501.toInt ≤ 47) → (21 ≤ x502.toInt ∧ x502.toInt ≤ 48) → (0 ≤ x503.toInt ∧ x503.toInt ≤ 6) → (0 ≤ x504.toInt ∧ x504.toInt ≤ 30) → ((S.1 30).toInt + 0 ≤ (S499.1 30).toInt) → (ar_J S S499 (x501.toInt).toNat) → (x502.toInt = x501.toInt + 1) → (x503.toInt = (S.2.2.1 15 (x501.toInt).toNat).toInt) → (x0 = (x501.toInt).toNat) → (30 - x504.toInt).toNat < N → aw_W tb h d aj_m276 127 lv500 [] S499 ((ar_QB s h [24, 25, 31] [14, 15, 16, 17, 18, 19] S (fun S' => aw_G g S' ∧ (S.1 30).toInt ≤ (S'.1 30).toInt) (fun S' => aw_G g S' ∧ (S.1 30).toInt + 0 ≤ (S'.1 30).toInt))) := by
  have hs : aw_sT s := aw_hy_sT hU.2.2
  intro N127
  induction N127 with
  | zero =>
    intro S499 lv500 x501 x502 x503 x504 hlv500_0 hlv500_1 hlv500_3 hlv500_4 hlv500_5 hI505 fr506 bx501 bx502 bx503 bx504 ck127 J127 b127 n127 x127 hm127
    omega
  | succ N127 ihL127_497 =>
    intro S499 lv500 x501 x502 x503 x504 hlv500_0 hlv500_1 hlv500_3 hlv500_4 hlv500_5 hI505 fr506 bx501 bx502 bx503 bx504 ck127 J127 b127 n127 x127 hm127
    have hI507 : aw_I s h (aw_sm S499) S499 := ⟨hI505.1, aw_sm_rf⟩
    have b508 : 0 ≤ (S499.1 30).toInt ∧ (S499.1 30).toInt ≤ 1001 := aw_bd_f hs (hI507).1 (by decide) rfl
    have hjx := hj
    rw [x127] at hjx
    obtain ⟨hj1, hj2, hj3⟩ := hjx
    refine aw_l0 aj_d276 rfl rfl hlv500_5 ?_
    refine aw_l2 aj_d276 rfl rfl hlv500_0 ?_
    refine aw_g hU.1 aj_d276 rfl rfl (by decide) (v := .ref 131) rfl ?_
    refine aw_n aj_d276 rfl rfl ?_
    refine aw_ld (k := 14) hU.1 aj_d276 (Or.inl ⟨rfl, rfl⟩) rfl (by decide) (by decide) rfl (a := (49 : Int)) rfl (by omega) (by omega) (fun x509 ex509 => ?_)
    have bx509 : 0 ≤ x509.toInt ∧ x509.toInt ≤ 30 := by
      rw [ex509]
      exact aw_bd_a hs (hI507).1 (k := 14) (by decide) (by decide) rfl (by decide) rfl (by omega)
    have ftx509 : x509.toInt = (S499.2.2.1 14 49).toInt := congrArg Int32.toInt (ex509.trans (congrFun rfl _))
    refine aw_c (tgt := 163) aj_d276 rfl rfl (fun q510 => ?_) (fun q510 => ?_)
    · have q510 : x504.toInt ≥ x509.toInt := aw_t_ge (a := x504.toInt) (b := x509.toInt) rfl rfl q510
      refine aw_n aj_d276 rfl rfl ?_
      refine aw_t0 (j := 5) aj_d276 rfl (by decide) rfl ?_
      obtain ⟨lv511, elv511⟩ : ∃ l, l = aj_set1 lv500 5 (.int (Int32.ofInt 0)) := ⟨_, rfl⟩
      rw [← elv511]
      have hlv511_0 : aj_lv lv511 0 = some (.ref 117) := cw_e1 elv511 hlv500_0 (by decide) (Or.inl (by decide))
      have hlv511_1 : aj_lv lv511 1 = some (.int x501) := cw_e1 elv511 hlv500_1 (by decide) (Or.inl (by decide))
      have hlv511_3 : aj_lv lv511 3 = some (.int x502) := cw_e1 elv511 hlv500_3 (by decide) (Or.inl (by decide))
      have hlv511_4 : aj_lv lv511 4 = some (.int x503) := cw_e1 elv511 hlv500_4 (by decide) (Or.inr rfl)
      have hlv511_5 : aj_lv lv511 5 = some (.int (Int32.ofInt 0)) := by rw [elv511]; exact ak_set1_eq _ _ _
      show aw_W _ _ _ _ 166 lv511 [] _ _
      exact (ar_join_L166_511 hU hd x0 hj N88 S486 x488 x489 x490 x491 ihL88_484 hm88 N127 S499 x501 x502 x503 x504 ihL127_497 hm127) _ S499 lv511 (x501) (x502) (x503) ((Int32.ofInt 0)) hlv511_0 hlv511_1 hlv511_3 hlv511_4 hlv511_5 ⟨(hI507).1, hI505.2⟩ fr506 (by omega) (by omega) (by omega) (by first | omega | decide) (show _ ≤ ((S499.1 30)).toInt by omega) J127 (by omega) (show (x503).toInt = (S.2.2.1 15 (x501.toInt).toNat).toInt + (0 : Int) by omega) (show (0 : Int) ≤ (S.2.2.1 15 ((x501.toInt).toNat + 1)).toInt by omega) (by omega) (Nat.lt_succ_self _)
    · have q510 : x504.toInt < x509.toInt := aw_t_ge (a := x504.toInt) (b := x509.toInt) rfl rfl q510
      refine aw_l2 aj_d276 rfl rfl hlv500_0 ?_
      refine aw_l0 aj_d276 rfl rfl hlv500_1 ?_
      refine aw_l0 aj_d276 rfl rfl hlv500_5 ?_
      refine aw_l2 aj_d276 rfl rfl hlv500_0 ?_
      refine aw_g hU.1 aj_d276 rfl rfl (by decide) (v := .ref 131) rfl ?_
      refine aw_l0 aj_d276 rfl rfl hlv500_3 ?_
      have ib687 : (x502.toInt).toNat = (x501.toInt).toNat + 1 := by omega
      refine aw_ld (k := 14) hU.1 aj_d276 (Or.inl ⟨rfl, rfl⟩) rfl (by decide) (by decide) rfl (a := x502.toInt) rfl (by omega) (by omega) (fun x688 ex688 => ?_)
      have bx688 : 0 ≤ x688.toInt ∧ x688.toInt ≤ 30 := by
        rw [ex688]
        exact aw_bd_a hs (hI507).1 (k := 14) (by decide) (by decide) rfl (by decide) rfl (by omega)
      have ftx688 : x688.toInt = (S499.2.2.1 14 (x502.toInt).toNat).toInt := congrArg Int32.toInt (ex688.trans (congrFun rfl _))
      rw [ib687] at ftx688
      have jb := J127.2
      refine aw_div aj_d276 rfl (a := x504.toInt) (b := x688.toInt) rfl rfl (by omega) (by omega) (fun x689 ex689 => ?_)
      have dvx689 := ar_div (a := x504.toInt) (b := x688.toInt) (by omega) (by omega)
      rw [← ex689] at dvx689
      refine aw_n aj_d276 rfl rfl ?_
      refine aw_l0 aj_d276 rfl rfl hlv500_5 ?_
      refine aw_k hU.1 aj_d276 rfl rfl [_, _, _, _] rfl rfl rfl (Nat.le_of_ble_eq_true rfl) (ar_copyRow hU (hI507).1 (aw_G_B hI505.2).1 (by omega) (t := x501) (r := x689) (u := (Int8.ofInt 49).toInt32) (v := x504) (by omega) (by omega) (by decide) (by omega)) ?_
      rintro _ S690 ⟨hT690, fc690, rfl, sk690, kv690⟩
      have hG690 := aw_G_sk hI505.2 sk690 kv690
      have fr691 := aw_fr_tr fr506 (aw_fr_sub (F := []) (A := [17, 18, 19]) (by decide) (by decide) fc690)
      have hI692 : aw_I s h (aw_sm S690) S690 := ⟨hT690, aw_sm_rf⟩
      show aw_W _ _ _ _ 157 lv500 [] _ _
      refine aw_inc aj_d276 rfl hlv500_5 (a := x504.toInt) rfl (by omega) (by omega) (by decide) (by decide) (fun x693 ex693 => ?_)
      obtain ⟨lv694, elv694⟩ : ∃ l, l = aj_set1 lv500 5 (.int x693) := ⟨_, rfl⟩
      rw [← elv694]
      have hlv694_0 : aj_lv lv694 0 = some (.ref 117) := cw_e1 elv694 hlv500_0 (by decide) (Or.inl (by decide))
      have hlv694_1 : aj_lv lv694 1 = some (.int x501) := cw_e1 elv694 hlv500_1 (by decide) (Or.inl (by decide))
      have hlv694_3 : aj_lv lv694 3 = some (.int x502) := cw_e1 elv694 hlv500_3 (by decide) (Or.inl (by decide))
      have hlv694_4 : aj_lv lv694 4 = some (.int x503) := cw_e1 elv694 hlv500_4 (by decide) (Or.inr rfl)
      have hlv694_5 : aj_lv lv694 5 = some (.int x693) := by rw [elv694]; exact ak_set1_eq _ _ _
      show aw_W _ _ _ _ 160 lv694 [] _ _
      refine aw_n aj_d276 rfl rfl ?_
      have c695 : (S690.1 30).toInt = (S499.1 30).toInt := (congrArg Int32.toInt (fc690.1 30 (by decide)).1).trans rfl
      have b696 : 0 ≤ (S690.1 30).toInt ∧ (S690.1 30).toInt ≤ 1001 := aw_bd_f hs (hI692).1 (by decide) rfl
      exact ihL127_497 S690 lv694 (x501) (x502) (x503) (x693) hlv694_0 hlv694_1 hlv694_3 hlv694_4 hlv694_5 ⟨(hI692).1, hG690⟩ fr691 (by omega) (by omega) (by omega) (by omega) (show _ ≤ ((S690.1 30)).toInt by omega) (ar_J_eq ((fc690.2 14 (by decide)).1.trans rfl) ((fc690.2 15 (by decide)).1.trans rfl) ((fc690.2 16 (by decide)).2.trans rfl) J127) (by omega) (by omega) (by omega) (by omega)
theorem ar_join_L88_484 (hU : aw_U tb s h) (hd : 4 ≤ d + 1) (x0 : Nat) (hj : ar_JP S x0)  : ∀ (N : Nat) (S486 : aj_S) (lv487 : aj_V) (x488 : Int32) (x489 : Int32) (x490 : Int32) (x491 : Int32), (aj_lv lv487 0 = some (.ref 117)) → (aj_lv lv487 1 = some (.int x488)) → (aj_lv lv487 3 = some (.int x489)) → (aj_lv lv487 4 = some (.int x490)) → (aj_lv lv487 5 = some (.int x491)) → (aw_I s h (aw_G g) S486) → (aw_fr [24, 25, 31] [14, 15, 16, 17, 18, 19] S S486) → (20 ≤ x488.toInt ∧ x488.toInt ≤ 47) → (21 ≤ x489.toInt ∧ x489.toInt ≤ 48) → (0 ≤ x490.toInt ∧ x490.toInt ≤ 6) → (0 ≤ x491.toInt ∧ x491.toInt ≤ 6) → ((S.1 30).toInt + 0 ≤ (S486.1 30).toInt) → (ar_J S S486 (x488.toInt).toNat) → (x489.toInt = x488.toInt + 1) → (x490.toInt = (S.2.2.1 15 (x488.toInt).toNat).toInt) → (x0 = (x488.toInt).toNat) → (6 - x491.toInt).toNat < N → aw_W tb h d aj_m276 88 lv487 [] S486 ((ar_QB s h [24, 25, 31] [14, 15, 16, 17, 18, 19] S (fun S' => aw_G g S' ∧ (S.1 30).toInt ≤ (S'.1 30).toInt) (fun S' => aw_G g S' ∧ (S.1 30).toInt + 0 ≤ (S'.1 30).toInt))) := by
  have hs : aw_sT s := aw_hy_sT hU.2.2
  intro N88
  induction N88 with
  | zero =>
    intro S486 lv487 x488 x489 x490 x491 hlv487_0 hlv487_1 hlv487_3 hlv487_4 hlv487_5 hI492 fr493 bx488 bx489 bx490 bx491 ck88 J88 b88 n88 x88 hm88
    omega
  | succ N88 ihL88_484 =>
    intro S486 lv487 x488 x489 x490 x491 hlv487_0 hlv487_1 hlv487_3 hlv487_4 hlv487_5 hI492 fr493 bx488 bx489 bx490 bx491 ck88 J88 b88 n88 x88 hm88
    have hI494 : aw_I s h (aw_sm S486) S486 := ⟨hI492.1, aw_sm_rf⟩
    have b495 : 0 ≤ (S486.1 30).toInt ∧ (S486.1 30).toInt ≤ 1001 := aw_bd_f hs (hI494).1 (by decide) rfl
    have hjx := hj
    rw [x88] at hjx
    obtain ⟨hj1, hj2, hj3⟩ := hjx
    refine aw_l0 aj_d276 rfl rfl hlv487_5 ?_
    refine aw_l0 aj_d276 rfl rfl hlv487_4 ?_
    refine aw_c (tgt := 124) aj_d276 rfl rfl (fun q496 => ?_) (fun q496 => ?_)
    · have q496 : x491.toInt ≥ x490.toInt := aw_t_ge (a := x491.toInt) (b := x490.toInt) rfl rfl q496
      refine aw_n aj_d276 rfl rfl ?_
      refine aw_t0 (j := 5) aj_d276 rfl (by decide) rfl ?_
      obtain ⟨lv497, elv497⟩ : ∃ l, l = aj_set1 lv487 5 (.int (Int32.ofInt 0)) := ⟨_, rfl⟩
      rw [← elv497]
      have hlv497_0 : aj_lv lv497 0 = some (.ref 117) := cw_e1 elv497 hlv487_0 (by decide) (Or.inl (by decide))
      have hlv497_1 : aj_lv lv497 1 = some (.int x488) := cw_e1 elv497 hlv487_1 (by decide) (Or.inl (by decide))
      have hlv497_3 : aj_lv lv497 3 = some (.int x489) := cw_e1 elv497 hlv487_3 (by decide) (Or.inl (by decide))
      have hlv497_4 : aj_lv lv497 4 = some (.int x490) := cw_e1 elv497 hlv487_4 (by decide) (Or.inr rfl)
      have hlv497_5 : aj_lv lv497 5 = some (.int (Int32.ofInt 0)) := by rw [elv497]; exact ak_set1_eq _ _ _
      show aw_W _ _ _ _ 127 lv497 [] _ _
      exact (ar_join_L127_497 hU hd x0 hj N88 S486 x488 x489 x490 x491 ihL88_484 hm88) _ S486 lv497 (x488) (x489) (x490) ((Int32.ofInt 0)) hlv497_0 hlv497_1 hlv497_3 hlv497_4 hlv497_5 ⟨(hI494).1, hI492.2⟩ fr493 (by omega) (by omega) (by omega) (by first | omega | decide) (show _ ≤ ((S486.1 30)).toInt by omega) J88 (by omega) (by omega) (by omega) (Nat.lt_succ_self _)
    · have q496 : x491.toInt < x490.toInt := aw_t_ge (a := x491.toInt) (b := x490.toInt) rfl rfl q496
      refine aw_l2 aj_d276 rfl rfl hlv487_0 ?_
      refine aw_g hU.1 aj_d276 rfl rfl (by decide) (v := .ref 133) rfl ?_
      refine aw_n aj_d276 rfl rfl ?_
      refine aw_l0 aj_d276 rfl rfl hlv487_5 ?_
      refine aw_add aj_d276 rfl (a := (392 : Int)) (b := x491.toInt) rfl rfl (by omega) (by omega) (fun x697 ex697 => ?_)
      refine aw_l2 aj_d276 rfl rfl hlv487_0 ?_
      refine aw_g hU.1 aj_d276 rfl rfl (by decide) (v := .ref 133) rfl ?_
      refine aw_l0 aj_d276 rfl rfl hlv487_1 ?_
      refine aw_n aj_d276 rfl rfl ?_
      refine aw_mul aj_d276 rfl (a := x488.toInt) (b := (8 : Int)) rfl rfl (by omega) (by omega) (fun x698 ex698 => ?_)
      refine aw_l0 aj_d276 rfl rfl hlv487_5 ?_
      refine aw_add aj_d276 rfl (a := x698.toInt) (b := x491.toInt) rfl rfl (by omega) (by omega) (fun x699 ex699 => ?_)
      refine aw_ldl (k := 16) hU.1 aj_d276 rfl (by decide) (by decide) rfl (a := x699.toInt) rfl (by omega) (by omega) (fun y700 ey700 => ?_)
      refine aw_stl (k := 16) hU.1 aj_d276 rfl (by decide) (by decide) rfl (a := x697.toInt) rfl (by omega) (by omega) ?_
      have hI701 := aw_I_b (aw_UV hU aw_Gs_sm) (k := 16) (j := (x697.toInt).toNat) (v := y700) hI494 (by decide) (by decide) (by decide) rfl rfl
      have fr702 := aw_fr_b (k := 16) (j := (x697.toInt).toNat) (v := y700) (by decide) fr493
      have J704 : ar_J S (aw_wb S486 16 (x697.toInt).toNat y700) (x488.toInt).toNat := (ar_J_col (by omega) J88)
      refine aw_inc aj_d276 rfl hlv487_5 (a := x491.toInt) rfl (by omega) (by omega) (by decide) (by decide) (fun x705 ex705 => ?_)
      obtain ⟨lv706, elv706⟩ : ∃ l, l = aj_set1 lv487 5 (.int x705) := ⟨_, rfl⟩
      rw [← elv706]
      have hlv706_0 : aj_lv lv706 0 = some (.ref 117) := cw_e1 elv706 hlv487_0 (by decide) (Or.inl (by decide))
      have hlv706_1 : aj_lv lv706 1 = some (.int x488) := cw_e1 elv706 hlv487_1 (by decide) (Or.inl (by decide))
      have hlv706_3 : aj_lv lv706 3 = some (.int x489) := cw_e1 elv706 hlv487_3 (by decide) (Or.inl (by decide))
      have hlv706_4 : aj_lv lv706 4 = some (.int x490) := cw_e1 elv706 hlv487_4 (by decide) (Or.inr rfl)
      have hlv706_5 : aj_lv lv706 5 = some (.int x705) := by rw [elv706]; exact ak_set1_eq _ _ _
      show aw_W _ _ _ _ 121 lv706 [] _ _
      refine aw_n aj_d276 rfl rfl ?_
      exact ihL88_484 (aw_wb S486 16 (x697.toInt).toNat y700) lv706 (x488) (x489) (x490) (x705) hlv706_0 hlv706_1 hlv706_3 hlv706_4 hlv706_5 ⟨(hI701).1, (aw_G_sm hI701.2 hI492.2)⟩ fr702 (by omega) (by omega) (by omega) (by omega) (show _ ≤ ((S486.1 30)).toInt by omega) J704 (by omega) (by omega) (by omega) (by omega)
theorem ar_join_L420_778 (hU : aw_U tb s h) (hd : 4 ≤ d + 1) (x0 : Nat) (hj : ar_JP S x0) (N88 : Nat) (S717 : aj_S) (x719 : Int32) (x720 : Int32) (x721 : Int32) (x722 : Int32) (ihL88_715 : ∀ (S717 : aj_S) (lv718 : aj_V) (x719 : Int32) (x720 : Int32) (x721 : Int32) (x722 : Int32), (aj_lv lv718 0 = some (.ref 117)) → (aj_lv lv718 1 = some (.int x719)) → (aj_lv lv718 3 = some (.int x720)) → (aj_lv lv718 4 = some (.int x721)) → (aj_lv lv718 5 = some (.int x722)) → (aw_I s h (aw_G g) S717) → (aw_fr [24, 25, 31] [14, 15, 16, 17, 18, 19] S S717) → (20 ≤ x719.toInt ∧ x719.toInt ≤ 47) → (21 ≤ x720.toInt ∧ x720.toInt ≤ 48) → (0 ≤ x721.toInt ∧ x721.toInt ≤ 6) → (0 ≤ x722.toInt ∧ x722.toInt ≤ 6) → ((S.1 30).toInt + 0 ≤ (S717.1 30).toInt) → (ar_J S S717 (x719.toInt).toNat) → (x720.toInt = x719.toInt + 1) → (x721.toInt = (S.2.2.1 15 (x719.toInt).toNat).toInt) → (x0 = (x719.toInt).toNat) → (6 - x722.toInt).toNat < N88 → aw_W tb h d aj_m276 88 lv718 [] S717 ((ar_QB s h [24, 25, 31] [14, 15, 16, 17, 18, 19] S (fun S' => aw_G g S' ∧ (S.1 30).toInt ≤ (S'.1 30).toInt) (fun S' => aw_G g S' ∧ (S.1 30).toInt + 0 ≤ (S'.1 30).toInt)))) (hm88 : (6 - x722.toInt).toNat < N88 + 1) (N127 : Nat) (S730 : aj_S) (x732 : Int32) (x733 : Int32) (x734 : Int32) (x735 : Int32) (ihL127_728 : ∀ (S730 : aj_S) (lv731 : aj_V) (x732 : Int32) (x733 : Int32) (x734 : Int32) (x735 : Int32), (aj_lv lv731 0 = some (.ref 117)) → (aj_lv lv731 1 = some (.int x732)) → (aj_lv lv731 3 = some (.int x733)) → (aj_lv lv731 4 = some (.int x734)) → (aj_lv lv731 5 = some (.int x735)) → (aw_I s h (aw_G g) S730) → (aw_fr [24, 25, 31] [14, 15, 16, 17, 18, 19] S S730) → (20 ≤ x732.toInt ∧ x732.toInt ≤ 47) → (21 ≤ x733.toInt ∧ x733.toInt ≤ 48) → (0 ≤ x734.toInt ∧ x734.toInt ≤ 6) → (0 ≤ x735.toInt ∧ x735.toInt ≤ 30) → ((S.1 30).toInt + 0 ≤ (S730.1 30).toInt) → (ar_J S S730 (x732.toInt).toNat) → (x733.toInt = x732.toInt + 1) → (x734.toInt = (S.2.2.1 15 (x732.toInt).toNat).toInt) → (x0 = (x732.toInt).toNat) → (30 - x735.toInt).toNat < N127 → aw_W tb h d aj_m276 127 lv731 [] S730 ((ar_QB s h [24, 25, 31] [14, 15, 16, 17, 18, 19] S (fun S' => aw_G g S' ∧ (S.1 30).toInt ≤ (S'.1 30).toInt) (fun S' => aw_G g S' ∧ (S.1 30).toInt + 0 ≤ (S'.1 30).toInt)))) (hm127 : (30 - x735.toInt).toNat < N127 + 1) (N166 : Nat) (S744 : aj_S) (x746 : Int32) (x747 : Int32) (x748 : Int32) (x749 : Int32) (ihL166_742 : ∀ (S744 : aj_S) (lv745 : aj_V) (x746 : Int32) (x747 : Int32) (x748 : Int32) (x749 : Int32), (aj_lv lv745 0 = some (.ref 117)) → (aj_lv lv745 1 = some (.int x746)) → (aj_lv lv745 3 = some (.int x747)) → (aj_lv lv745 4 = some (.int x748)) → (aj_lv lv745 5 = some (.int x749)) → (aw_I s h (aw_G g) S744) → (aw_fr [24, 25, 31] [14, 15, 16, 17, 18, 19] S S744) → (20 ≤ x746.toInt ∧ x746.toInt ≤ 47) → (21 ≤ x747.toInt ∧ x747.toInt ≤ 48) → (0 ≤ x748.toInt ∧ x748.toInt ≤ 6) → (0 ≤ x749.toInt ∧ x749.toInt ≤ 6) → ((S.1 30).toInt + 0 ≤ (S744.1 30).toInt) → (ar_J S S744 (x746.toInt).toNat) → (x747.toInt = x746.toInt + 1) → (x748.toInt = (S.2.2.1 15 (x746.toInt).toNat).toInt + ar_nw S (x746.toInt).toNat (x749.toInt).toNat) → (x749.toInt ≤ (S.2.2.1 15 ((x746.toInt).toNat + 1)).toInt) → (x0 = (x746.toInt).toNat) → (6 - x749.toInt).toNat < N166 → aw_W tb h d aj_m276 166 lv745 [] S744 ((ar_QB s h [24, 25, 31] [14, 15, 16, 17, 18, 19] S (fun S' => aw_G g S' ∧ (S.1 30).toInt ≤ (S'.1 30).toInt) (fun S' => aw_G g S' ∧ (S.1 30).toInt + 0 ≤ (S'.1 30).toInt)))) (hm166 : (6 - x749.toInt).toNat < N166 + 1) (N405 : Nat) (S759 : aj_S) (x761 : Int32) (x762 : Int32) (x763 : Int32) (x764 : Int32) (ihL405_757 : ∀ (S759 : aj_S) (lv760 : aj_V) (x761 : Int32) (x762 : Int32) (x763 : Int32) (x764 : Int32), (aj_lv lv760 0 = some (.ref 117)) → (aj_lv lv760 1 = some (.int x761)) → (aj_lv lv760 3 = some (.int x762)) → (aj_lv lv760 4 = some (.int x763)) → (aj_lv lv760 5 = some (.int x764)) → (aw_I s h (aw_G g) S759) → (aw_fr [24, 25, 31] [14, 15, 16, 17, 18, 19] S S759) → (20 ≤ x761.toInt ∧ x761.toInt ≤ 47) → (21 ≤ x762.toInt ∧ x762.toInt ≤ 48) → (0 ≤ x763.toInt ∧ x763.toInt ≤ 6) → (0 ≤ x764.toInt ∧ x764.toInt ≤ 30) → ((S.1 30).toInt + 0 ≤ (S759.1 30).toInt) → (ar_J S S759 (x761.toInt).toNat) → (x762.toInt = x761.toInt + 1) → (x0 = (x761.toInt).toNat) → (30 - x764.toInt).toNat < N405 → aw_W tb h d aj_m276 405 lv760 [] S759 ((ar_QB s h [24, 25, 31] [14, 15, 16, 17, 18, 19] S (fun S' => aw_G g S' ∧ (S.1 30).toInt ≤ (S'.1 30).toInt) (fun S' => aw_G g S' ∧ (S.1 30).toInt + 0 ≤ (S'.1 30).toInt)))) (hm405 : (30 - x764.toInt).toNat < N405 + 1) : ∀ (N : Nat) (S780 : aj_S) (lv781 : aj_V) (x782 : Int32) (x783 : Int32) (x784 : Int32) (x785 : Int32) (x786 : Int32), (aj_lv lv781 0 = some (.ref 117)) → (aj_lv lv781 1 = some (.int x782)) → (aj_lv lv781 3 = some (.int x783)) → (aj_lv lv781 4 = some (.int x784)) → (aj_lv lv781 5 = some (.int x785)) → (aj_lv lv781 6 = some (.int x786)) → (aw_I s h (aw_G g) S780) → (aw_fr [24, 25, 31] [14, 15, 16, 17, 18, 19] S S780) → (20 ≤ x782.toInt ∧ x782.toInt ≤ 47) → (21 ≤ x783.toInt ∧ x783.toInt ≤ 48) → (0 ≤ x784.toInt ∧ x784.toInt ≤ 6) → (0 ≤ x785.toInt ∧ x785.toInt ≤ 29) → (0 ≤ x786.toInt ∧ x786.toInt ≤ 32) → ((S.1 30).toInt + 0 ≤ (S780.1 30).toInt) → (ar_J S S780 (x782.toInt).toNat) → (x783.toInt = x782.toInt + 1) → (x785.toInt = x764.toInt) → (x785.toInt < (S780.2.2.1 14 49).toInt) → (x0 = (x782.toInt).toNat) → (32 - x786.toInt).toNat < N → aw_W tb h d aj_m276 420 lv781 [] S780 ((ar_QB s h [24, 25, 31] [14, 15, 16, 17, 18, 19] S (fun S' => aw_G g S' ∧ (S.1 30).toInt ≤ (S'.1 30).toInt) (fun S' => aw_G g S' ∧ (S.1 30).toInt + 0 ≤ (S'.1 30).toInt))) := by
  have hs : aw_sT s := aw_hy_sT hU.2.2
  intro N420
  induction N420 with
  | zero =>
    intro S780 lv781 x782 x783 x784 x785 x786 hlv781_0 hlv781_1 hlv781_3 hlv781_4 hlv781_5 hlv781_6 hI787 fr788 bx782 bx783 bx784 bx785 bx786 ck420 J420 b420 e420 r420 x420 hm420
    omega
  | succ N420 ihL420_778 =>
    intro S780 lv781 x782 x783 x784 x785 x786 hlv781_0 hlv781_1 hlv781_3 hlv781_4 hlv781_5 hlv781_6 hI787 fr788 bx782 bx783 bx784 bx785 bx786 ck420 J420 b420 e420 r420 x420 hm420
    have hI789 : aw_I s h (aw_sm S780) S780 := ⟨hI787.1, aw_sm_rf⟩
    have b790 : 0 ≤ (S780.1 30).toInt ∧ (S780.1 30).toInt ≤ 1001 := aw_bd_f hs (hI789).1 (by decide) rfl
    have hjx := hj
    rw [x420] at hjx
    obtain ⟨hj1, hj2, hj3⟩ := hjx
    refine aw_l0 aj_d276 rfl rfl hlv781_6 ?_
    refine aw_n aj_d276 rfl rfl ?_
    refine aw_c (tgt := 474) aj_d276 rfl rfl (fun q791 => ?_) (fun q791 => ?_)
    · have q791 : x786.toInt ≥ (32 : Int) := aw_t_ge (a := x786.toInt) (b := (32 : Int)) rfl rfl q791
      refine aw_inc aj_d276 rfl hlv781_5 (a := x785.toInt) rfl (by omega) (by omega) (by decide) (by decide) (fun x792 ex792 => ?_)
      obtain ⟨lv793, elv793⟩ : ∃ l, l = aj_set1 lv781 5 (.int x792) := ⟨_, rfl⟩
      rw [← elv793]
      have hlv793_0 : aj_lv lv793 0 = some (.ref 117) := cw_e1 elv793 hlv781_0 (by decide) (Or.inl (by decide))
      have hlv793_1 : aj_lv lv793 1 = some (.int x782) := cw_e1 elv793 hlv781_1 (by decide) (Or.inl (by decide))
      have hlv793_3 : aj_lv lv793 3 = some (.int x783) := cw_e1 elv793 hlv781_3 (by decide) (Or.inl (by decide))
      have hlv793_4 : aj_lv lv793 4 = some (.int x784) := cw_e1 elv793 hlv781_4 (by decide) (Or.inr rfl)
      have hlv793_5 : aj_lv lv793 5 = some (.int x792) := by rw [elv793]; exact ak_set1_eq _ _ _
      show aw_W _ _ _ _ 477 lv793 [] _ _
      refine aw_n aj_d276 rfl rfl ?_
      exact ihL405_757 S780 lv793 (x782) (x783) (x784) (x792) hlv793_0 hlv793_1 hlv793_3 hlv793_4 hlv793_5 ⟨(hI789).1, hI787.2⟩ fr788 (by omega) (by omega) (by omega) (by omega) (show _ ≤ ((S780.1 30)).toInt by omega) J420 (by omega) (by omega) (by omega)
    · have q791 : x786.toInt < (32 : Int) := aw_t_ge (a := x786.toInt) (b := (32 : Int)) rfl rfl q791
      refine aw_l2 aj_d276 rfl rfl hlv781_0 ?_
      refine aw_g hU.1 aj_d276 rfl rfl (by decide) (v := .ref 136) rfl ?_
      refine aw_l2 aj_d276 rfl rfl hlv781_0 ?_
      refine aw_n aj_d276 rfl rfl ?_
      refine aw_l0 aj_d276 rfl rfl hlv781_5 ?_
      refine aw_k hU.1 aj_d276 rfl rfl [_, _] rfl rfl rfl (Nat.le_of_ble_eq_true rfl) (ar_at (by omega) (a := (49 : Int)) (b := x785.toInt) rfl rfl (by omega) (by omega)) ?_
      rintro _ zx794 ⟨fx794, x794, rfl, ex794⟩
      rw [fx794]
      show aw_W _ _ _ _ 439 lv781 [.int x794, .ref 136] _ _
      refine aw_l0 aj_d276 rfl rfl hlv781_6 ?_
      refine aw_add aj_d276 rfl (a := (((49 : Int) * 30 + x785.toInt) * 32)) (b := x786.toInt) ex794 rfl (by omega) (by omega) (fun x795 ex795 => ?_)
      refine aw_n aj_d276 rfl rfl ?_
      refine aw_ld (k := 19) hU.1 aj_d276 (Or.inl ⟨rfl, rfl⟩) rfl (by decide) (by decide) rfl (a := x795.toInt) rfl (by omega) (by omega) (fun x796 ex796 => ?_)
      refine aw_l2 aj_d276 rfl rfl hlv781_0 ?_
      refine aw_g hU.1 aj_d276 rfl rfl (by decide) (v := .ref 136) rfl ?_
      refine aw_l2 aj_d276 rfl rfl hlv781_0 ?_
      refine aw_l0 aj_d276 rfl rfl hlv781_3 ?_
      refine aw_l0 aj_d276 rfl rfl hlv781_5 ?_
      refine aw_l2 aj_d276 rfl rfl hlv781_0 ?_
      refine aw_g hU.1 aj_d276 rfl rfl (by decide) (v := .ref 131) rfl ?_
      refine aw_l0 aj_d276 rfl rfl hlv781_3 ?_
      have ib797 : (x783.toInt).toNat = (x782.toInt).toNat + 1 := by omega
      refine aw_ld (k := 14) hU.1 aj_d276 (Or.inl ⟨rfl, rfl⟩) rfl (by decide) (by decide) rfl (a := x783.toInt) rfl (by omega) (by omega) (fun x798 ex798 => ?_)
      have bx798 : 0 ≤ x798.toInt ∧ x798.toInt ≤ 30 := by
        rw [ex798]
        exact aw_bd_a hs (hI789).1 (k := 14) (by decide) (by decide) rfl (by decide) rfl (by omega)
      have ftx798 : x798.toInt = (S780.2.2.1 14 (x783.toInt).toNat).toInt := congrArg Int32.toInt (ex798.trans (congrFun rfl _))
      rw [ib797] at ftx798
      have jb := J420.2
      refine aw_rem aj_d276 rfl (a := x785.toInt) (b := x798.toInt) rfl rfl (by omega) (by omega) (fun x799 ex799 => ?_)
      have dvx799 := ar_mod (a := x785.toInt) (b := x798.toInt) (by omega)
      rw [← ex799] at dvx799
      refine aw_k hU.1 aj_d276 rfl rfl [_, _] rfl rfl rfl (Nat.le_of_ble_eq_true rfl) (ar_at (by omega) (a := x783.toInt) (b := x799.toInt) rfl rfl (by omega) (by omega)) ?_
      rintro _ zx800 ⟨fx800, x800, rfl, ex800⟩
      rw [fx800]
      show aw_W _ _ _ _ 462 lv781 [.int x800, .ref 136, .int x796, .int x795, .ref 136] _ _
      refine aw_l0 aj_d276 rfl rfl hlv781_6 ?_
      refine aw_add aj_d276 rfl (a := ((x783.toInt * 30 + x799.toInt) * 32)) (b := x786.toInt) ex800 rfl (by omega) (by omega) (fun x801 ex801 => ?_)
      refine aw_ld (k := 19) hU.1 aj_d276 (Or.inl ⟨rfl, rfl⟩) rfl (by decide) (by decide) rfl (a := x801.toInt) rfl (by omega) (by omega) (fun x802 ex802 => ?_)
      refine aw_any aj_d276 rfl rfl (fun x803 ex803 => ?_)
      refine aw_st (k := 19) hU.1 aj_d276 (Or.inl ⟨rfl, rfl⟩) rfl (by decide) (by decide) rfl (a := x795.toInt) rfl (by omega) (by omega) ?_
      have hI804 := aw_I_a (aw_UV hU aw_Gs_sm) (k := 19) (j := (x795.toInt).toNat) (v := aj_nar 0 x803) hI789 (by decide) (by decide) (by decide) rfl (by decide) (by decide) rfl (aw_full _)
      have fr805 := aw_fr_a (k := 19) (j := (x795.toInt).toNat) (v := aj_nar 0 x803) (by decide) fr788
      refine aw_inc aj_d276 rfl hlv781_6 (a := x786.toInt) rfl (by omega) (by omega) (by decide) (by decide) (fun x806 ex806 => ?_)
      obtain ⟨lv807, elv807⟩ : ∃ l, l = aj_set1 lv781 6 (.int x806) := ⟨_, rfl⟩
      rw [← elv807]
      have hlv807_0 : aj_lv lv807 0 = some (.ref 117) := cw_e1 elv807 hlv781_0 (by decide) (Or.inl (by decide))
      have hlv807_1 : aj_lv lv807 1 = some (.int x782) := cw_e1 elv807 hlv781_1 (by decide) (Or.inl (by decide))
      have hlv807_3 : aj_lv lv807 3 = some (.int x783) := cw_e1 elv807 hlv781_3 (by decide) (Or.inl (by decide))
      have hlv807_4 : aj_lv lv807 4 = some (.int x784) := cw_e1 elv807 hlv781_4 (by decide) (Or.inl (by decide))
      have hlv807_5 : aj_lv lv807 5 = some (.int x785) := cw_e1 elv807 hlv781_5 (by decide) (Or.inr rfl)
      have hlv807_6 : aj_lv lv807 6 = some (.int x806) := by rw [elv807]; exact ak_set1_eq _ _ _
      show aw_W _ _ _ _ 471 lv807 [] _ _
      refine aw_n aj_d276 rfl rfl ?_
      exact ihL420_778 (aw_wa S780 19 (x795.toInt).toNat (aj_nar 0 x803)) lv807 (x782) (x783) (x784) (x785) (x806) hlv807_0 hlv807_1 hlv807_3 hlv807_4 hlv807_5 hlv807_6 ⟨(hI804).1, (aw_G_sm hI804.2 hI787.2)⟩ fr805 (by omega) (by omega) (by omega) (by omega) (by omega) (show _ ≤ ((S780.1 30)).toInt by omega) (ar_J_eq rfl rfl rfl J420) (by omega) (by omega) (by rw [show ((aw_wa S780 19 (x795.toInt).toNat (aj_nar 0 x803)).2.2.1 14) = S780.2.2.1 14 from rfl]; omega) (by omega) (by omega)
theorem ar_join_L405_757 (hU : aw_U tb s h) (hd : 4 ≤ d + 1) (x0 : Nat) (hj : ar_JP S x0) (N88 : Nat) (S717 : aj_S) (x719 : Int32) (x720 : Int32) (x721 : Int32) (x722 : Int32) (ihL88_715 : ∀ (S717 : aj_S) (lv718 : aj_V) (x719 : Int32) (x720 : Int32) (x721 : Int32) (x722 : Int32), (aj_lv lv718 0 = some (.ref 117)) → (aj_lv lv718 1 = some (.int x719)) → (aj_lv lv718 3 = some (.int x720)) → (aj_lv lv718 4 = some (.int x721)) → (aj_lv lv718 5 = some (.int x722)) → (aw_I s h (aw_G g) S717) → (aw_fr [24, 25, 31] [14, 15, 16, 17, 18, 19] S S717) → (20 ≤ x719.toInt ∧ x719.toInt ≤ 47) → (21 ≤ x720.toInt ∧ x720.toInt ≤ 48) → (0 ≤ x721.toInt ∧ x721.toInt ≤ 6) → (0 ≤ x722.toInt ∧ x722.toInt ≤ 6) → ((S.1 30).toInt + 0 ≤ (S717.1 30).toInt) → (ar_J S S717 (x719.toInt).toNat) → (x720.toInt = x719.toInt + 1) → (x721.toInt = (S.2.2.1 15 (x719.toInt).toNat).toInt) → (x0 = (x719.toInt).toNat) → (6 - x722.toInt).toNat < N88 → aw_W tb h d aj_m276 88 lv718 [] S717 ((ar_QB s h [24, 25, 31] [14, 15, 16, 17, 18, 19] S (fun S' => aw_G g S' ∧ (S.1 30).toInt ≤ (S'.1 30).toInt) (fun S' => aw_G g S' ∧ (S.1 30).toInt + 0 ≤ (S'.1 30).toInt)))) (hm88 : (6 - x722.toInt).toNat < N88 + 1) (N127 : Nat) (S730 : aj_S) (x732 : Int32) (x733 : Int32) (x734 : Int32) (x735 : Int32) (ihL127_728 : ∀ (S730 : aj_S) (lv731 : aj_V) (x732 : Int32) (x733 : Int32) (x734 : Int32) (x735 : Int32), (aj_lv lv731 0 = some (.ref 117)) → (aj_lv lv731 1 = some (.int x732)) → (aj_lv lv731 3 = some (.int x733)) → (aj_lv lv731 4 = some (.int x734)) → (aj_lv lv731 5 = some (.int x735)) → (aw_I s h (aw_G g) S730) → (aw_fr [24, 25, 31] [14, 15, 16, 17, 18, 19] S S730) → (20 ≤ x732.toInt ∧ x732.toInt ≤ 47) → (21 ≤ x733.toInt ∧ x733.toInt ≤ 48) → (0 ≤ x734.toInt ∧ x734.toInt ≤ 6) → (0 ≤ x735.toInt ∧ x735.toInt ≤ 30) → ((S.1 30).toInt + 0 ≤ (S730.1 30).toInt) → (ar_J S S730 (x732.toInt).toNat) → (x733.toInt = x732.toInt + 1) → (x734.toInt = (S.2.2.1 15 (x732.toInt).toNat).toInt) → (x0 = (x732.toInt).toNat) → (30 - x735.toInt).toNat < N127 → aw_W tb h d aj_m276 127 lv731 [] S730 ((ar_QB s h [24, 25, 31] [14, 15, 16, 17, 18, 19] S (fun S' => aw_G g S' ∧ (S.1 30).toInt ≤ (S'.1 30).toInt) (fun S' => aw_G g S' ∧ (S.1 30).toInt + 0 ≤ (S'.1 30).toInt)))) (hm127 : (30 - x735.toInt).toNat < N127 + 1) (N166 : Nat) (S744 : aj_S) (x746 : Int32) (x747 : Int32) (x748 : Int32) (x749 : Int32) (ihL166_742 : ∀ (S744 : aj_S) (lv745 : aj_V) (x746 : Int32) (x747 : Int32) (x748 : Int32) (x749 : Int32), (aj_lv lv745 0 = some (.ref 117)) → (aj_lv lv745 1 = some (.int x746)) → (aj_lv lv745 3 = some (.int x747)) → (aj_lv lv745 4 = some (.int x748)) → (aj_lv lv745 5 = some (.int x749)) → (aw_I s h (aw_G g) S744) → (aw_fr [24, 25, 31] [14, 15, 16, 17, 18, 19] S S744) → (20 ≤ x746.toInt ∧ x746.toInt ≤ 47) → (21 ≤ x747.toInt ∧ x747.toInt ≤ 48) → (0 ≤ x748.toInt ∧ x748.toInt ≤ 6) → (0 ≤ x749.toInt ∧ x749.toInt ≤ 6) → ((S.1 30).toInt + 0 ≤ (S744.1 30).toInt) → (ar_J S S744 (x746.toInt).toNat) → (x747.toInt = x746.toInt + 1) → (x748.toInt = (S.2.2.1 15 (x746.toInt).toNat).toInt + ar_nw S (x746.toInt).toNat (x749.toInt).toNat) → (x749.toInt ≤ (S.2.2.1 15 ((x746.toInt).toNat + 1)).toInt) → (x0 = (x746.toInt).toNat) → (6 - x749.toInt).toNat < N166 → aw_W tb h d aj_m276 166 lv745 [] S744 ((ar_QB s h [24, 25, 31] [14, 15, 16, 17, 18, 19] S (fun S' => aw_G g S' ∧ (S.1 30).toInt ≤ (S'.1 30).toInt) (fun S' => aw_G g S' ∧ (S.1 30).toInt + 0 ≤ (S'.1 30).toInt)))) (hm166 : (6 - x749.toInt).toNat < N166 + 1) : ∀ (N : Nat) (S759 : aj_S) (lv760 : aj_V) (x761 : Int32) (x762 : Int32) (x763 : Int32) (x764 : Int32), (aj_lv lv760 0 = some (.ref 117)) → (aj_lv lv760 1 = some (.int x761)) → (aj_lv lv760 3 = some (.int x762)) → (aj_lv lv760 4 = some (.int x763)) → (aj_lv lv760 5 = some (.int x764)) → (aw_I s h (aw_G g) S759) → (aw_fr [24, 25, 31] [14, 15, 16, 17, 18, 19] S S759) → (20 ≤ x761.toInt ∧ x761.toInt ≤ 47) → (21 ≤ x762.toInt ∧ x762.toInt ≤ 48) → (0 ≤ x763.toInt ∧ x763.toInt ≤ 6) → (0 ≤ x764.toInt ∧ x764.toInt ≤ 30) → ((S.1 30).toInt + 0 ≤ (S759.1 30).toInt) → (ar_J S S759 (x761.toInt).toNat) → (x762.toInt = x761.toInt + 1) → (x0 = (x761.toInt).toNat) → (30 - x764.toInt).toNat < N → aw_W tb h d aj_m276 405 lv760 [] S759 ((ar_QB s h [24, 25, 31] [14, 15, 16, 17, 18, 19] S (fun S' => aw_G g S' ∧ (S.1 30).toInt ≤ (S'.1 30).toInt) (fun S' => aw_G g S' ∧ (S.1 30).toInt + 0 ≤ (S'.1 30).toInt))) := by
  have hs : aw_sT s := aw_hy_sT hU.2.2
  intro N405
  induction N405 with
  | zero =>
    intro S759 lv760 x761 x762 x763 x764 hlv760_0 hlv760_1 hlv760_3 hlv760_4 hlv760_5 hI765 fr766 bx761 bx762 bx763 bx764 ck405 J405 b405 x405 hm405
    omega
  | succ N405 ihL405_757 =>
    intro S759 lv760 x761 x762 x763 x764 hlv760_0 hlv760_1 hlv760_3 hlv760_4 hlv760_5 hI765 fr766 bx761 bx762 bx763 bx764 ck405 J405 b405 x405 hm405
    have hI767 : aw_I s h (aw_sm S759) S759 := ⟨hI765.1, aw_sm_rf⟩
    have b768 : 0 ≤ (S759.1 30).toInt ∧ (S759.1 30).toInt ≤ 1001 := aw_bd_f hs (hI767).1 (by decide) rfl
    have hjx := hj
    rw [x405] at hjx
    obtain ⟨hj1, hj2, hj3⟩ := hjx
    refine aw_l0 aj_d276 rfl rfl hlv760_5 ?_
    refine aw_l2 aj_d276 rfl rfl hlv760_0 ?_
    refine aw_g hU.1 aj_d276 rfl rfl (by decide) (v := .ref 131) rfl ?_
    refine aw_n aj_d276 rfl rfl ?_
    refine aw_ld (k := 14) hU.1 aj_d276 (Or.inl ⟨rfl, rfl⟩) rfl (by decide) (by decide) rfl (a := (49 : Int)) rfl (by omega) (by omega) (fun x769 ex769 => ?_)
    have bx769 : 0 ≤ x769.toInt ∧ x769.toInt ≤ 30 := by
      rw [ex769]
      exact aw_bd_a hs (hI767).1 (k := 14) (by decide) (by decide) rfl (by decide) rfl (by omega)
    have ftx769 : x769.toInt = (S759.2.2.1 14 49).toInt := congrArg Int32.toInt (ex769.trans (congrFun rfl _))
    refine aw_c (tgt := 480) aj_d276 rfl rfl (fun q770 => ?_) (fun q770 => ?_)
    · have q770 : x764.toInt ≥ x769.toInt := aw_t_ge (a := x764.toInt) (b := x769.toInt) rfl rfl q770
      refine aw_l2 aj_d276 rfl rfl hlv760_0 ?_
      refine aw_g hU.1 aj_d276 rfl rfl (by decide) (v := .ref 132) rfl ?_
      refine aw_n aj_d276 rfl rfl ?_
      refine aw_l0 aj_d276 rfl rfl hlv760_4 ?_
      refine aw_st (k := 15) hU.1 aj_d276 (Or.inl ⟨rfl, rfl⟩) rfl (by decide) (by decide) rfl (a := (49 : Int)) rfl (by omega) (by omega) ?_
      have hI771 := aw_I_a (aw_UV hU aw_Gs_sm) (k := 15) (j := ((49 : Int)).toNat) (v := aj_nar 0 x763) hI767 (by decide) (by decide) (by decide) rfl (by decide) (by decide) rfl (aw_bp (a := x763.toInt) rfl (by omega) (by omega))
      have fr772 := aw_fr_a (k := 15) (j := ((49 : Int)).toNat) (v := aj_nar 0 x763) (by decide) fr766
      refine aw_l2 aj_d276 rfl rfl hlv760_0 ?_
      refine aw_n aj_d276 rfl rfl ?_
      refine aw_l0 aj_d276 rfl rfl hlv760_1 ?_
      refine aw_k hU.1 aj_d276 rfl rfl [_, _] rfl rfl rfl (Nat.le_of_ble_eq_true rfl) (aw_toK hU aw_Gs_G (con := ac_c251) (by omega) (ar_251 hU.2.1 (aw_SPc hU.2.2 aw_Gs_G) aw_kpc (arc_252 hU)) ⟨(hI771).1, (aw_G_sm hI771.2 hI765.2)⟩ ⟨(aw_g117 hU.2.2), (cw_gw (a := (49 : Int)) rfl (by omega) (by omega)), (cw_gw (a := x761.toInt) rfl (by omega) (by omega)), trivial⟩ (fun e he => nomatch he)) ?_
      rintro r773 S773 ⟨hr773, hJ773, fc773, po773, -⟩
      have hT773 := hJ773.1
      replace fc773 := aw_fr_sub (F' := []) (A' := [14, 15, 16, 17, 18, 19]) (by decide) (by decide) fc773
      have fr774 := aw_fr_tr fr772 (aw_fr_sub (F := []) (A := [14, 15, 16, 17, 18, 19]) (by decide) (by decide) fc773)
      have hI775 : aw_I s h (aw_sm S773) S773 := ⟨hT773, aw_sm_rf⟩
      obtain rfl := cw_rN hr773
      show aw_W _ _ _ _ 496 lv760 [] _ _
      refine aw_n aj_d276 rfl rfl ?_
      refine aw_e aj_d276 rfl rfl ?_
      have c776 : (S773.1 30).toInt = (S759.1 30).toInt := (congrArg Int32.toInt (fc773.1 30 (by decide)).1).trans rfl
      have b777 : 0 ≤ (S773.1 30).toInt ∧ (S773.1 30).toInt ≤ 1001 := aw_bd_f hs (hI775).1 (by decide) rfl
      exact ⟨(hI775).1, fr774, Or.inr ⟨_, rfl, rfl, hJ773.2, (show _ + 0 ≤ ((S773.1 30)).toInt by omega)⟩⟩
    · have q770 : x764.toInt < x769.toInt := aw_t_ge (a := x764.toInt) (b := x769.toInt) rfl rfl q770
      refine aw_n aj_d276 rfl rfl ?_
      refine aw_t0 (j := 6) aj_d276 rfl (by decide) rfl ?_
      obtain ⟨lv778, elv778⟩ : ∃ l, l = aj_set1 lv760 6 (.int (Int32.ofInt 0)) := ⟨_, rfl⟩
      rw [← elv778]
      have hlv778_0 : aj_lv lv778 0 = some (.ref 117) := cw_e1 elv778 hlv760_0 (by decide) (Or.inl (by decide))
      have hlv778_1 : aj_lv lv778 1 = some (.int x761) := cw_e1 elv778 hlv760_1 (by decide) (Or.inl (by decide))
      have hlv778_3 : aj_lv lv778 3 = some (.int x762) := cw_e1 elv778 hlv760_3 (by decide) (Or.inl (by decide))
      have hlv778_4 : aj_lv lv778 4 = some (.int x763) := cw_e1 elv778 hlv760_4 (by decide) (Or.inl (by decide))
      have hlv778_5 : aj_lv lv778 5 = some (.int x764) := cw_e1 elv778 hlv760_5 (by decide) (Or.inr rfl)
      have hlv778_6 : aj_lv lv778 6 = some (.int (Int32.ofInt 0)) := by rw [elv778]; exact ak_set1_eq _ _ _
      show aw_W _ _ _ _ 420 lv778 [] _ _
      exact (ar_join_L420_778 hU hd x0 hj N88 S717 x719 x720 x721 x722 ihL88_715 hm88 N127 S730 x732 x733 x734 x735 ihL127_728 hm127 N166 S744 x746 x747 x748 x749 ihL166_742 hm166 N405 S759 x761 x762 x763 x764 ihL405_757 hm405) _ S759 lv778 (x761) (x762) (x763) (x764) ((Int32.ofInt 0)) hlv778_0 hlv778_1 hlv778_3 hlv778_4 hlv778_5 hlv778_6 ⟨(hI767).1, hI765.2⟩ fr766 (by omega) (by omega) (by omega) (by omega) (by first | omega | decide) (show _ ≤ ((S759.1 30)).toInt by omega) J405 (by omega) (by omega) (by rw [show (S759.2.2.1 14) = S759.2.2.1 14 from rfl]; omega) (by omega) (Nat.lt_succ_self _)
theorem ar_join_L225_848 (hU : aw_U tb s h) (hd : 4 ≤ d + 1) (x0 : Nat) (hj : ar_JP S x0) (N88 : Nat) (S717 : aj_S) (x719 : Int32) (x720 : Int32) (x721 : Int32) (x722 : Int32) (ihL88_715 : ∀ (S717 : aj_S) (lv718 : aj_V) (x719 : Int32) (x720 : Int32) (x721 : Int32) (x722 : Int32), (aj_lv lv718 0 = some (.ref 117)) → (aj_lv lv718 1 = some (.int x719)) → (aj_lv lv718 3 = some (.int x720)) → (aj_lv lv718 4 = some (.int x721)) → (aj_lv lv718 5 = some (.int x722)) → (aw_I s h (aw_G g) S717) → (aw_fr [24, 25, 31] [14, 15, 16, 17, 18, 19] S S717) → (20 ≤ x719.toInt ∧ x719.toInt ≤ 47) → (21 ≤ x720.toInt ∧ x720.toInt ≤ 48) → (0 ≤ x721.toInt ∧ x721.toInt ≤ 6) → (0 ≤ x722.toInt ∧ x722.toInt ≤ 6) → ((S.1 30).toInt + 0 ≤ (S717.1 30).toInt) → (ar_J S S717 (x719.toInt).toNat) → (x720.toInt = x719.toInt + 1) → (x721.toInt = (S.2.2.1 15 (x719.toInt).toNat).toInt) → (x0 = (x719.toInt).toNat) → (6 - x722.toInt).toNat < N88 → aw_W tb h d aj_m276 88 lv718 [] S717 ((ar_QB s h [24, 25, 31] [14, 15, 16, 17, 18, 19] S (fun S' => aw_G g S' ∧ (S.1 30).toInt ≤ (S'.1 30).toInt) (fun S' => aw_G g S' ∧ (S.1 30).toInt + 0 ≤ (S'.1 30).toInt)))) (hm88 : (6 - x722.toInt).toNat < N88 + 1) (N127 : Nat) (S730 : aj_S) (x732 : Int32) (x733 : Int32) (x734 : Int32) (x735 : Int32) (ihL127_728 : ∀ (S730 : aj_S) (lv731 : aj_V) (x732 : Int32) (x733 : Int32) (x734 : Int32) (x735 : Int32), (aj_lv lv731 0 = some (.ref 117)) → (aj_lv lv731 1 = some (.int x732)) → (aj_lv lv731 3 = some (.int x733)) → (aj_lv lv731 4 = some (.int x734)) → (aj_lv lv731 5 = some (.int x735)) → (aw_I s h (aw_G g) S730) → (aw_fr [24, 25, 31] [14, 15, 16, 17, 18, 19] S S730) → (20 ≤ x732.toInt ∧ x732.toInt ≤ 47) → (21 ≤ x733.toInt ∧ x733.toInt ≤ 48) → (0 ≤ x734.toInt ∧ x734.toInt ≤ 6) → (0 ≤ x735.toInt ∧ x735.toInt ≤ 30) → ((S.1 30).toInt + 0 ≤ (S730.1 30).toInt) → (ar_J S S730 (x732.toInt).toNat) → (x733.toInt = x732.toInt + 1) → (x734.toInt = (S.2.2.1 15 (x732.toInt).toNat).toInt) → (x0 = (x732.toInt).toNat) → (30 - x735.toInt).toNat < N127 → aw_W tb h d aj_m276 127 lv731 [] S730 ((ar_QB s h [24, 25, 31] [14, 15, 16, 17, 18, 19] S (fun S' => aw_G g S' ∧ (S.1 30).toInt ≤ (S'.1 30).toInt) (fun S' => aw_G g S' ∧ (S.1 30).toInt + 0 ≤ (S'.1 30).toInt)))) (hm127 : (30 - x735.toInt).toNat < N127 + 1) (N166 : Nat) (S744 : aj_S) (x746 : Int32) (x747 : Int32) (x748 : Int32) (x749 : Int32) (ihL166_742 : ∀ (S744 : aj_S) (lv745 : aj_V) (x746 : Int32) (x747 : Int32) (x748 : Int32) (x749 : Int32), (aj_lv lv745 0 = some (.ref 117)) → (aj_lv lv745 1 = some (.int x746)) → (aj_lv lv745 3 = some (.int x747)) → (aj_lv lv745 4 = some (.int x748)) → (aj_lv lv745 5 = some (.int x749)) → (aw_I s h (aw_G g) S744) → (aw_fr [24, 25, 31] [14, 15, 16, 17, 18, 19] S S744) → (20 ≤ x746.toInt ∧ x746.toInt ≤ 47) → (21 ≤ x747.toInt ∧ x747.toInt ≤ 48) → (0 ≤ x748.toInt ∧ x748.toInt ≤ 6) → (0 ≤ x749.toInt ∧ x749.toInt ≤ 6) → ((S.1 30).toInt + 0 ≤ (S744.1 30).toInt) → (ar_J S S744 (x746.toInt).toNat) → (x747.toInt = x746.toInt + 1) → (x748.toInt = (S.2.2.1 15 (x746.toInt).toNat).toInt + ar_nw S (x746.toInt).toNat (x749.toInt).toNat) → (x749.toInt ≤ (S.2.2.1 15 ((x746.toInt).toNat + 1)).toInt) → (x0 = (x746.toInt).toNat) → (6 - x749.toInt).toNat < N166 → aw_W tb h d aj_m276 166 lv745 [] S744 ((ar_QB s h [24, 25, 31] [14, 15, 16, 17, 18, 19] S (fun S' => aw_G g S' ∧ (S.1 30).toInt ≤ (S'.1 30).toInt) (fun S' => aw_G g S' ∧ (S.1 30).toInt + 0 ≤ (S'.1 30).toInt)))) (hm166 : (6 - x749.toInt).toNat < N166 + 1) (N199 : Nat) (S815 : aj_S) (x817 : Int32) (x818 : Int32) (x819 : Int32) (x820 : Int32) (x821 : Int32) (x822 : Int32) (ihL199_813 : ∀ (S815 : aj_S) (lv816 : aj_V) (x817 : Int32) (x818 : Int32) (x819 : Int32) (x820 : Int32) (x821 : Int32) (x822 : Int32), (aj_lv lv816 0 = some (.ref 117)) → (aj_lv lv816 1 = some (.int x817)) → (aj_lv lv816 3 = some (.int x818)) → (aj_lv lv816 4 = some (.int x819)) → (aj_lv lv816 5 = some (.int x820)) → (aj_lv lv816 6 = some (.int x821)) → (aj_lv lv816 7 = some (.int x822)) → (aw_I s h (aw_G g) S815) → (aw_fr [24, 25, 31] [14, 15, 16, 17, 18, 19] S S815) → (20 ≤ x817.toInt ∧ x817.toInt ≤ 47) → (21 ≤ x818.toInt ∧ x818.toInt ≤ 48) → (0 ≤ x819.toInt ∧ x819.toInt ≤ 6) → (0 ≤ x820.toInt ∧ x820.toInt ≤ 5) → ((-1) ≤ x821.toInt ∧ x821.toInt ≤ 5) → (0 ≤ x822.toInt ∧ x822.toInt ≤ 30) → ((S.1 30).toInt + 0 ≤ (S815.1 30).toInt) → (ar_J S S815 (x817.toInt).toNat) → (x818.toInt = x817.toInt + 1) → (x819.toInt = (S.2.2.1 15 (x817.toInt).toNat).toInt + ar_nw S (x817.toInt).toNat (x820.toInt).toNat) → (x820.toInt + 1 ≤ (S.2.2.1 15 ((x817.toInt).toNat + 1)).toInt) → (((0 ≤ x821.toInt ∧ ar_nw S (x817.toInt).toNat ((x820.toInt).toNat + 1) = ar_nw S (x817.toInt).toNat (x820.toInt).toNat) ∨ (x821.toInt = -1 ∧ ar_nw S (x817.toInt).toNat ((x820.toInt).toNat + 1) = ar_nw S (x817.toInt).toNat (x820.toInt).toNat + 1))) → (x820.toInt = x749.toInt) → (x0 = (x817.toInt).toNat) → (30 - x822.toInt).toNat < N199 → aw_W tb h d aj_m276 199 lv816 [] S815 ((ar_QB s h [24, 25, 31] [14, 15, 16, 17, 18, 19] S (fun S' => aw_G g S' ∧ (S.1 30).toInt ≤ (S'.1 30).toInt) (fun S' => aw_G g S' ∧ (S.1 30).toInt + 0 ≤ (S'.1 30).toInt)))) (hm199 : (30 - x822.toInt).toNat < N199 + 1) : ∀ (N : Nat) (S850 : aj_S) (lv851 : aj_V) (x852 : Int32) (x853 : Int32) (x854 : Int32) (x855 : Int32) (x856 : Int32) (x857 : Int32) (x858 : Int32) (x859 : Int32), (aj_lv lv851 0 = some (.ref 117)) → (aj_lv lv851 1 = some (.int x852)) → (aj_lv lv851 3 = some (.int x853)) → (aj_lv lv851 4 = some (.int x854)) → (aj_lv lv851 5 = some (.int x855)) → (aj_lv lv851 6 = some (.int x856)) → (aj_lv lv851 7 = some (.int x857)) → (aj_lv lv851 8 = some (.int x858)) → (aj_lv lv851 9 = some (.int x859)) → (aw_I s h (aw_G g) S850) → (aw_fr [24, 25, 31] [14, 15, 16, 17, 18, 19] S S850) → (20 ≤ x852.toInt ∧ x852.toInt ≤ 47) → (21 ≤ x853.toInt ∧ x853.toInt ≤ 48) → (0 ≤ x854.toInt ∧ x854.toInt ≤ 6) → (0 ≤ x855.toInt ∧ x855.toInt ≤ 5) → ((-1) ≤ x856.toInt ∧ x856.toInt ≤ 5) → (0 ≤ x857.toInt ∧ x857.toInt ≤ 29) → (0 ≤ x858.toInt ∧ x858.toInt ≤ 29) → (0 ≤ x859.toInt ∧ x859.toInt ≤ 1024) → ((S.1 30).toInt + 0 ≤ (S850.1 30).toInt) → (ar_J S S850 (x852.toInt).toNat) → (x853.toInt = x852.toInt + 1) → (x854.toInt = (S.2.2.1 15 (x852.toInt).toNat).toInt + ar_nw S (x852.toInt).toNat (x855.toInt).toNat) → (x855.toInt + 1 ≤ (S.2.2.1 15 ((x852.toInt).toNat + 1)).toInt) → (((0 ≤ x856.toInt ∧ ar_nw S (x852.toInt).toNat ((x855.toInt).toNat + 1) = ar_nw S (x852.toInt).toNat (x855.toInt).toNat) ∨ (x856.toInt = -1 ∧ ar_nw S (x852.toInt).toNat ((x855.toInt).toNat + 1) = ar_nw S (x852.toInt).toNat (x855.toInt).toNat + 1))) → (x855.toInt = x749.toInt) → (x857.toInt = x822.toInt) → (x857.toInt < (S850.2.2.1 14 49).toInt) → (x0 = (x852.toInt).toNat) → (1024 - x859.toInt).toNat < N → aw_W tb h d aj_m276 225 lv851 [] S850 ((ar_QB s h [24, 25, 31] [14, 15, 16, 17, 18, 19] S (fun S' => aw_G g S' ∧ (S.1 30).toInt ≤ (S'.1 30).toInt) (fun S' => aw_G g S' ∧ (S.1 30).toInt + 0 ≤ (S'.1 30).toInt))) := by
  have hs : aw_sT s := aw_hy_sT hU.2.2
  intro N225
  induction N225 with
  | zero =>
    intro S850 lv851 x852 x853 x854 x855 x856 x857 x858 x859 hlv851_0 hlv851_1 hlv851_3 hlv851_4 hlv851_5 hlv851_6 hlv851_7 hlv851_8 hlv851_9 hI860 fr861 bx852 bx853 bx854 bx855 bx856 bx857 bx858 bx859 ck225 J225 b225 n225 c225 s225 o225 e225 r225 x225 hm225
    omega
  | succ N225 ihL225_848 =>
    intro S850 lv851 x852 x853 x854 x855 x856 x857 x858 x859 hlv851_0 hlv851_1 hlv851_3 hlv851_4 hlv851_5 hlv851_6 hlv851_7 hlv851_8 hlv851_9 hI860 fr861 bx852 bx853 bx854 bx855 bx856 bx857 bx858 bx859 ck225 J225 b225 n225 c225 s225 o225 e225 r225 x225 hm225
    have hI862 : aw_I s h (aw_sm S850) S850 := ⟨hI860.1, aw_sm_rf⟩
    have b863 : 0 ≤ (S850.1 30).toInt ∧ (S850.1 30).toInt ≤ 1001 := aw_bd_f hs (hI862).1 (by decide) rfl
    have hjx := hj
    rw [x225] at hjx
    obtain ⟨hj1, hj2, hj3⟩ := hjx
    have nwl : ∀ c : Nat, (c : Int) ≤ (S.2.2.1 15 ((x852.toInt).toNat + 1)).toInt → ar_nw S (x852.toInt).toNat c ≤ ar_nw S (x852.toInt).toNat ((S.2.2.1 15 ((x852.toInt).toNat + 1)).toInt).toNat := fun c hc => ar_nw_le (by omega)
    have nwc := nwl ((x855.toInt).toNat + 1) (by omega)
    refine aw_l0 aj_d276 rfl rfl hlv851_9 ?_
    refine aw_l2 aj_d276 rfl rfl hlv851_0 ?_
    refine aw_g hU.1 aj_d276 rfl rfl (by decide) (v := .ref 122) rfl ?_
    refine aw_l2 aj_d276 rfl rfl hlv851_0 ?_
    have b864 : 0 ≤ (S850.1 37).toInt ∧ (S850.1 37).toInt ≤ 1 := aw_bd_f hs (hI862).1 (by decide) rfl
    refine aw_g hU.1 aj_d276 rfl rfl (by decide) (v := .int (S850.1 37)) rfl ?_
    refine aw_ld (k := 5) hU.1 aj_d276 (Or.inl ⟨rfl, rfl⟩) rfl (by decide) (by decide) rfl (a := (S850.1 37).toInt) rfl (by omega) (by omega) (fun x865 ex865 => ?_)
    have bx865 : 0 ≤ x865.toInt ∧ x865.toInt ≤ 1024 := by
      rw [ex865]
      exact aw_bd_a hs (hI862).1 (k := 5) (by decide) (by decide) rfl (by decide) rfl (by omega)
    refine aw_c (tgt := 300) aj_d276 rfl rfl (fun q866 => ?_) (fun q866 => ?_)
    · have q866 : x859.toInt ≥ x865.toInt := aw_t_ge (a := x859.toInt) (b := x865.toInt) rfl rfl q866
      refine aw_l0 aj_d276 rfl rfl hlv851_6 ?_
      refine aw_z (tgt := 359) aj_d276 rfl rfl (fun q867 => ?_) (fun q867 => ?_)
      · have q867 : x856.toInt ≥ (0 : Int) := aw_t_ge (a := x856.toInt) (b := (0 : Int)) rfl rfl q867
        refine aw_inc aj_d276 rfl hlv851_7 (a := x857.toInt) rfl (by omega) (by omega) (by decide) (by decide) (fun x868 ex868 => ?_)
        obtain ⟨lv869, elv869⟩ : ∃ l, l = aj_set1 lv851 7 (.int x868) := ⟨_, rfl⟩
        rw [← elv869]
        have hlv869_0 : aj_lv lv869 0 = some (.ref 117) := cw_e1 elv869 hlv851_0 (by decide) (Or.inl (by decide))
        have hlv869_1 : aj_lv lv869 1 = some (.int x852) := cw_e1 elv869 hlv851_1 (by decide) (Or.inl (by decide))
        have hlv869_3 : aj_lv lv869 3 = some (.int x853) := cw_e1 elv869 hlv851_3 (by decide) (Or.inl (by decide))
        have hlv869_4 : aj_lv lv869 4 = some (.int x854) := cw_e1 elv869 hlv851_4 (by decide) (Or.inl (by decide))
        have hlv869_5 : aj_lv lv869 5 = some (.int x855) := cw_e1 elv869 hlv851_5 (by decide) (Or.inl (by decide))
        have hlv869_6 : aj_lv lv869 6 = some (.int x856) := cw_e1 elv869 hlv851_6 (by decide) (Or.inr rfl)
        have hlv869_7 : aj_lv lv869 7 = some (.int x868) := by rw [elv869]; exact ak_set1_eq _ _ _
        show aw_W _ _ _ _ 362 lv869 [] _ _
        refine aw_n aj_d276 rfl rfl ?_
        exact ihL199_813 S850 lv869 (x852) (x853) (x854) (x855) (x856) (x868) hlv869_0 hlv869_1 hlv869_3 hlv869_4 hlv869_5 hlv869_6 hlv869_7 ⟨(hI862).1, hI860.2⟩ fr861 (by omega) (by omega) (by omega) (by omega) (by omega) (by omega) (show _ ≤ ((S850.1 30)).toInt by omega) J225 (by omega) (by omega) (by omega) (by omega) (by omega) (by omega) (by omega)
      · have q867 : x856.toInt < (0 : Int) := aw_t_ge (a := x856.toInt) (b := (0 : Int)) rfl rfl q867
        refine aw_l2 aj_d276 rfl rfl hlv851_0 ?_
        refine aw_g hU.1 aj_d276 rfl rfl (by decide) (v := .ref 134) rfl ?_
        refine aw_n aj_d276 rfl rfl ?_
        refine aw_l0 aj_d276 rfl rfl hlv851_7 ?_
        refine aw_l0 aj_d276 rfl rfl hlv851_4 ?_
        refine aw_ks aj_d276 rfl rfl rfl [_, _, _] rfl rfl (Nat.le_of_ble_eq_true rfl) (ar_cellAt (by omega) (a := (49 : Int)) (b := x857.toInt) (c := x854.toInt) rfl rfl rfl (by omega) (by omega) (by omega)) ?_
        rintro _ zx870 ⟨fx870, x870, rfl, ex870⟩
        rw [fx870]
        show aw_W _ _ _ _ 318 lv851 [.int x870, .ref 134] _ _
        refine aw_l2 aj_d276 rfl rfl hlv851_0 ?_
        refine aw_g hU.1 aj_d276 rfl rfl (by decide) (v := .ref 134) rfl ?_
        refine aw_l0 aj_d276 rfl rfl hlv851_3 ?_
        refine aw_l0 aj_d276 rfl rfl hlv851_8 ?_
        refine aw_l0 aj_d276 rfl rfl hlv851_5 ?_
        refine aw_ks aj_d276 rfl rfl rfl [_, _, _] rfl rfl (Nat.le_of_ble_eq_true rfl) (ar_cellAt (by omega) (a := x853.toInt) (b := x858.toInt) (c := x855.toInt) rfl rfl rfl (by omega) (by omega) (by omega)) ?_
        rintro _ zx871 ⟨fx871, x871, rfl, ex871⟩
        rw [fx871]
        show aw_W _ _ _ _ 330 lv851 [.int x871, .ref 134, .int x870, .ref 134] _ _
        refine aw_ld (k := 17) hU.1 aj_d276 (Or.inr (Or.inr (Or.inr ⟨rfl, rfl⟩))) rfl (by decide) (by decide) rfl (a := ((x853.toInt * 30 + x858.toInt) * 8 + x855.toInt)) ex871 (by omega) (by omega) (fun x872 ex872 => ?_)
        have bx872 : 0 ≤ x872.toInt ∧ x872.toInt ≤ 1 := by
          rw [ex872]
          exact aw_bd_a hs (hI862).1 (k := 17) (by decide) (by decide) rfl (by decide) rfl (by omega)
        refine aw_st (k := 17) hU.1 aj_d276 (Or.inr (Or.inr (Or.inr ⟨rfl, rfl⟩))) rfl (by decide) (by decide) rfl (a := (((49 : Int) * 30 + x857.toInt) * 8 + x854.toInt)) ex870 (by omega) (by omega) ?_
        have hI873 : aw_I s h (aw_sm (aw_wa S850 17 ((((49 : Int) * 30 + x857.toInt) * 8 + x854.toInt)).toNat (aj_nar 4 x872))) (aw_wa S850 17 ((((49 : Int) * 30 + x857.toInt) * 8 + x854.toInt)).toNat (aj_nar 4 x872)) := ⟨aw_T_a hU.2.1 hs hU.1.1 (hI862).1 (by decide) (by decide) rfl (by decide) (by decide) rfl (aw_nar4 (aw_bp (a := x872.toInt) rfl (by omega) (by omega)) (by decide) (by decide)), aw_sm_rf⟩
        have fr874 := aw_fr_a (k := 17) (j := ((((49 : Int) * 30 + x857.toInt) * 8 + x854.toInt)).toNat) (v := aj_nar 4 x872) (by decide) fr861
        refine aw_l2 aj_d276 rfl rfl hlv851_0 ?_
        refine aw_g hU.1 aj_d276 rfl rfl (by decide) (v := .ref 135) rfl ?_
        refine aw_n aj_d276 rfl rfl ?_
        refine aw_l0 aj_d276 rfl rfl hlv851_7 ?_
        refine aw_l0 aj_d276 rfl rfl hlv851_4 ?_
        refine aw_ks aj_d276 rfl rfl rfl [_, _, _] rfl rfl (Nat.le_of_ble_eq_true rfl) (ar_cellAt (by omega) (a := (49 : Int)) (b := x857.toInt) (c := x854.toInt) rfl rfl rfl (by omega) (by omega) (by omega)) ?_
        rintro _ zx875 ⟨fx875, x875, rfl, ex875⟩
        rw [fx875]
        show aw_W _ _ _ _ 345 lv851 [.int x875, .ref 135] _ _
        refine aw_l2 aj_d276 rfl rfl hlv851_0 ?_
        refine aw_g hU.1 aj_d276 rfl rfl (by decide) (v := .ref 135) rfl ?_
        refine aw_l0 aj_d276 rfl rfl hlv851_3 ?_
        refine aw_l0 aj_d276 rfl rfl hlv851_8 ?_
        refine aw_l0 aj_d276 rfl rfl hlv851_5 ?_
        refine aw_ks aj_d276 rfl rfl rfl [_, _, _] rfl rfl (Nat.le_of_ble_eq_true rfl) (ar_cellAt (by omega) (a := x853.toInt) (b := x858.toInt) (c := x855.toInt) rfl rfl rfl (by omega) (by omega) (by omega)) ?_
        rintro _ zx876 ⟨fx876, x876, rfl, ex876⟩
        rw [fx876]
        show aw_W _ _ _ _ 357 lv851 [.int x876, .ref 135, .int x875, .ref 135] _ _
        refine aw_ld (k := 18) hU.1 aj_d276 (Or.inl ⟨rfl, rfl⟩) rfl (by decide) (by decide) rfl (a := ((x853.toInt * 30 + x858.toInt) * 8 + x855.toInt)) ex876 (by omega) (by omega) (fun x877 ex877 => ?_)
        refine aw_st (k := 18) hU.1 aj_d276 (Or.inl ⟨rfl, rfl⟩) rfl (by decide) (by decide) rfl (a := (((49 : Int) * 30 + x857.toInt) * 8 + x854.toInt)) ex875 (by omega) (by omega) ?_
        have hI878 : aw_I s h (aw_sm (aw_wa (aw_wa S850 17 ((((49 : Int) * 30 + x857.toInt) * 8 + x854.toInt)).toNat (aj_nar 4 x872)) 18 ((((49 : Int) * 30 + x857.toInt) * 8 + x854.toInt)).toNat (aj_nar 0 x877))) (aw_wa (aw_wa S850 17 ((((49 : Int) * 30 + x857.toInt) * 8 + x854.toInt)).toNat (aj_nar 4 x872)) 18 ((((49 : Int) * 30 + x857.toInt) * 8 + x854.toInt)).toNat (aj_nar 0 x877)) := ⟨aw_T_a hU.2.1 hs hU.1.1 (hI873).1 (by decide) (by decide) rfl (by decide) (by decide) rfl (aw_full _), aw_sm_rf⟩
        have fr879 := aw_fr_a (k := 18) (j := ((((49 : Int) * 30 + x857.toInt) * 8 + x854.toInt)).toNat) (v := aj_nar 0 x877) (by decide) fr874
        have hG880 := aw_G_sk (S' := (aw_wa (aw_wa S850 17 ((((49 : Int) * 30 + x857.toInt) * 8 + x854.toInt)).toNat (aj_nar 4 x872)) 18 ((((49 : Int) * 30 + x857.toInt) * 8 + x854.toInt)).toNat (aj_nar 0 x877))) hI860.2 (aw_sk_2 aw_sk_rf) (aw_kv_2 (aw_G_B hI860.2).1 (by first | rfl | (congr 1) | omega) (by
            rw [aw_nar4_01 (by omega)]
            intro z
            have y := (aw_G_B hI860.2).1 (((x853.toInt * 30 + x858.toInt) * 8 + x855.toInt)).toNat (by omega) (by rw [ex872] at z; exact z)
            have hx : (((x853.toInt * 30 + x858.toInt) * 8 + x855.toInt)).toNat = (((x853.toInt * 30 + x858.toInt) * 8 + x855.toInt)).toNat := by omega
            show 0 ≤ (x877).toInt ∧ (x877).toInt ≤ 7
            rw [ex877]
            show 0 ≤ (S850.2.2.1 18 (((x853.toInt * 30 + x858.toInt) * 8 + x855.toInt)).toNat).toInt ∧ (S850.2.2.1 18 (((x853.toInt * 30 + x858.toInt) * 8 + x855.toInt)).toNat).toInt ≤ 7
            rw [hx]
            exact y))
        have hI881 : aw_I s h (aw_sm (aw_wa (aw_wa S850 17 ((((49 : Int) * 30 + x857.toInt) * 8 + x854.toInt)).toNat (aj_nar 4 x872)) 18 ((((49 : Int) * 30 + x857.toInt) * 8 + x854.toInt)).toNat (aj_nar 0 x877))) (aw_wa (aw_wa S850 17 ((((49 : Int) * 30 + x857.toInt) * 8 + x854.toInt)).toNat (aj_nar 4 x872)) 18 ((((49 : Int) * 30 + x857.toInt) * 8 + x854.toInt)).toNat (aj_nar 0 x877)) := ⟨(hI878).1, aw_sm_rf⟩
        refine aw_inc aj_d276 rfl hlv851_7 (a := x857.toInt) rfl (by omega) (by omega) (by decide) (by decide) (fun x882 ex882 => ?_)
        obtain ⟨lv883, elv883⟩ : ∃ l, l = aj_set1 lv851 7 (.int x882) := ⟨_, rfl⟩
        rw [← elv883]
        have hlv883_0 : aj_lv lv883 0 = some (.ref 117) := cw_e1 elv883 hlv851_0 (by decide) (Or.inl (by decide))
        have hlv883_1 : aj_lv lv883 1 = some (.int x852) := cw_e1 elv883 hlv851_1 (by decide) (Or.inl (by decide))
        have hlv883_3 : aj_lv lv883 3 = some (.int x853) := cw_e1 elv883 hlv851_3 (by decide) (Or.inl (by decide))
        have hlv883_4 : aj_lv lv883 4 = some (.int x854) := cw_e1 elv883 hlv851_4 (by decide) (Or.inl (by decide))
        have hlv883_5 : aj_lv lv883 5 = some (.int x855) := cw_e1 elv883 hlv851_5 (by decide) (Or.inl (by decide))
        have hlv883_6 : aj_lv lv883 6 = some (.int x856) := cw_e1 elv883 hlv851_6 (by decide) (Or.inr rfl)
        have hlv883_7 : aj_lv lv883 7 = some (.int x882) := by rw [elv883]; exact ak_set1_eq _ _ _
        show aw_W _ _ _ _ 362 lv883 [] _ _
        refine aw_n aj_d276 rfl rfl ?_
        exact ihL199_813 (aw_wa (aw_wa S850 17 ((((49 : Int) * 30 + x857.toInt) * 8 + x854.toInt)).toNat (aj_nar 4 x872)) 18 ((((49 : Int) * 30 + x857.toInt) * 8 + x854.toInt)).toNat (aj_nar 0 x877)) lv883 (x852) (x853) (x854) (x855) (x856) (x882) hlv883_0 hlv883_1 hlv883_3 hlv883_4 hlv883_5 hlv883_6 hlv883_7 ⟨(hI881).1, hG880⟩ fr879 (by omega) (by omega) (by omega) (by omega) (by omega) (by omega) (show _ ≤ ((S850.1 30)).toInt by omega) (ar_J_eq rfl rfl rfl J225) (by omega) (by omega) (by omega) (by omega) (by omega) (by omega) (by omega)
    · have q866 : x859.toInt < x865.toInt := aw_t_ge (a := x859.toInt) (b := x865.toInt) rfl rfl q866
      refine aw_l0 aj_d276 rfl rfl hlv851_6 ?_
      refine aw_z (tgt := 300) aj_d276 rfl rfl (fun q884 => ?_) (fun q884 => ?_)
      · have q884 : x856.toInt < (0 : Int) := aw_t_lt (a := x856.toInt) (b := (0 : Int)) rfl rfl q884
        refine aw_l0 aj_d276 rfl rfl hlv851_6 ?_
        refine aw_z (tgt := 359) aj_d276 rfl rfl (fun q885 => ?_) (fun q885 => ?_)
        · have q885 : x856.toInt ≥ (0 : Int) := aw_t_ge (a := x856.toInt) (b := (0 : Int)) rfl rfl q885
          refine aw_inc aj_d276 rfl hlv851_7 (a := x857.toInt) rfl (by omega) (by omega) (by decide) (by decide) (fun x886 ex886 => ?_)
          obtain ⟨lv887, elv887⟩ : ∃ l, l = aj_set1 lv851 7 (.int x886) := ⟨_, rfl⟩
          rw [← elv887]
          have hlv887_0 : aj_lv lv887 0 = some (.ref 117) := cw_e1 elv887 hlv851_0 (by decide) (Or.inl (by decide))
          have hlv887_1 : aj_lv lv887 1 = some (.int x852) := cw_e1 elv887 hlv851_1 (by decide) (Or.inl (by decide))
          have hlv887_3 : aj_lv lv887 3 = some (.int x853) := cw_e1 elv887 hlv851_3 (by decide) (Or.inl (by decide))
          have hlv887_4 : aj_lv lv887 4 = some (.int x854) := cw_e1 elv887 hlv851_4 (by decide) (Or.inl (by decide))
          have hlv887_5 : aj_lv lv887 5 = some (.int x855) := cw_e1 elv887 hlv851_5 (by decide) (Or.inl (by decide))
          have hlv887_6 : aj_lv lv887 6 = some (.int x856) := cw_e1 elv887 hlv851_6 (by decide) (Or.inr rfl)
          have hlv887_7 : aj_lv lv887 7 = some (.int x886) := by rw [elv887]; exact ak_set1_eq _ _ _
          show aw_W _ _ _ _ 362 lv887 [] _ _
          refine aw_n aj_d276 rfl rfl ?_
          exact ihL199_813 S850 lv887 (x852) (x853) (x854) (x855) (x856) (x886) hlv887_0 hlv887_1 hlv887_3 hlv887_4 hlv887_5 hlv887_6 hlv887_7 ⟨(hI862).1, hI860.2⟩ fr861 (by omega) (by omega) (by omega) (by omega) (by omega) (by omega) (show _ ≤ ((S850.1 30)).toInt by omega) J225 (by omega) (by omega) (by omega) (by omega) (by omega) (by omega) (by omega)
        · have q885 : x856.toInt < (0 : Int) := aw_t_ge (a := x856.toInt) (b := (0 : Int)) rfl rfl q885
          refine aw_l2 aj_d276 rfl rfl hlv851_0 ?_
          refine aw_g hU.1 aj_d276 rfl rfl (by decide) (v := .ref 134) rfl ?_
          refine aw_n aj_d276 rfl rfl ?_
          refine aw_l0 aj_d276 rfl rfl hlv851_7 ?_
          refine aw_l0 aj_d276 rfl rfl hlv851_4 ?_
          refine aw_ks aj_d276 rfl rfl rfl [_, _, _] rfl rfl (Nat.le_of_ble_eq_true rfl) (ar_cellAt (by omega) (a := (49 : Int)) (b := x857.toInt) (c := x854.toInt) rfl rfl rfl (by omega) (by omega) (by omega)) ?_
          rintro _ zx888 ⟨fx888, x888, rfl, ex888⟩
          rw [fx888]
          show aw_W _ _ _ _ 318 lv851 [.int x888, .ref 134] _ _
          refine aw_l2 aj_d276 rfl rfl hlv851_0 ?_
          refine aw_g hU.1 aj_d276 rfl rfl (by decide) (v := .ref 134) rfl ?_
          refine aw_l0 aj_d276 rfl rfl hlv851_3 ?_
          refine aw_l0 aj_d276 rfl rfl hlv851_8 ?_
          refine aw_l0 aj_d276 rfl rfl hlv851_5 ?_
          refine aw_ks aj_d276 rfl rfl rfl [_, _, _] rfl rfl (Nat.le_of_ble_eq_true rfl) (ar_cellAt (by omega) (a := x853.toInt) (b := x858.toInt) (c := x855.toInt) rfl rfl rfl (by omega) (by omega) (by omega)) ?_
          rintro _ zx889 ⟨fx889, x889, rfl, ex889⟩
          rw [fx889]
          show aw_W _ _ _ _ 330 lv851 [.int x889, .ref 134, .int x888, .ref 134] _ _
          refine aw_ld (k := 17) hU.1 aj_d276 (Or.inr (Or.inr (Or.inr ⟨rfl, rfl⟩))) rfl (by decide) (by decide) rfl (a := ((x853.toInt * 30 + x858.toInt) * 8 + x855.toInt)) ex889 (by omega) (by omega) (fun x890 ex890 => ?_)
          have bx890 : 0 ≤ x890.toInt ∧ x890.toInt ≤ 1 := by
            rw [ex890]
            exact aw_bd_a hs (hI862).1 (k := 17) (by decide) (by decide) rfl (by decide) rfl (by omega)
          refine aw_st (k := 17) hU.1 aj_d276 (Or.inr (Or.inr (Or.inr ⟨rfl, rfl⟩))) rfl (by decide) (by decide) rfl (a := (((49 : Int) * 30 + x857.toInt) * 8 + x854.toInt)) ex888 (by omega) (by omega) ?_
          have hI891 : aw_I s h (aw_sm (aw_wa S850 17 ((((49 : Int) * 30 + x857.toInt) * 8 + x854.toInt)).toNat (aj_nar 4 x890))) (aw_wa S850 17 ((((49 : Int) * 30 + x857.toInt) * 8 + x854.toInt)).toNat (aj_nar 4 x890)) := ⟨aw_T_a hU.2.1 hs hU.1.1 (hI862).1 (by decide) (by decide) rfl (by decide) (by decide) rfl (aw_nar4 (aw_bp (a := x890.toInt) rfl (by omega) (by omega)) (by decide) (by decide)), aw_sm_rf⟩
          have fr892 := aw_fr_a (k := 17) (j := ((((49 : Int) * 30 + x857.toInt) * 8 + x854.toInt)).toNat) (v := aj_nar 4 x890) (by decide) fr861
          refine aw_l2 aj_d276 rfl rfl hlv851_0 ?_
          refine aw_g hU.1 aj_d276 rfl rfl (by decide) (v := .ref 135) rfl ?_
          refine aw_n aj_d276 rfl rfl ?_
          refine aw_l0 aj_d276 rfl rfl hlv851_7 ?_
          refine aw_l0 aj_d276 rfl rfl hlv851_4 ?_
          refine aw_ks aj_d276 rfl rfl rfl [_, _, _] rfl rfl (Nat.le_of_ble_eq_true rfl) (ar_cellAt (by omega) (a := (49 : Int)) (b := x857.toInt) (c := x854.toInt) rfl rfl rfl (by omega) (by omega) (by omega)) ?_
          rintro _ zx893 ⟨fx893, x893, rfl, ex893⟩
          rw [fx893]
          show aw_W _ _ _ _ 345 lv851 [.int x893, .ref 135] _ _
          refine aw_l2 aj_d276 rfl rfl hlv851_0 ?_
          refine aw_g hU.1 aj_d276 rfl rfl (by decide) (v := .ref 135) rfl ?_
          refine aw_l0 aj_d276 rfl rfl hlv851_3 ?_
          refine aw_l0 aj_d276 rfl rfl hlv851_8 ?_
          refine aw_l0 aj_d276 rfl rfl hlv851_5 ?_
          refine aw_ks aj_d276 rfl rfl rfl [_, _, _] rfl rfl (Nat.le_of_ble_eq_true rfl) (ar_cellAt (by omega) (a := x853.toInt) (b := x858.toInt) (c := x855.toInt) rfl rfl rfl (by omega) (by omega) (by omega)) ?_
          rintro _ zx894 ⟨fx894, x894, rfl, ex894⟩
          rw [fx894]
          show aw_W _ _ _ _ 357 lv851 [.int x894, .ref 135, .int x893, .ref 135] _ _
          refine aw_ld (k := 18) hU.1 aj_d276 (Or.inl ⟨rfl, rfl⟩) rfl (by decide) (by decide) rfl (a := ((x853.toInt * 30 + x858.toInt) * 8 + x855.toInt)) ex894 (by omega) (by omega) (fun x895 ex895 => ?_)
          refine aw_st (k := 18) hU.1 aj_d276 (Or.inl ⟨rfl, rfl⟩) rfl (by decide) (by decide) rfl (a := (((49 : Int) * 30 + x857.toInt) * 8 + x854.toInt)) ex893 (by omega) (by omega) ?_
          have hI896 : aw_I s h (aw_sm (aw_wa (aw_wa S850 17 ((((49 : Int) * 30 + x857.toInt) * 8 + x854.toInt)).toNat (aj_nar 4 x890)) 18 ((((49 : Int) * 30 + x857.toInt) * 8 + x854.toInt)).toNat (aj_nar 0 x895))) (aw_wa (aw_wa S850 17 ((((49 : Int) * 30 + x857.toInt) * 8 + x854.toInt)).toNat (aj_nar 4 x890)) 18 ((((49 : Int) * 30 + x857.toInt) * 8 + x854.toInt)).toNat (aj_nar 0 x895)) := ⟨aw_T_a hU.2.1 hs hU.1.1 (hI891).1 (by decide) (by decide) rfl (by decide) (by decide) rfl (aw_full _), aw_sm_rf⟩
          have fr897 := aw_fr_a (k := 18) (j := ((((49 : Int) * 30 + x857.toInt) * 8 + x854.toInt)).toNat) (v := aj_nar 0 x895) (by decide) fr892
          have hG898 := aw_G_sk (S' := (aw_wa (aw_wa S850 17 ((((49 : Int) * 30 + x857.toInt) * 8 + x854.toInt)).toNat (aj_nar 4 x890)) 18 ((((49 : Int) * 30 + x857.toInt) * 8 + x854.toInt)).toNat (aj_nar 0 x895))) hI860.2 (aw_sk_2 aw_sk_rf) (aw_kv_2 (aw_G_B hI860.2).1 (by first | rfl | (congr 1) | omega) (by
              rw [aw_nar4_01 (by omega)]
              intro z
              have y := (aw_G_B hI860.2).1 (((x853.toInt * 30 + x858.toInt) * 8 + x855.toInt)).toNat (by omega) (by rw [ex890] at z; exact z)
              have hx : (((x853.toInt * 30 + x858.toInt) * 8 + x855.toInt)).toNat = (((x853.toInt * 30 + x858.toInt) * 8 + x855.toInt)).toNat := by omega
              show 0 ≤ (x895).toInt ∧ (x895).toInt ≤ 7
              rw [ex895]
              show 0 ≤ (S850.2.2.1 18 (((x853.toInt * 30 + x858.toInt) * 8 + x855.toInt)).toNat).toInt ∧ (S850.2.2.1 18 (((x853.toInt * 30 + x858.toInt) * 8 + x855.toInt)).toNat).toInt ≤ 7
              rw [hx]
              exact y))
          have hI899 : aw_I s h (aw_sm (aw_wa (aw_wa S850 17 ((((49 : Int) * 30 + x857.toInt) * 8 + x854.toInt)).toNat (aj_nar 4 x890)) 18 ((((49 : Int) * 30 + x857.toInt) * 8 + x854.toInt)).toNat (aj_nar 0 x895))) (aw_wa (aw_wa S850 17 ((((49 : Int) * 30 + x857.toInt) * 8 + x854.toInt)).toNat (aj_nar 4 x890)) 18 ((((49 : Int) * 30 + x857.toInt) * 8 + x854.toInt)).toNat (aj_nar 0 x895)) := ⟨(hI896).1, aw_sm_rf⟩
          refine aw_inc aj_d276 rfl hlv851_7 (a := x857.toInt) rfl (by omega) (by omega) (by decide) (by decide) (fun x900 ex900 => ?_)
          obtain ⟨lv901, elv901⟩ : ∃ l, l = aj_set1 lv851 7 (.int x900) := ⟨_, rfl⟩
          rw [← elv901]
          have hlv901_0 : aj_lv lv901 0 = some (.ref 117) := cw_e1 elv901 hlv851_0 (by decide) (Or.inl (by decide))
          have hlv901_1 : aj_lv lv901 1 = some (.int x852) := cw_e1 elv901 hlv851_1 (by decide) (Or.inl (by decide))
          have hlv901_3 : aj_lv lv901 3 = some (.int x853) := cw_e1 elv901 hlv851_3 (by decide) (Or.inl (by decide))
          have hlv901_4 : aj_lv lv901 4 = some (.int x854) := cw_e1 elv901 hlv851_4 (by decide) (Or.inl (by decide))
          have hlv901_5 : aj_lv lv901 5 = some (.int x855) := cw_e1 elv901 hlv851_5 (by decide) (Or.inl (by decide))
          have hlv901_6 : aj_lv lv901 6 = some (.int x856) := cw_e1 elv901 hlv851_6 (by decide) (Or.inr rfl)
          have hlv901_7 : aj_lv lv901 7 = some (.int x900) := by rw [elv901]; exact ak_set1_eq _ _ _
          show aw_W _ _ _ _ 362 lv901 [] _ _
          refine aw_n aj_d276 rfl rfl ?_
          exact ihL199_813 (aw_wa (aw_wa S850 17 ((((49 : Int) * 30 + x857.toInt) * 8 + x854.toInt)).toNat (aj_nar 4 x890)) 18 ((((49 : Int) * 30 + x857.toInt) * 8 + x854.toInt)).toNat (aj_nar 0 x895)) lv901 (x852) (x853) (x854) (x855) (x856) (x900) hlv901_0 hlv901_1 hlv901_3 hlv901_4 hlv901_5 hlv901_6 hlv901_7 ⟨(hI899).1, hG898⟩ fr897 (by omega) (by omega) (by omega) (by omega) (by omega) (by omega) (show _ ≤ ((S850.1 30)).toInt by omega) (ar_J_eq rfl rfl rfl J225) (by omega) (by omega) (by omega) (by omega) (by omega) (by omega) (by omega)
      · have q884 : x856.toInt ≥ (0 : Int) := aw_t_lt (a := x856.toInt) (b := (0 : Int)) rfl rfl q884
        refine aw_l2 aj_d276 rfl rfl hlv851_0 ?_
        refine aw_l0 aj_d276 rfl rfl hlv851_1 ?_
        refine aw_l0 aj_d276 rfl rfl hlv851_7 ?_
        refine aw_l2 aj_d276 rfl rfl hlv851_0 ?_
        refine aw_g hU.1 aj_d276 rfl rfl (by decide) (v := .ref 131) rfl ?_
        refine aw_l0 aj_d276 rfl rfl hlv851_3 ?_
        have ib902 : (x853.toInt).toNat = (x852.toInt).toNat + 1 := by omega
        refine aw_ld (k := 14) hU.1 aj_d276 (Or.inl ⟨rfl, rfl⟩) rfl (by decide) (by decide) rfl (a := x853.toInt) rfl (by omega) (by omega) (fun x903 ex903 => ?_)
        have bx903 : 0 ≤ x903.toInt ∧ x903.toInt ≤ 30 := by
          rw [ex903]
          exact aw_bd_a hs (hI862).1 (k := 14) (by decide) (by decide) rfl (by decide) rfl (by omega)
        have ftx903 : x903.toInt = (S850.2.2.1 14 (x853.toInt).toNat).toInt := congrArg Int32.toInt (ex903.trans (congrFun rfl _))
        rw [ib902] at ftx903
        have jb := J225.2
        refine aw_div aj_d276 rfl (a := x857.toInt) (b := x903.toInt) rfl rfl (by omega) (by omega) (fun x904 ex904 => ?_)
        have dvx904 := ar_div (a := x857.toInt) (b := x903.toInt) (by omega) (by omega)
        rw [← ex904] at dvx904
        refine aw_l0 aj_d276 rfl rfl hlv851_6 ?_
        refine aw_l0 aj_d276 rfl rfl hlv851_9 ?_
        refine aw_k hU.1 aj_d276 rfl rfl [_, _, _, _] rfl rfl rfl (Nat.le_of_ble_eq_true rfl) (ar_valueAt hU (hI862).1 (aw_G_B hI860.2).1 (by omega) (t := x852) (r := x904) (c := x856) (x := x859) (by omega) (by omega) (by omega) (by omega) (by omega)) ?_
        rintro _ zb905 ⟨fb905, b905, rfl⟩
        rw [fb905]
        show aw_W _ _ _ _ 262 lv851 [.int b905] _ _
        refine aw_l2 aj_d276 rfl rfl hlv851_0 ?_
        refine aw_l0 aj_d276 rfl rfl hlv851_3 ?_
        refine aw_l0 aj_d276 rfl rfl hlv851_8 ?_
        refine aw_l0 aj_d276 rfl rfl hlv851_5 ?_
        refine aw_l0 aj_d276 rfl rfl hlv851_9 ?_
        refine aw_k hU.1 aj_d276 rfl rfl [_, _, _, _] rfl rfl rfl (Nat.le_of_ble_eq_true rfl) (ar_valueAt hU (hI862).1 (aw_G_B hI860.2).1 (by omega) (t := x853) (r := x858) (c := x855) (x := x859) (by omega) (by omega) (by omega) (by omega) (by omega)) ?_
        rintro _ zb906 ⟨fb906, b906, rfl⟩
        rw [fb906]
        show aw_W _ _ _ _ 273 lv851 [.int b906, .int b905] _ _
        refine aw_c (tgt := 294) aj_d276 rfl rfl (fun q907 => ?_) (fun q907 => ?_)
        · have q907 : b905.toInt = b906.toInt := aw_t_eq (a := b905.toInt) (b := b906.toInt) rfl rfl q907
          refine aw_inc aj_d276 rfl hlv851_9 (a := x859.toInt) rfl (by omega) (by omega) (by decide) (by decide) (fun x908 ex908 => ?_)
          obtain ⟨lv909, elv909⟩ : ∃ l, l = aj_set1 lv851 9 (.int x908) := ⟨_, rfl⟩
          rw [← elv909]
          have hlv909_0 : aj_lv lv909 0 = some (.ref 117) := cw_e1 elv909 hlv851_0 (by decide) (Or.inl (by decide))
          have hlv909_1 : aj_lv lv909 1 = some (.int x852) := cw_e1 elv909 hlv851_1 (by decide) (Or.inl (by decide))
          have hlv909_3 : aj_lv lv909 3 = some (.int x853) := cw_e1 elv909 hlv851_3 (by decide) (Or.inl (by decide))
          have hlv909_4 : aj_lv lv909 4 = some (.int x854) := cw_e1 elv909 hlv851_4 (by decide) (Or.inl (by decide))
          have hlv909_5 : aj_lv lv909 5 = some (.int x855) := cw_e1 elv909 hlv851_5 (by decide) (Or.inl (by decide))
          have hlv909_6 : aj_lv lv909 6 = some (.int x856) := cw_e1 elv909 hlv851_6 (by decide) (Or.inl (by decide))
          have hlv909_7 : aj_lv lv909 7 = some (.int x857) := cw_e1 elv909 hlv851_7 (by decide) (Or.inl (by decide))
          have hlv909_8 : aj_lv lv909 8 = some (.int x858) := cw_e1 elv909 hlv851_8 (by decide) (Or.inr rfl)
          have hlv909_9 : aj_lv lv909 9 = some (.int x908) := by rw [elv909]; exact ak_set1_eq _ _ _
          show aw_W _ _ _ _ 297 lv909 [] _ _
          refine aw_n aj_d276 rfl rfl ?_
          exact ihL225_848 S850 lv909 (x852) (x853) (x854) (x855) (x856) (x857) (x858) (x908) hlv909_0 hlv909_1 hlv909_3 hlv909_4 hlv909_5 hlv909_6 hlv909_7 hlv909_8 hlv909_9 ⟨(hI862).1, hI860.2⟩ fr861 (by omega) (by omega) (by omega) (by omega) (by omega) (by omega) (by omega) (by omega) (show _ ≤ ((S850.1 30)).toInt by omega) J225 (by omega) (by omega) (by omega) (by omega) (by omega) (by omega) (by rw [show (S850.2.2.1 14) = S850.2.2.1 14 from rfl]; omega) (by omega) (by omega)
        · have q907 : b905.toInt ≠ b906.toInt := aw_t_eq (a := b905.toInt) (b := b906.toInt) rfl rfl q907
          refine aw_l2 aj_d276 rfl rfl hlv851_0 ?_
          refine aw_g hU.1 aj_d276 rfl rfl (by decide) (v := .ref 136) rfl ?_
          refine aw_l2 aj_d276 rfl rfl hlv851_0 ?_
          refine aw_n aj_d276 rfl rfl ?_
          refine aw_l0 aj_d276 rfl rfl hlv851_7 ?_
          refine aw_k hU.1 aj_d276 rfl rfl [_, _] rfl rfl rfl (Nat.le_of_ble_eq_true rfl) (ar_at (by omega) (a := (49 : Int)) (b := x857.toInt) rfl rfl (by omega) (by omega)) ?_
          rintro _ zx910 ⟨fx910, x910, rfl, ex910⟩
          rw [fx910]
          show aw_W _ _ _ _ 288 lv851 [.int x910, .ref 136] _ _
          refine aw_l0 aj_d276 rfl rfl hlv851_9 ?_
          refine aw_n aj_d276 rfl rfl ?_
          refine aw_ks aj_d276 rfl rfl rfl [_, _, _, _] rfl rfl (Nat.le_of_ble_eq_true rfl) (ar_put hU (hI862).1 (by omega) (k := 19) (n := 48000) (by decide) (by decide) rfl rfl (a := (((49 : Int) * 30 + x857.toInt) * 32)) (b := x859.toInt) ex910 rfl (by omega) (by omega) (by omega) (by decide)) ?_
          rintro _ S911 ⟨hT911, fc911, rfl, pe911⟩
          have fr912 := aw_fr_tr fr861 (aw_fr_sub (F := []) (A := [19]) (by decide) (by decide) fc911)
          have hI913 : aw_I s h (aw_sm S850) S911 := ⟨hT911, aw_sm_tr hI862.2 (aw_fr_sm (by decide) (by decide) (by decide) (F := []) (A := [19]) fc911)⟩
          show aw_W _ _ _ _ 294 lv851 [] _ _
          refine aw_inc aj_d276 rfl hlv851_9 (a := x859.toInt) rfl (by omega) (by omega) (by decide) (by decide) (fun x914 ex914 => ?_)
          obtain ⟨lv915, elv915⟩ : ∃ l, l = aj_set1 lv851 9 (.int x914) := ⟨_, rfl⟩
          rw [← elv915]
          have hlv915_0 : aj_lv lv915 0 = some (.ref 117) := cw_e1 elv915 hlv851_0 (by decide) (Or.inl (by decide))
          have hlv915_1 : aj_lv lv915 1 = some (.int x852) := cw_e1 elv915 hlv851_1 (by decide) (Or.inl (by decide))
          have hlv915_3 : aj_lv lv915 3 = some (.int x853) := cw_e1 elv915 hlv851_3 (by decide) (Or.inl (by decide))
          have hlv915_4 : aj_lv lv915 4 = some (.int x854) := cw_e1 elv915 hlv851_4 (by decide) (Or.inl (by decide))
          have hlv915_5 : aj_lv lv915 5 = some (.int x855) := cw_e1 elv915 hlv851_5 (by decide) (Or.inl (by decide))
          have hlv915_6 : aj_lv lv915 6 = some (.int x856) := cw_e1 elv915 hlv851_6 (by decide) (Or.inl (by decide))
          have hlv915_7 : aj_lv lv915 7 = some (.int x857) := cw_e1 elv915 hlv851_7 (by decide) (Or.inl (by decide))
          have hlv915_8 : aj_lv lv915 8 = some (.int x858) := cw_e1 elv915 hlv851_8 (by decide) (Or.inr rfl)
          have hlv915_9 : aj_lv lv915 9 = some (.int x914) := by rw [elv915]; exact ak_set1_eq _ _ _
          show aw_W _ _ _ _ 297 lv915 [] _ _
          refine aw_n aj_d276 rfl rfl ?_
          have c916 : (S911.1 30).toInt = (S850.1 30).toInt := (congrArg Int32.toInt (fc911.1 30 (by decide)).1).trans rfl
          have b917 : 0 ≤ (S911.1 30).toInt ∧ (S911.1 30).toInt ≤ 1001 := aw_bd_f hs (hI913).1 (by decide) rfl
          exact ihL225_848 S911 lv915 (x852) (x853) (x854) (x855) (x856) (x857) (x858) (x914) hlv915_0 hlv915_1 hlv915_3 hlv915_4 hlv915_5 hlv915_6 hlv915_7 hlv915_8 hlv915_9 ⟨(hI913).1, (aw_G_sm hI913.2 hI860.2)⟩ fr912 (by omega) (by omega) (by omega) (by omega) (by omega) (by omega) (by omega) (by omega) (show _ ≤ ((S911.1 30)).toInt by omega) (ar_J_eq ((fc911.2 14 (by decide)).1.trans rfl) ((fc911.2 15 (by decide)).1.trans rfl) ((fc911.2 16 (by decide)).2.trans rfl) J225) (by omega) (by omega) (by omega) (by omega) (by omega) (by omega) (by rw [show (S911.2.2.1 14) = S850.2.2.1 14 from ((fc911.2 14 (by decide)).1.trans rfl)]; omega) (by omega) (by omega)
theorem ar_join_L199_813 (hU : aw_U tb s h) (hd : 4 ≤ d + 1) (x0 : Nat) (hj : ar_JP S x0) (N88 : Nat) (S717 : aj_S) (x719 : Int32) (x720 : Int32) (x721 : Int32) (x722 : Int32) (ihL88_715 : ∀ (S717 : aj_S) (lv718 : aj_V) (x719 : Int32) (x720 : Int32) (x721 : Int32) (x722 : Int32), (aj_lv lv718 0 = some (.ref 117)) → (aj_lv lv718 1 = some (.int x719)) → (aj_lv lv718 3 = some (.int x720)) → (aj_lv lv718 4 = some (.int x721)) → (aj_lv lv718 5 = some (.int x722)) → (aw_I s h (aw_G g) S717) → (aw_fr [24, 25, 31] [14, 15, 16, 17, 18, 19] S S717) → (20 ≤ x719.toInt ∧ x719.toInt ≤ 47) → (21 ≤ x720.toInt ∧ x720.toInt ≤ 48) → (0 ≤ x721.toInt ∧ x721.toInt ≤ 6) → (0 ≤ x722.toInt ∧ x722.toInt ≤ 6) → ((S.1 30).toInt + 0 ≤ (S717.1 30).toInt) → (ar_J S S717 (x719.toInt).toNat) → (x720.toInt = x719.toInt + 1) → (x721.toInt = (S.2.2.1 15 (x719.toInt).toNat).toInt) → (x0 = (x719.toInt).toNat) → (6 - x722.toInt).toNat < N88 → aw_W tb h d aj_m276 88 lv718 [] S717 ((ar_QB s h [24, 25, 31] [14, 15, 16, 17, 18, 19] S (fun S' => aw_G g S' ∧ (S.1 30).toInt ≤ (S'.1 30).toInt) (fun S' => aw_G g S' ∧ (S.1 30).toInt + 0 ≤ (S'.1 30).toInt)))) (hm88 : (6 - x722.toInt).toNat < N88 + 1) (N127 : Nat) (S730 : aj_S) (x732 : Int32) (x733 : Int32) (x734 : Int32) (x735 : Int32) (ihL127_728 : ∀ (S730 : aj_S) (lv731 : aj_V) (x732 : Int32) (x733 : Int32) (x734 : Int32) (x735 : Int32), (aj_lv lv731 0 = some (.ref 117)) → (aj_lv lv731 1 = some (.int x732)) → (aj_lv lv731 3 = some (.int x733)) → (aj_lv lv731 4 = some (.int x734)) → (aj_lv lv731 5 = some (.int x735)) → (aw_I s h (aw_G g) S730) → (aw_fr [24, 25, 31] [14, 15, 16, 17, 18, 19] S S730) → (20 ≤ x732.toInt ∧ x732.toInt ≤ 47) → (21 ≤ x733.toInt ∧ x733.toInt ≤ 48) → (0 ≤ x734.toInt ∧ x734.toInt ≤ 6) → (0 ≤ x735.toInt ∧ x735.toInt ≤ 30) → ((S.1 30).toInt + 0 ≤ (S730.1 30).toInt) → (ar_J S S730 (x732.toInt).toNat) → (x733.toInt = x732.toInt + 1) → (x734.toInt = (S.2.2.1 15 (x732.toInt).toNat).toInt) → (x0 = (x732.toInt).toNat) → (30 - x735.toInt).toNat < N127 → aw_W tb h d aj_m276 127 lv731 [] S730 ((ar_QB s h [24, 25, 31] [14, 15, 16, 17, 18, 19] S (fun S' => aw_G g S' ∧ (S.1 30).toInt ≤ (S'.1 30).toInt) (fun S' => aw_G g S' ∧ (S.1 30).toInt + 0 ≤ (S'.1 30).toInt)))) (hm127 : (30 - x735.toInt).toNat < N127 + 1) (N166 : Nat) (S744 : aj_S) (x746 : Int32) (x747 : Int32) (x748 : Int32) (x749 : Int32) (ihL166_742 : ∀ (S744 : aj_S) (lv745 : aj_V) (x746 : Int32) (x747 : Int32) (x748 : Int32) (x749 : Int32), (aj_lv lv745 0 = some (.ref 117)) → (aj_lv lv745 1 = some (.int x746)) → (aj_lv lv745 3 = some (.int x747)) → (aj_lv lv745 4 = some (.int x748)) → (aj_lv lv745 5 = some (.int x749)) → (aw_I s h (aw_G g) S744) → (aw_fr [24, 25, 31] [14, 15, 16, 17, 18, 19] S S744) → (20 ≤ x746.toInt ∧ x746.toInt ≤ 47) → (21 ≤ x747.toInt ∧ x747.toInt ≤ 48) → (0 ≤ x748.toInt ∧ x748.toInt ≤ 6) → (0 ≤ x749.toInt ∧ x749.toInt ≤ 6) → ((S.1 30).toInt + 0 ≤ (S744.1 30).toInt) → (ar_J S S744 (x746.toInt).toNat) → (x747.toInt = x746.toInt + 1) → (x748.toInt = (S.2.2.1 15 (x746.toInt).toNat).toInt + ar_nw S (x746.toInt).toNat (x749.toInt).toNat) → (x749.toInt ≤ (S.2.2.1 15 ((x746.toInt).toNat + 1)).toInt) → (x0 = (x746.toInt).toNat) → (6 - x749.toInt).toNat < N166 → aw_W tb h d aj_m276 166 lv745 [] S744 ((ar_QB s h [24, 25, 31] [14, 15, 16, 17, 18, 19] S (fun S' => aw_G g S' ∧ (S.1 30).toInt ≤ (S'.1 30).toInt) (fun S' => aw_G g S' ∧ (S.1 30).toInt + 0 ≤ (S'.1 30).toInt)))) (hm166 : (6 - x749.toInt).toNat < N166 + 1) : ∀ (N : Nat) (S815 : aj_S) (lv816 : aj_V) (x817 : Int32) (x818 : Int32) (x819 : Int32) (x820 : Int32) (x821 : Int32) (x822 : Int32), (aj_lv lv816 0 = some (.ref 117)) → (aj_lv lv816 1 = some (.int x817)) → (aj_lv lv816 3 = some (.int x818)) → (aj_lv lv816 4 = some (.int x819)) → (aj_lv lv816 5 = some (.int x820)) → (aj_lv lv816 6 = some (.int x821)) → (aj_lv lv816 7 = some (.int x822)) → (aw_I s h (aw_G g) S815) → (aw_fr [24, 25, 31] [14, 15, 16, 17, 18, 19] S S815) → (20 ≤ x817.toInt ∧ x817.toInt ≤ 47) → (21 ≤ x818.toInt ∧ x818.toInt ≤ 48) → (0 ≤ x819.toInt ∧ x819.toInt ≤ 6) → (0 ≤ x820.toInt ∧ x820.toInt ≤ 5) → ((-1) ≤ x821.toInt ∧ x821.toInt ≤ 5) → (0 ≤ x822.toInt ∧ x822.toInt ≤ 30) → ((S.1 30).toInt + 0 ≤ (S815.1 30).toInt) → (ar_J S S815 (x817.toInt).toNat) → (x818.toInt = x817.toInt + 1) → (x819.toInt = (S.2.2.1 15 (x817.toInt).toNat).toInt + ar_nw S (x817.toInt).toNat (x820.toInt).toNat) → (x820.toInt + 1 ≤ (S.2.2.1 15 ((x817.toInt).toNat + 1)).toInt) → (((0 ≤ x821.toInt ∧ ar_nw S (x817.toInt).toNat ((x820.toInt).toNat + 1) = ar_nw S (x817.toInt).toNat (x820.toInt).toNat) ∨ (x821.toInt = -1 ∧ ar_nw S (x817.toInt).toNat ((x820.toInt).toNat + 1) = ar_nw S (x817.toInt).toNat (x820.toInt).toNat + 1))) → (x820.toInt = x749.toInt) → (x0 = (x817.toInt).toNat) → (30 - x822.toInt).toNat < N → aw_W tb h d aj_m276 199 lv816 [] S815 ((ar_QB s h [24, 25, 31] [14, 15, 16, 17, 18, 19] S (fun S' => aw_G g S' ∧ (S.1 30).toInt ≤ (S'.1 30).toInt) (fun S' => aw_G g S' ∧ (S.1 30).toInt + 0 ≤ (S'.1 30).toInt))) := by
  have hs : aw_sT s := aw_hy_sT hU.2.2
  intro N199
  induction N199 with
  | zero =>
    intro S815 lv816 x817 x818 x819 x820 x821 x822 hlv816_0 hlv816_1 hlv816_3 hlv816_4 hlv816_5 hlv816_6 hlv816_7 hI823 fr824 bx817 bx818 bx819 bx820 bx821 bx822 ck199 J199 b199 n199 c199 s199 o199 x199 hm199
    omega
  | succ N199 ihL199_813 =>
    intro S815 lv816 x817 x818 x819 x820 x821 x822 hlv816_0 hlv816_1 hlv816_3 hlv816_4 hlv816_5 hlv816_6 hlv816_7 hI823 fr824 bx817 bx818 bx819 bx820 bx821 bx822 ck199 J199 b199 n199 c199 s199 o199 x199 hm199
    have hI825 : aw_I s h (aw_sm S815) S815 := ⟨hI823.1, aw_sm_rf⟩
    have b826 : 0 ≤ (S815.1 30).toInt ∧ (S815.1 30).toInt ≤ 1001 := aw_bd_f hs (hI825).1 (by decide) rfl
    have hjx := hj
    rw [x199] at hjx
    obtain ⟨hj1, hj2, hj3⟩ := hjx
    have nwl : ∀ c : Nat, (c : Int) ≤ (S.2.2.1 15 ((x817.toInt).toNat + 1)).toInt → ar_nw S (x817.toInt).toNat c ≤ ar_nw S (x817.toInt).toNat ((S.2.2.1 15 ((x817.toInt).toNat + 1)).toInt).toNat := fun c hc => ar_nw_le (by omega)
    have nwc := nwl ((x820.toInt).toNat + 1) (by omega)
    refine aw_l0 aj_d276 rfl rfl hlv816_7 ?_
    refine aw_l2 aj_d276 rfl rfl hlv816_0 ?_
    refine aw_g hU.1 aj_d276 rfl rfl (by decide) (v := .ref 131) rfl ?_
    refine aw_n aj_d276 rfl rfl ?_
    refine aw_ld (k := 14) hU.1 aj_d276 (Or.inl ⟨rfl, rfl⟩) rfl (by decide) (by decide) rfl (a := (49 : Int)) rfl (by omega) (by omega) (fun x827 ex827 => ?_)
    have bx827 : 0 ≤ x827.toInt ∧ x827.toInt ≤ 30 := by
      rw [ex827]
      exact aw_bd_a hs (hI825).1 (k := 14) (by decide) (by decide) rfl (by decide) rfl (by omega)
    have ftx827 : x827.toInt = (S815.2.2.1 14 49).toInt := congrArg Int32.toInt (ex827.trans (congrFun rfl _))
    refine aw_c (tgt := 365) aj_d276 rfl rfl (fun q828 => ?_) (fun q828 => ?_)
    · have q828 : x822.toInt ≥ x827.toInt := aw_t_ge (a := x822.toInt) (b := x827.toInt) rfl rfl q828
      refine aw_l0 aj_d276 rfl rfl hlv816_6 ?_
      refine aw_z (tgt := 396) aj_d276 rfl rfl (fun q829 => ?_) (fun q829 => ?_)
      · have q829 : x821.toInt ≥ (0 : Int) := aw_t_ge (a := x821.toInt) (b := (0 : Int)) rfl rfl q829
        refine aw_inc aj_d276 rfl hlv816_5 (a := x820.toInt) rfl (by omega) (by omega) (by decide) (by decide) (fun x830 ex830 => ?_)
        obtain ⟨lv831, elv831⟩ : ∃ l, l = aj_set1 lv816 5 (.int x830) := ⟨_, rfl⟩
        rw [← elv831]
        have hlv831_0 : aj_lv lv831 0 = some (.ref 117) := cw_e1 elv831 hlv816_0 (by decide) (Or.inl (by decide))
        have hlv831_1 : aj_lv lv831 1 = some (.int x817) := cw_e1 elv831 hlv816_1 (by decide) (Or.inl (by decide))
        have hlv831_3 : aj_lv lv831 3 = some (.int x818) := cw_e1 elv831 hlv816_3 (by decide) (Or.inl (by decide))
        have hlv831_4 : aj_lv lv831 4 = some (.int x819) := cw_e1 elv831 hlv816_4 (by decide) (Or.inr rfl)
        have hlv831_5 : aj_lv lv831 5 = some (.int x830) := by rw [elv831]; exact ak_set1_eq _ _ _
        show aw_W _ _ _ _ 399 lv831 [] _ _
        refine aw_n aj_d276 rfl rfl ?_
        exact ihL166_742 S815 lv831 (x817) (x818) (x819) (x830) hlv831_0 hlv831_1 hlv831_3 hlv831_4 hlv831_5 ⟨(hI825).1, hI823.2⟩ fr824 (by omega) (by omega) (by omega) (by omega) (show _ ≤ ((S815.1 30)).toInt by omega) J199 (by omega) (by rw [show (x830.toInt).toNat = (x820.toInt).toNat + 1 by omega]; omega) (by omega) (by omega) (by omega)
      · have q829 : x821.toInt < (0 : Int) := aw_t_ge (a := x821.toInt) (b := (0 : Int)) rfl rfl q829
        refine aw_l2 aj_d276 rfl rfl hlv816_0 ?_
        refine aw_g hU.1 aj_d276 rfl rfl (by decide) (v := .ref 133) rfl ?_
        refine aw_n aj_d276 rfl rfl ?_
        refine aw_l0 aj_d276 rfl rfl hlv816_4 ?_
        refine aw_add aj_d276 rfl (a := (392 : Int)) (b := x819.toInt) rfl rfl (by omega) (by omega) (fun x832 ex832 => ?_)
        refine aw_l2 aj_d276 rfl rfl hlv816_0 ?_
        refine aw_g hU.1 aj_d276 rfl rfl (by decide) (v := .ref 133) rfl ?_
        refine aw_l0 aj_d276 rfl rfl hlv816_3 ?_
        refine aw_n aj_d276 rfl rfl ?_
        refine aw_mul aj_d276 rfl (a := x818.toInt) (b := (8 : Int)) rfl rfl (by omega) (by omega) (fun x833 ex833 => ?_)
        refine aw_l0 aj_d276 rfl rfl hlv816_5 ?_
        refine aw_add aj_d276 rfl (a := x833.toInt) (b := x820.toInt) rfl rfl (by omega) (by omega) (fun x834 ex834 => ?_)
        refine aw_ldl (k := 16) hU.1 aj_d276 rfl (by decide) (by decide) rfl (a := x834.toInt) rfl (by omega) (by omega) (fun y835 ey835 => ?_)
        refine aw_stl (k := 16) hU.1 aj_d276 rfl (by decide) (by decide) rfl (a := x832.toInt) rfl (by omega) (by omega) ?_
        have hI836 := aw_I_b (aw_UV hU aw_Gs_sm) (k := 16) (j := (x832.toInt).toNat) (v := y835) hI825 (by decide) (by decide) (by decide) rfl rfl
        have fr837 := aw_fr_b (k := 16) (j := (x832.toInt).toNat) (v := y835) (by decide) fr824
        have J839 : ar_J S (aw_wb S815 16 (x832.toInt).toNat y835) (x817.toInt).toNat := (ar_J_col (by omega) J199)
        refine aw_inc aj_d276 rfl hlv816_4 (a := x819.toInt) rfl (by omega) (by omega) (by decide) (by decide) (fun x840 ex840 => ?_)
        obtain ⟨lv841, elv841⟩ : ∃ l, l = aj_set1 lv816 4 (.int x840) := ⟨_, rfl⟩
        rw [← elv841]
        have hlv841_0 : aj_lv lv841 0 = some (.ref 117) := cw_e1 elv841 hlv816_0 (by decide) (Or.inl (by decide))
        have hlv841_1 : aj_lv lv841 1 = some (.int x817) := cw_e1 elv841 hlv816_1 (by decide) (Or.inl (by decide))
        have hlv841_3 : aj_lv lv841 3 = some (.int x818) := cw_e1 elv841 hlv816_3 (by decide) (Or.inr rfl)
        have hlv841_5 : aj_lv lv841 5 = some (.int x820) := cw_e1 elv841 hlv816_5 (by decide) (Or.inl (by decide))
        have hlv841_4 : aj_lv lv841 4 = some (.int x840) := by rw [elv841]; exact ak_set1_eq _ _ _
        show aw_W _ _ _ _ 396 lv841 [] _ _
        refine aw_inc aj_d276 rfl hlv841_5 (a := x820.toInt) rfl (by omega) (by omega) (by decide) (by decide) (fun x842 ex842 => ?_)
        obtain ⟨lv843, elv843⟩ : ∃ l, l = aj_set1 lv841 5 (.int x842) := ⟨_, rfl⟩
        rw [← elv843]
        have hlv843_0 : aj_lv lv843 0 = some (.ref 117) := cw_e1 elv843 hlv841_0 (by decide) (Or.inl (by decide))
        have hlv843_1 : aj_lv lv843 1 = some (.int x817) := cw_e1 elv843 hlv841_1 (by decide) (Or.inl (by decide))
        have hlv843_3 : aj_lv lv843 3 = some (.int x818) := cw_e1 elv843 hlv841_3 (by decide) (Or.inl (by decide))
        have hlv843_4 : aj_lv lv843 4 = some (.int x840) := cw_e1 elv843 hlv841_4 (by decide) (Or.inr rfl)
        have hlv843_5 : aj_lv lv843 5 = some (.int x842) := by rw [elv843]; exact ak_set1_eq _ _ _
        show aw_W _ _ _ _ 399 lv843 [] _ _
        refine aw_n aj_d276 rfl rfl ?_
        exact ihL166_742 (aw_wb S815 16 (x832.toInt).toNat y835) lv843 (x817) (x818) (x840) (x842) hlv843_0 hlv843_1 hlv843_3 hlv843_4 hlv843_5 ⟨(hI836).1, (aw_G_sm hI836.2 hI823.2)⟩ fr837 (by omega) (by omega) (by omega) (by omega) (show _ ≤ ((S815.1 30)).toInt by omega) J839 (by omega) (by rw [show (x842.toInt).toNat = (x820.toInt).toNat + 1 by omega]; omega) (by omega) (by omega) (by omega)
    · have q828 : x822.toInt < x827.toInt := aw_t_ge (a := x822.toInt) (b := x827.toInt) rfl rfl q828
      refine aw_l0 aj_d276 rfl rfl hlv816_7 ?_
      refine aw_l2 aj_d276 rfl rfl hlv816_0 ?_
      refine aw_g hU.1 aj_d276 rfl rfl (by decide) (v := .ref 131) rfl ?_
      refine aw_l0 aj_d276 rfl rfl hlv816_3 ?_
      have ib844 : (x818.toInt).toNat = (x817.toInt).toNat + 1 := by omega
      refine aw_ld (k := 14) hU.1 aj_d276 (Or.inl ⟨rfl, rfl⟩) rfl (by decide) (by decide) rfl (a := x818.toInt) rfl (by omega) (by omega) (fun x845 ex845 => ?_)
      have bx845 : 0 ≤ x845.toInt ∧ x845.toInt ≤ 30 := by
        rw [ex845]
        exact aw_bd_a hs (hI825).1 (k := 14) (by decide) (by decide) rfl (by decide) rfl (by omega)
      have ftx845 : x845.toInt = (S815.2.2.1 14 (x818.toInt).toNat).toInt := congrArg Int32.toInt (ex845.trans (congrFun rfl _))
      rw [ib844] at ftx845
      have jb := J199.2
      refine aw_rem aj_d276 rfl (a := x822.toInt) (b := x845.toInt) rfl rfl (by omega) (by omega) (fun x846 ex846 => ?_)
      have dvx846 := ar_mod (a := x822.toInt) (b := x845.toInt) (by omega)
      rw [← ex846] at dvx846
      refine aw_t0 (j := 8) aj_d276 rfl (by decide) rfl ?_
      obtain ⟨lv847, elv847⟩ : ∃ l, l = aj_set1 lv816 8 (.int x846) := ⟨_, rfl⟩
      rw [← elv847]
      have hlv847_0 : aj_lv lv847 0 = some (.ref 117) := cw_e1 elv847 hlv816_0 (by decide) (Or.inl (by decide))
      have hlv847_1 : aj_lv lv847 1 = some (.int x817) := cw_e1 elv847 hlv816_1 (by decide) (Or.inl (by decide))
      have hlv847_3 : aj_lv lv847 3 = some (.int x818) := cw_e1 elv847 hlv816_3 (by decide) (Or.inl (by decide))
      have hlv847_4 : aj_lv lv847 4 = some (.int x819) := cw_e1 elv847 hlv816_4 (by decide) (Or.inl (by decide))
      have hlv847_5 : aj_lv lv847 5 = some (.int x820) := cw_e1 elv847 hlv816_5 (by decide) (Or.inl (by decide))
      have hlv847_6 : aj_lv lv847 6 = some (.int x821) := cw_e1 elv847 hlv816_6 (by decide) (Or.inl (by decide))
      have hlv847_7 : aj_lv lv847 7 = some (.int x822) := cw_e1 elv847 hlv816_7 (by decide) (Or.inr rfl)
      have hlv847_8 : aj_lv lv847 8 = some (.int x846) := by rw [elv847]; exact ak_set1_eq _ _ _
      show aw_W _ _ _ _ 222 lv847 [] _ _
      refine aw_n aj_d276 rfl rfl ?_
      refine aw_t0 (j := 9) aj_d276 rfl (by decide) rfl ?_
      obtain ⟨lv848, elv848⟩ : ∃ l, l = aj_set1 lv847 9 (.int (Int32.ofInt 0)) := ⟨_, rfl⟩
      rw [← elv848]
      have hlv848_0 : aj_lv lv848 0 = some (.ref 117) := cw_e1 elv848 hlv847_0 (by decide) (Or.inl (by decide))
      have hlv848_1 : aj_lv lv848 1 = some (.int x817) := cw_e1 elv848 hlv847_1 (by decide) (Or.inl (by decide))
      have hlv848_3 : aj_lv lv848 3 = some (.int x818) := cw_e1 elv848 hlv847_3 (by decide) (Or.inl (by decide))
      have hlv848_4 : aj_lv lv848 4 = some (.int x819) := cw_e1 elv848 hlv847_4 (by decide) (Or.inl (by decide))
      have hlv848_5 : aj_lv lv848 5 = some (.int x820) := cw_e1 elv848 hlv847_5 (by decide) (Or.inl (by decide))
      have hlv848_6 : aj_lv lv848 6 = some (.int x821) := cw_e1 elv848 hlv847_6 (by decide) (Or.inl (by decide))
      have hlv848_7 : aj_lv lv848 7 = some (.int x822) := cw_e1 elv848 hlv847_7 (by decide) (Or.inl (by decide))
      have hlv848_8 : aj_lv lv848 8 = some (.int x846) := cw_e1 elv848 hlv847_8 (by decide) (Or.inr rfl)
      have hlv848_9 : aj_lv lv848 9 = some (.int (Int32.ofInt 0)) := by rw [elv848]; exact ak_set1_eq _ _ _
      show aw_W _ _ _ _ 225 lv848 [] _ _
      exact (ar_join_L225_848 hU hd x0 hj N88 S717 x719 x720 x721 x722 ihL88_715 hm88 N127 S730 x732 x733 x734 x735 ihL127_728 hm127 N166 S744 x746 x747 x748 x749 ihL166_742 hm166 N199 S815 x817 x818 x819 x820 x821 x822 ihL199_813 hm199) _ S815 lv848 (x817) (x818) (x819) (x820) (x821) (x822) (x846) ((Int32.ofInt 0)) hlv848_0 hlv848_1 hlv848_3 hlv848_4 hlv848_5 hlv848_6 hlv848_7 hlv848_8 hlv848_9 ⟨(hI825).1, hI823.2⟩ fr824 (by omega) (by omega) (by omega) (by omega) (by omega) (by omega) (by omega) (by first | omega | decide) (show _ ≤ ((S815.1 30)).toInt by omega) J199 (by omega) (by omega) (by omega) (by omega) (by omega) (by omega) (by rw [show (S815.2.2.1 14) = S815.2.2.1 14 from rfl]; omega) (by omega) (Nat.lt_succ_self _)
theorem ar_join_L166_742 (hU : aw_U tb s h) (hd : 4 ≤ d + 1) (x0 : Nat) (hj : ar_JP S x0) (N88 : Nat) (S717 : aj_S) (x719 : Int32) (x720 : Int32) (x721 : Int32) (x722 : Int32) (ihL88_715 : ∀ (S717 : aj_S) (lv718 : aj_V) (x719 : Int32) (x720 : Int32) (x721 : Int32) (x722 : Int32), (aj_lv lv718 0 = some (.ref 117)) → (aj_lv lv718 1 = some (.int x719)) → (aj_lv lv718 3 = some (.int x720)) → (aj_lv lv718 4 = some (.int x721)) → (aj_lv lv718 5 = some (.int x722)) → (aw_I s h (aw_G g) S717) → (aw_fr [24, 25, 31] [14, 15, 16, 17, 18, 19] S S717) → (20 ≤ x719.toInt ∧ x719.toInt ≤ 47) → (21 ≤ x720.toInt ∧ x720.toInt ≤ 48) → (0 ≤ x721.toInt ∧ x721.toInt ≤ 6) → (0 ≤ x722.toInt ∧ x722.toInt ≤ 6) → ((S.1 30).toInt + 0 ≤ (S717.1 30).toInt) → (ar_J S S717 (x719.toInt).toNat) → (x720.toInt = x719.toInt + 1) → (x721.toInt = (S.2.2.1 15 (x719.toInt).toNat).toInt) → (x0 = (x719.toInt).toNat) → (6 - x722.toInt).toNat < N88 → aw_W tb h d aj_m276 88 lv718 [] S717 ((ar_QB s h [24, 25, 31] [14, 15, 16, 17, 18, 19] S (fun S' => aw_G g S' ∧ (S.1 30).toInt ≤ (S'.1 30).toInt) (fun S' => aw_G g S' ∧ (S.1 30).toInt + 0 ≤ (S'.1 30).toInt)))) (hm88 : (6 - x722.toInt).toNat < N88 + 1) (N127 : Nat) (S730 : aj_S) (x732 : Int32) (x733 : Int32) (x734 : Int32) (x735 : Int32) (ihL127_728 : ∀ (S730 : aj_S) (lv731 : aj_V) (x732 : Int32) (x733 : Int32) (x734 : Int32) (x735 : Int32), (aj_lv lv731 0 = some (.ref 117)) → (aj_lv lv731 1 = some (.int x732)) → (aj_lv lv731 3 = some (.int x733)) → (aj_lv lv731 4 = some (.int x734)) → (aj_lv lv731 5 = some (.int x735)) → (aw_I s h (aw_G g) S730) → (aw_fr [24, 25, 31] [14, 15, 16, 17, 18, 19] S S730) → (20 ≤ x732.toInt ∧ x732.toInt ≤ 47) → (21 ≤ x733.toInt ∧ x733.toInt ≤ 48) → (0 ≤ x734.toInt ∧ x734.toInt ≤ 6) → (0 ≤ x735.toInt ∧ x735.toInt ≤ 30) → ((S.1 30).toInt + 0 ≤ (S730.1 30).toInt) → (ar_J S S730 (x732.toInt).toNat) → (x733.toInt = x732.toInt + 1) → (x734.toInt = (S.2.2.1 15 (x732.toInt).toNat).toInt) → (x0 = (x732.toInt).toNat) → (30 - x735.toInt).toNat < N127 → aw_W tb h d aj_m276 127 lv731 [] S730 ((ar_QB s h [24, 25, 31] [14, 15, 16, 17, 18, 19] S (fun S' => aw_G g S' ∧ (S.1 30).toInt ≤ (S'.1 30).toInt) (fun S' => aw_G g S' ∧ (S.1 30).toInt + 0 ≤ (S'.1 30).toInt)))) (hm127 : (30 - x735.toInt).toNat < N127 + 1) : ∀ (N : Nat) (S744 : aj_S) (lv745 : aj_V) (x746 : Int32) (x747 : Int32) (x748 : Int32) (x749 : Int32), (aj_lv lv745 0 = some (.ref 117)) → (aj_lv lv745 1 = some (.int x746)) → (aj_lv lv745 3 = some (.int x747)) → (aj_lv lv745 4 = some (.int x748)) → (aj_lv lv745 5 = some (.int x749)) → (aw_I s h (aw_G g) S744) → (aw_fr [24, 25, 31] [14, 15, 16, 17, 18, 19] S S744) → (20 ≤ x746.toInt ∧ x746.toInt ≤ 47) → (21 ≤ x747.toInt ∧ x747.toInt ≤ 48) → (0 ≤ x748.toInt ∧ x748.toInt ≤ 6) → (0 ≤ x749.toInt ∧ x749.toInt ≤ 6) → ((S.1 30).toInt + 0 ≤ (S744.1 30).toInt) → (ar_J S S744 (x746.toInt).toNat) → (x747.toInt = x746.toInt + 1) → (x748.toInt = (S.2.2.1 15 (x746.toInt).toNat).toInt + ar_nw S (x746.toInt).toNat (x749.toInt).toNat) → (x749.toInt ≤ (S.2.2.1 15 ((x746.toInt).toNat + 1)).toInt) → (x0 = (x746.toInt).toNat) → (6 - x749.toInt).toNat < N → aw_W tb h d aj_m276 166 lv745 [] S744 ((ar_QB s h [24, 25, 31] [14, 15, 16, 17, 18, 19] S (fun S' => aw_G g S' ∧ (S.1 30).toInt ≤ (S'.1 30).toInt) (fun S' => aw_G g S' ∧ (S.1 30).toInt + 0 ≤ (S'.1 30).toInt))) := by
  have hs : aw_sT s := aw_hy_sT hU.2.2
  intro N166
  induction N166 with
  | zero =>
    intro S744 lv745 x746 x747 x748 x749 hlv745_0 hlv745_1 hlv745_3 hlv745_4 hlv745_5 hI750 fr751 bx746 bx747 bx748 bx749 ck166 J166 b166 n166 c166 x166 hm166
    omega
  | succ N166 ihL166_742 =>
    intro S744 lv745 x746 x747 x748 x749 hlv745_0 hlv745_1 hlv745_3 hlv745_4 hlv745_5 hI750 fr751 bx746 bx747 bx748 bx749 ck166 J166 b166 n166 c166 x166 hm166
    have hI752 : aw_I s h (aw_sm S744) S744 := ⟨hI750.1, aw_sm_rf⟩
    have b753 : 0 ≤ (S744.1 30).toInt ∧ (S744.1 30).toInt ≤ 1001 := aw_bd_f hs (hI752).1 (by decide) rfl
    have hjx := hj
    rw [x166] at hjx
    obtain ⟨hj1, hj2, hj3⟩ := hjx
    have nwl : ∀ c : Nat, (c : Int) ≤ (S.2.2.1 15 ((x746.toInt).toNat + 1)).toInt → ar_nw S (x746.toInt).toNat c ≤ ar_nw S (x746.toInt).toNat ((S.2.2.1 15 ((x746.toInt).toNat + 1)).toInt).toNat := fun c hc => ar_nw_le (by omega)
    have nwc := nwl (x749.toInt).toNat (by omega)
    refine aw_l0 aj_d276 rfl rfl hlv745_5 ?_
    refine aw_l2 aj_d276 rfl rfl hlv745_0 ?_
    refine aw_g hU.1 aj_d276 rfl rfl (by decide) (v := .ref 132) rfl ?_
    refine aw_l0 aj_d276 rfl rfl hlv745_3 ?_
    have ib754 : (x747.toInt).toNat = (x746.toInt).toNat + 1 := by omega
    refine aw_ld (k := 15) hU.1 aj_d276 (Or.inl ⟨rfl, rfl⟩) rfl (by decide) (by decide) rfl (a := x747.toInt) rfl (by omega) (by omega) (fun x755 ex755 => ?_)
    have bx755 : (-1) ≤ x755.toInt ∧ x755.toInt ≤ 6 := by
      rw [ex755]
      exact aw_bd_a hs (hI752).1 (k := 15) (by decide) (by decide) rfl (by decide) rfl (by omega)
    have ftx755 : x755.toInt = (S744.2.2.1 15 (x747.toInt).toNat).toInt := congrArg Int32.toInt (ex755.trans (congrFun rfl _))
    rw [ib754] at ftx755
    rw [J166.1.2 _ (by omega)] at ftx755
    refine aw_c (tgt := 402) aj_d276 rfl rfl (fun q756 => ?_) (fun q756 => ?_)
    · have q756 : x749.toInt ≥ x755.toInt := aw_t_ge (a := x749.toInt) (b := x755.toInt) rfl rfl q756
      refine aw_n aj_d276 rfl rfl ?_
      refine aw_t0 (j := 5) aj_d276 rfl (by decide) rfl ?_
      obtain ⟨lv757, elv757⟩ : ∃ l, l = aj_set1 lv745 5 (.int (Int32.ofInt 0)) := ⟨_, rfl⟩
      rw [← elv757]
      have hlv757_0 : aj_lv lv757 0 = some (.ref 117) := cw_e1 elv757 hlv745_0 (by decide) (Or.inl (by decide))
      have hlv757_1 : aj_lv lv757 1 = some (.int x746) := cw_e1 elv757 hlv745_1 (by decide) (Or.inl (by decide))
      have hlv757_3 : aj_lv lv757 3 = some (.int x747) := cw_e1 elv757 hlv745_3 (by decide) (Or.inl (by decide))
      have hlv757_4 : aj_lv lv757 4 = some (.int x748) := cw_e1 elv757 hlv745_4 (by decide) (Or.inr rfl)
      have hlv757_5 : aj_lv lv757 5 = some (.int (Int32.ofInt 0)) := by rw [elv757]; exact ak_set1_eq _ _ _
      show aw_W _ _ _ _ 405 lv757 [] _ _
      exact (ar_join_L405_757 hU hd x0 hj N88 S717 x719 x720 x721 x722 ihL88_715 hm88 N127 S730 x732 x733 x734 x735 ihL127_728 hm127 N166 S744 x746 x747 x748 x749 ihL166_742 hm166) _ S744 lv757 (x746) (x747) (x748) ((Int32.ofInt 0)) hlv757_0 hlv757_1 hlv757_3 hlv757_4 hlv757_5 ⟨(hI752).1, hI750.2⟩ fr751 (by omega) (by omega) (by omega) (by first | omega | decide) (show _ ≤ ((S744.1 30)).toInt by omega) J166 (by omega) (by omega) (Nat.lt_succ_self _)
    · have q756 : x749.toInt < x755.toInt := aw_t_ge (a := x749.toInt) (b := x755.toInt) rfl rfl q756
      refine aw_l2 aj_d276 rfl rfl hlv745_0 ?_
      refine aw_l0 aj_d276 rfl rfl hlv745_1 ?_
      refine aw_l2 aj_d276 rfl rfl hlv745_0 ?_
      refine aw_g hU.1 aj_d276 rfl rfl (by decide) (v := .ref 133) rfl ?_
      refine aw_l0 aj_d276 rfl rfl hlv745_3 ?_
      refine aw_n aj_d276 rfl rfl ?_
      refine aw_mul aj_d276 rfl (a := x747.toInt) (b := (8 : Int)) rfl rfl (by omega) (by omega) (fun x808 ex808 => ?_)
      refine aw_l0 aj_d276 rfl rfl hlv745_5 ?_
      refine aw_add aj_d276 rfl (a := x808.toInt) (b := x749.toInt) rfl rfl (by omega) (by omega) (fun x809 ex809 => ?_)
      refine aw_ldl (k := 16) hU.1 aj_d276 rfl (by decide) (by decide) rfl (a := x809.toInt) rfl (by omega) (by omega) (fun y810 ey810 => ?_)
      refine aw_k hU.1 aj_d276 rfl rfl [_, _] rfl rfl rfl (Nat.le_of_ble_eq_true rfl) (aw_columnOfK (aw_UV hU aw_Gs_sm) hI752 (by omega) (t := (x746.toInt).toNat) (by omega) (by omega)) ?_
      rintro _ zb811 ⟨b811, rfl, fb811, hfb811⟩
      rw [fb811]
      have bdb811 := aw_bd_a hs (hI752).1 (k := 15) (j := (x746.toInt).toNat) (by decide) (by decide) rfl (by decide) rfl (by omega)
      have hdb811 := ar_fd_of (c := (x749.toInt).toNat) (J166).1 (by omega) (by omega) bdb811.2 (by omega) ey810 hfb811
      have nwb811 : ((0 ≤ b811.toInt ∧ ar_nw S (x746.toInt).toNat ((x749.toInt).toNat + 1) = ar_nw S (x746.toInt).toNat (x749.toInt).toNat) ∨ (b811.toInt = -1 ∧ ar_nw S (x746.toInt).toNat ((x749.toInt).toNat + 1) = ar_nw S (x746.toInt).toNat (x749.toInt).toNat + 1)) := by
        rcases hdb811 with ⟨z1, z2, z3⟩ | ⟨z1, z2⟩
        · exact Or.inl ⟨z1, ar_nw_1 z3⟩
        · exact Or.inr ⟨z1, ar_nw_2 z2⟩
      have b5b811 : -1 ≤ b811.toInt ∧ b811.toInt ≤ 5 := by
        rcases hdb811 with ⟨z1, z2, z3⟩ | ⟨z1, z2⟩
        · omega
        · omega
      clear hdb811 hfb811 bdb811
      show aw_W _ _ _ _ 194 lv745 [.int b811] _ _
      refine aw_t0 (j := 6) aj_d276 rfl (by decide) rfl ?_
      obtain ⟨lv812, elv812⟩ : ∃ l, l = aj_set1 lv745 6 (.int b811) := ⟨_, rfl⟩
      rw [← elv812]
      have hlv812_0 : aj_lv lv812 0 = some (.ref 117) := cw_e1 elv812 hlv745_0 (by decide) (Or.inl (by decide))
      have hlv812_1 : aj_lv lv812 1 = some (.int x746) := cw_e1 elv812 hlv745_1 (by decide) (Or.inl (by decide))
      have hlv812_3 : aj_lv lv812 3 = some (.int x747) := cw_e1 elv812 hlv745_3 (by decide) (Or.inl (by decide))
      have hlv812_4 : aj_lv lv812 4 = some (.int x748) := cw_e1 elv812 hlv745_4 (by decide) (Or.inl (by decide))
      have hlv812_5 : aj_lv lv812 5 = some (.int x749) := cw_e1 elv812 hlv745_5 (by decide) (Or.inr rfl)
      have hlv812_6 : aj_lv lv812 6 = some (.int b811) := by rw [elv812]; exact ak_set1_eq _ _ _
      show aw_W _ _ _ _ 196 lv812 [] _ _
      refine aw_n aj_d276 rfl rfl ?_
      refine aw_t0 (j := 7) aj_d276 rfl (by decide) rfl ?_
      obtain ⟨lv813, elv813⟩ : ∃ l, l = aj_set1 lv812 7 (.int (Int32.ofInt 0)) := ⟨_, rfl⟩
      rw [← elv813]
      have hlv813_0 : aj_lv lv813 0 = some (.ref 117) := cw_e1 elv813 hlv812_0 (by decide) (Or.inl (by decide))
      have hlv813_1 : aj_lv lv813 1 = some (.int x746) := cw_e1 elv813 hlv812_1 (by decide) (Or.inl (by decide))
      have hlv813_3 : aj_lv lv813 3 = some (.int x747) := cw_e1 elv813 hlv812_3 (by decide) (Or.inl (by decide))
      have hlv813_4 : aj_lv lv813 4 = some (.int x748) := cw_e1 elv813 hlv812_4 (by decide) (Or.inl (by decide))
      have hlv813_5 : aj_lv lv813 5 = some (.int x749) := cw_e1 elv813 hlv812_5 (by decide) (Or.inl (by decide))
      have hlv813_6 : aj_lv lv813 6 = some (.int b811) := cw_e1 elv813 hlv812_6 (by decide) (Or.inr rfl)
      have hlv813_7 : aj_lv lv813 7 = some (.int (Int32.ofInt 0)) := by rw [elv813]; exact ak_set1_eq _ _ _
      show aw_W _ _ _ _ 199 lv813 [] _ _
      exact (ar_join_L199_813 hU hd x0 hj N88 S717 x719 x720 x721 x722 ihL88_715 hm88 N127 S730 x732 x733 x734 x735 ihL127_728 hm127 N166 S744 x746 x747 x748 x749 ihL166_742 hm166) _ S744 lv813 (x746) (x747) (x748) (x749) (b811) ((Int32.ofInt 0)) hlv813_0 hlv813_1 hlv813_3 hlv813_4 hlv813_5 hlv813_6 hlv813_7 ⟨(hI752).1, hI750.2⟩ fr751 (by omega) (by omega) (by omega) (by omega) (by omega) (by first | omega | decide) (show _ ≤ ((S744.1 30)).toInt by omega) J166 (by omega) (by omega) (by omega) (by omega) (by omega) (by omega) (Nat.lt_succ_self _)
theorem ar_join_L127_728 (hU : aw_U tb s h) (hd : 4 ≤ d + 1) (x0 : Nat) (hj : ar_JP S x0) (N88 : Nat) (S717 : aj_S) (x719 : Int32) (x720 : Int32) (x721 : Int32) (x722 : Int32) (ihL88_715 : ∀ (S717 : aj_S) (lv718 : aj_V) (x719 : Int32) (x720 : Int32) (x721 : Int32) (x722 : Int32), (aj_lv lv718 0 = some (.ref 117)) → (aj_lv lv718 1 = some (.int x719)) → (aj_lv lv718 3 = some (.int x720)) → (aj_lv lv718 4 = some (.int x721)) → (aj_lv lv718 5 = some (.int x722)) → (aw_I s h (aw_G g) S717) → (aw_fr [24, 25, 31] [14, 15, 16, 17, 18, 19] S S717) → (20 ≤ x719.toInt ∧ x719.toInt ≤ 47) → (21 ≤ x720.toInt ∧ x720.toInt ≤ 48) → (0 ≤ x721.toInt ∧ x721.toInt ≤ 6) → (0 ≤ x722.toInt ∧ x722.toInt ≤ 6) → ((S.1 30).toInt + 0 ≤ (S717.1 30).toInt) → (ar_J S S717 (x719.toInt).toNat) → (x720.toInt = x719.toInt + 1) → (x721.toInt = (S.2.2.1 15 (x719.toInt).toNat).toInt) → (x0 = (x719.toInt).toNat) → (6 - x722.toInt).toNat < N88 → aw_W tb h d aj_m276 88 lv718 [] S717 ((ar_QB s h [24, 25, 31] [14, 15, 16, 17, 18, 19] S (fun S' => aw_G g S' ∧ (S.1 30).toInt ≤ (S'.1 30).toInt) (fun S' => aw_G g S' ∧ (S.1 30).toInt + 0 ≤ (S'.1 30).toInt)))) (hm88 : (6 - x722.toInt).toNat < N88 + 1) : ∀ (N : Nat) (S730 : aj_S) (lv731 : aj_V) (x732 : Int32) (x733 : Int32) (x734 : Int32) (x735 : Int32), (aj_lv lv731 0 = some (.ref 117)) → (aj_lv lv731 1 = some (.int x732)) → (aj_lv lv731 3 = some (.int x733)) → (aj_lv lv731 4 = some (.int x734)) → (aj_lv lv731 5 = some (.int x735)) → (aw_I s h (aw_G g) S730) → (aw_fr [24, 25, 31] [14, 15, 16, 17, 18, 19] S S730) → (20 ≤ x732.toInt ∧ x732.toInt ≤ 47) → (21 ≤ x733.toInt ∧ x733.toInt ≤ 48) → (0 ≤ x734.toInt ∧ x734.toInt ≤ 6) → (0 ≤ x735.toInt ∧ x735.toInt ≤ 30) → ((S.1 30).toInt + 0 ≤ (S730.1 30).toInt) → (ar_J S S730 (x732.toInt).toNat) → (x733.toInt = x732.toInt + 1) → (x734.toInt = (S.2.2.1 15 (x732.toInt).toNat).toInt) → (x0 = (x732.toInt).toNat) → (30 - x735.toInt).toNat < N → aw_W tb h d aj_m276 127 lv731 [] S730 ((ar_QB s h [24, 25, 31] [14, 15, 16, 17, 18, 19] S (fun S' => aw_G g S' ∧ (S.1 30).toInt ≤ (S'.1 30).toInt) (fun S' => aw_G g S' ∧ (S.1 30).toInt + 0 ≤ (S'.1 30).toInt))) := by
  have hs : aw_sT s := aw_hy_sT hU.2.2
  intro N127
  induction N127 with
  | zero =>
    intro S730 lv731 x732 x733 x734 x735 hlv731_0 hlv731_1 hlv731_3 hlv731_4 hlv731_5 hI736 fr737 bx732 bx733 bx734 bx735 ck127 J127 b127 n127 x127 hm127
    omega
  | succ N127 ihL127_728 =>
    intro S730 lv731 x732 x733 x734 x735 hlv731_0 hlv731_1 hlv731_3 hlv731_4 hlv731_5 hI736 fr737 bx732 bx733 bx734 bx735 ck127 J127 b127 n127 x127 hm127
    have hI738 : aw_I s h (aw_sm S730) S730 := ⟨hI736.1, aw_sm_rf⟩
    have b739 : 0 ≤ (S730.1 30).toInt ∧ (S730.1 30).toInt ≤ 1001 := aw_bd_f hs (hI738).1 (by decide) rfl
    have hjx := hj
    rw [x127] at hjx
    obtain ⟨hj1, hj2, hj3⟩ := hjx
    refine aw_l0 aj_d276 rfl rfl hlv731_5 ?_
    refine aw_l2 aj_d276 rfl rfl hlv731_0 ?_
    refine aw_g hU.1 aj_d276 rfl rfl (by decide) (v := .ref 131) rfl ?_
    refine aw_n aj_d276 rfl rfl ?_
    refine aw_ld (k := 14) hU.1 aj_d276 (Or.inl ⟨rfl, rfl⟩) rfl (by decide) (by decide) rfl (a := (49 : Int)) rfl (by omega) (by omega) (fun x740 ex740 => ?_)
    have bx740 : 0 ≤ x740.toInt ∧ x740.toInt ≤ 30 := by
      rw [ex740]
      exact aw_bd_a hs (hI738).1 (k := 14) (by decide) (by decide) rfl (by decide) rfl (by omega)
    have ftx740 : x740.toInt = (S730.2.2.1 14 49).toInt := congrArg Int32.toInt (ex740.trans (congrFun rfl _))
    refine aw_c (tgt := 163) aj_d276 rfl rfl (fun q741 => ?_) (fun q741 => ?_)
    · have q741 : x735.toInt ≥ x740.toInt := aw_t_ge (a := x735.toInt) (b := x740.toInt) rfl rfl q741
      refine aw_n aj_d276 rfl rfl ?_
      refine aw_t0 (j := 5) aj_d276 rfl (by decide) rfl ?_
      obtain ⟨lv742, elv742⟩ : ∃ l, l = aj_set1 lv731 5 (.int (Int32.ofInt 0)) := ⟨_, rfl⟩
      rw [← elv742]
      have hlv742_0 : aj_lv lv742 0 = some (.ref 117) := cw_e1 elv742 hlv731_0 (by decide) (Or.inl (by decide))
      have hlv742_1 : aj_lv lv742 1 = some (.int x732) := cw_e1 elv742 hlv731_1 (by decide) (Or.inl (by decide))
      have hlv742_3 : aj_lv lv742 3 = some (.int x733) := cw_e1 elv742 hlv731_3 (by decide) (Or.inl (by decide))
      have hlv742_4 : aj_lv lv742 4 = some (.int x734) := cw_e1 elv742 hlv731_4 (by decide) (Or.inr rfl)
      have hlv742_5 : aj_lv lv742 5 = some (.int (Int32.ofInt 0)) := by rw [elv742]; exact ak_set1_eq _ _ _
      show aw_W _ _ _ _ 166 lv742 [] _ _
      exact (ar_join_L166_742 hU hd x0 hj N88 S717 x719 x720 x721 x722 ihL88_715 hm88 N127 S730 x732 x733 x734 x735 ihL127_728 hm127) _ S730 lv742 (x732) (x733) (x734) ((Int32.ofInt 0)) hlv742_0 hlv742_1 hlv742_3 hlv742_4 hlv742_5 ⟨(hI738).1, hI736.2⟩ fr737 (by omega) (by omega) (by omega) (by first | omega | decide) (show _ ≤ ((S730.1 30)).toInt by omega) J127 (by omega) (show (x734).toInt = (S.2.2.1 15 (x732.toInt).toNat).toInt + (0 : Int) by omega) (show (0 : Int) ≤ (S.2.2.1 15 ((x732.toInt).toNat + 1)).toInt by omega) (by omega) (Nat.lt_succ_self _)
    · have q741 : x735.toInt < x740.toInt := aw_t_ge (a := x735.toInt) (b := x740.toInt) rfl rfl q741
      refine aw_l2 aj_d276 rfl rfl hlv731_0 ?_
      refine aw_l0 aj_d276 rfl rfl hlv731_1 ?_
      refine aw_l0 aj_d276 rfl rfl hlv731_5 ?_
      refine aw_l2 aj_d276 rfl rfl hlv731_0 ?_
      refine aw_g hU.1 aj_d276 rfl rfl (by decide) (v := .ref 131) rfl ?_
      refine aw_l0 aj_d276 rfl rfl hlv731_3 ?_
      have ib918 : (x733.toInt).toNat = (x732.toInt).toNat + 1 := by omega
      refine aw_ld (k := 14) hU.1 aj_d276 (Or.inl ⟨rfl, rfl⟩) rfl (by decide) (by decide) rfl (a := x733.toInt) rfl (by omega) (by omega) (fun x919 ex919 => ?_)
      have bx919 : 0 ≤ x919.toInt ∧ x919.toInt ≤ 30 := by
        rw [ex919]
        exact aw_bd_a hs (hI738).1 (k := 14) (by decide) (by decide) rfl (by decide) rfl (by omega)
      have ftx919 : x919.toInt = (S730.2.2.1 14 (x733.toInt).toNat).toInt := congrArg Int32.toInt (ex919.trans (congrFun rfl _))
      rw [ib918] at ftx919
      have jb := J127.2
      refine aw_div aj_d276 rfl (a := x735.toInt) (b := x919.toInt) rfl rfl (by omega) (by omega) (fun x920 ex920 => ?_)
      have dvx920 := ar_div (a := x735.toInt) (b := x919.toInt) (by omega) (by omega)
      rw [← ex920] at dvx920
      refine aw_n aj_d276 rfl rfl ?_
      refine aw_l0 aj_d276 rfl rfl hlv731_5 ?_
      refine aw_k hU.1 aj_d276 rfl rfl [_, _, _, _] rfl rfl rfl (Nat.le_of_ble_eq_true rfl) (ar_copyRow hU (hI738).1 (aw_G_B hI736.2).1 (by omega) (t := x732) (r := x920) (u := (Int8.ofInt 49).toInt32) (v := x735) (by omega) (by omega) (by decide) (by omega)) ?_
      rintro _ S921 ⟨hT921, fc921, rfl, sk921, kv921⟩
      have hG921 := aw_G_sk hI736.2 sk921 kv921
      have fr922 := aw_fr_tr fr737 (aw_fr_sub (F := []) (A := [17, 18, 19]) (by decide) (by decide) fc921)
      have hI923 : aw_I s h (aw_sm S921) S921 := ⟨hT921, aw_sm_rf⟩
      show aw_W _ _ _ _ 157 lv731 [] _ _
      refine aw_inc aj_d276 rfl hlv731_5 (a := x735.toInt) rfl (by omega) (by omega) (by decide) (by decide) (fun x924 ex924 => ?_)
      obtain ⟨lv925, elv925⟩ : ∃ l, l = aj_set1 lv731 5 (.int x924) := ⟨_, rfl⟩
      rw [← elv925]
      have hlv925_0 : aj_lv lv925 0 = some (.ref 117) := cw_e1 elv925 hlv731_0 (by decide) (Or.inl (by decide))
      have hlv925_1 : aj_lv lv925 1 = some (.int x732) := cw_e1 elv925 hlv731_1 (by decide) (Or.inl (by decide))
      have hlv925_3 : aj_lv lv925 3 = some (.int x733) := cw_e1 elv925 hlv731_3 (by decide) (Or.inl (by decide))
      have hlv925_4 : aj_lv lv925 4 = some (.int x734) := cw_e1 elv925 hlv731_4 (by decide) (Or.inr rfl)
      have hlv925_5 : aj_lv lv925 5 = some (.int x924) := by rw [elv925]; exact ak_set1_eq _ _ _
      show aw_W _ _ _ _ 160 lv925 [] _ _
      refine aw_n aj_d276 rfl rfl ?_
      have c926 : (S921.1 30).toInt = (S730.1 30).toInt := (congrArg Int32.toInt (fc921.1 30 (by decide)).1).trans rfl
      have b927 : 0 ≤ (S921.1 30).toInt ∧ (S921.1 30).toInt ≤ 1001 := aw_bd_f hs (hI923).1 (by decide) rfl
      exact ihL127_728 S921 lv925 (x732) (x733) (x734) (x924) hlv925_0 hlv925_1 hlv925_3 hlv925_4 hlv925_5 ⟨(hI923).1, hG921⟩ fr922 (by omega) (by omega) (by omega) (by omega) (show _ ≤ ((S921.1 30)).toInt by omega) (ar_J_eq ((fc921.2 14 (by decide)).1.trans rfl) ((fc921.2 15 (by decide)).1.trans rfl) ((fc921.2 16 (by decide)).2.trans rfl) J127) (by omega) (by omega) (by omega) (by omega)
theorem ar_join_L88_715 (hU : aw_U tb s h) (hd : 4 ≤ d + 1) (x0 : Nat) (hj : ar_JP S x0)  : ∀ (N : Nat) (S717 : aj_S) (lv718 : aj_V) (x719 : Int32) (x720 : Int32) (x721 : Int32) (x722 : Int32), (aj_lv lv718 0 = some (.ref 117)) → (aj_lv lv718 1 = some (.int x719)) → (aj_lv lv718 3 = some (.int x720)) → (aj_lv lv718 4 = some (.int x721)) → (aj_lv lv718 5 = some (.int x722)) → (aw_I s h (aw_G g) S717) → (aw_fr [24, 25, 31] [14, 15, 16, 17, 18, 19] S S717) → (20 ≤ x719.toInt ∧ x719.toInt ≤ 47) → (21 ≤ x720.toInt ∧ x720.toInt ≤ 48) → (0 ≤ x721.toInt ∧ x721.toInt ≤ 6) → (0 ≤ x722.toInt ∧ x722.toInt ≤ 6) → ((S.1 30).toInt + 0 ≤ (S717.1 30).toInt) → (ar_J S S717 (x719.toInt).toNat) → (x720.toInt = x719.toInt + 1) → (x721.toInt = (S.2.2.1 15 (x719.toInt).toNat).toInt) → (x0 = (x719.toInt).toNat) → (6 - x722.toInt).toNat < N → aw_W tb h d aj_m276 88 lv718 [] S717 ((ar_QB s h [24, 25, 31] [14, 15, 16, 17, 18, 19] S (fun S' => aw_G g S' ∧ (S.1 30).toInt ≤ (S'.1 30).toInt) (fun S' => aw_G g S' ∧ (S.1 30).toInt + 0 ≤ (S'.1 30).toInt))) := by
  have hs : aw_sT s := aw_hy_sT hU.2.2
  intro N88
  induction N88 with
  | zero =>
    intro S717 lv718 x719 x720 x721 x722 hlv718_0 hlv718_1 hlv718_3 hlv718_4 hlv718_5 hI723 fr724 bx719 bx720 bx721 bx722 ck88 J88 b88 n88 x88 hm88
    omega
  | succ N88 ihL88_715 =>
    intro S717 lv718 x719 x720 x721 x722 hlv718_0 hlv718_1 hlv718_3 hlv718_4 hlv718_5 hI723 fr724 bx719 bx720 bx721 bx722 ck88 J88 b88 n88 x88 hm88
    have hI725 : aw_I s h (aw_sm S717) S717 := ⟨hI723.1, aw_sm_rf⟩
    have b726 : 0 ≤ (S717.1 30).toInt ∧ (S717.1 30).toInt ≤ 1001 := aw_bd_f hs (hI725).1 (by decide) rfl
    have hjx := hj
    rw [x88] at hjx
    obtain ⟨hj1, hj2, hj3⟩ := hjx
    refine aw_l0 aj_d276 rfl rfl hlv718_5 ?_
    refine aw_l0 aj_d276 rfl rfl hlv718_4 ?_
    refine aw_c (tgt := 124) aj_d276 rfl rfl (fun q727 => ?_) (fun q727 => ?_)
    · have q727 : x722.toInt ≥ x721.toInt := aw_t_ge (a := x722.toInt) (b := x721.toInt) rfl rfl q727
      refine aw_n aj_d276 rfl rfl ?_
      refine aw_t0 (j := 5) aj_d276 rfl (by decide) rfl ?_
      obtain ⟨lv728, elv728⟩ : ∃ l, l = aj_set1 lv718 5 (.int (Int32.ofInt 0)) := ⟨_, rfl⟩
      rw [← elv728]
      have hlv728_0 : aj_lv lv728 0 = some (.ref 117) := cw_e1 elv728 hlv718_0 (by decide) (Or.inl (by decide))
      have hlv728_1 : aj_lv lv728 1 = some (.int x719) := cw_e1 elv728 hlv718_1 (by decide) (Or.inl (by decide))
      have hlv728_3 : aj_lv lv728 3 = some (.int x720) := cw_e1 elv728 hlv718_3 (by decide) (Or.inl (by decide))
      have hlv728_4 : aj_lv lv728 4 = some (.int x721) := cw_e1 elv728 hlv718_4 (by decide) (Or.inr rfl)
      have hlv728_5 : aj_lv lv728 5 = some (.int (Int32.ofInt 0)) := by rw [elv728]; exact ak_set1_eq _ _ _
      show aw_W _ _ _ _ 127 lv728 [] _ _
      exact (ar_join_L127_728 hU hd x0 hj N88 S717 x719 x720 x721 x722 ihL88_715 hm88) _ S717 lv728 (x719) (x720) (x721) ((Int32.ofInt 0)) hlv728_0 hlv728_1 hlv728_3 hlv728_4 hlv728_5 ⟨(hI725).1, hI723.2⟩ fr724 (by omega) (by omega) (by omega) (by first | omega | decide) (show _ ≤ ((S717.1 30)).toInt by omega) J88 (by omega) (by omega) (by omega) (Nat.lt_succ_self _)
    · have q727 : x722.toInt < x721.toInt := aw_t_ge (a := x722.toInt) (b := x721.toInt) rfl rfl q727
      refine aw_l2 aj_d276 rfl rfl hlv718_0 ?_
      refine aw_g hU.1 aj_d276 rfl rfl (by decide) (v := .ref 133) rfl ?_
      refine aw_n aj_d276 rfl rfl ?_
      refine aw_l0 aj_d276 rfl rfl hlv718_5 ?_
      refine aw_add aj_d276 rfl (a := (392 : Int)) (b := x722.toInt) rfl rfl (by omega) (by omega) (fun x928 ex928 => ?_)
      refine aw_l2 aj_d276 rfl rfl hlv718_0 ?_
      refine aw_g hU.1 aj_d276 rfl rfl (by decide) (v := .ref 133) rfl ?_
      refine aw_l0 aj_d276 rfl rfl hlv718_1 ?_
      refine aw_n aj_d276 rfl rfl ?_
      refine aw_mul aj_d276 rfl (a := x719.toInt) (b := (8 : Int)) rfl rfl (by omega) (by omega) (fun x929 ex929 => ?_)
      refine aw_l0 aj_d276 rfl rfl hlv718_5 ?_
      refine aw_add aj_d276 rfl (a := x929.toInt) (b := x722.toInt) rfl rfl (by omega) (by omega) (fun x930 ex930 => ?_)
      refine aw_ldl (k := 16) hU.1 aj_d276 rfl (by decide) (by decide) rfl (a := x930.toInt) rfl (by omega) (by omega) (fun y931 ey931 => ?_)
      refine aw_stl (k := 16) hU.1 aj_d276 rfl (by decide) (by decide) rfl (a := x928.toInt) rfl (by omega) (by omega) ?_
      have hI932 := aw_I_b (aw_UV hU aw_Gs_sm) (k := 16) (j := (x928.toInt).toNat) (v := y931) hI725 (by decide) (by decide) (by decide) rfl rfl
      have fr933 := aw_fr_b (k := 16) (j := (x928.toInt).toNat) (v := y931) (by decide) fr724
      have J935 : ar_J S (aw_wb S717 16 (x928.toInt).toNat y931) (x719.toInt).toNat := (ar_J_col (by omega) J88)
      refine aw_inc aj_d276 rfl hlv718_5 (a := x722.toInt) rfl (by omega) (by omega) (by decide) (by decide) (fun x936 ex936 => ?_)
      obtain ⟨lv937, elv937⟩ : ∃ l, l = aj_set1 lv718 5 (.int x936) := ⟨_, rfl⟩
      rw [← elv937]
      have hlv937_0 : aj_lv lv937 0 = some (.ref 117) := cw_e1 elv937 hlv718_0 (by decide) (Or.inl (by decide))
      have hlv937_1 : aj_lv lv937 1 = some (.int x719) := cw_e1 elv937 hlv718_1 (by decide) (Or.inl (by decide))
      have hlv937_3 : aj_lv lv937 3 = some (.int x720) := cw_e1 elv937 hlv718_3 (by decide) (Or.inl (by decide))
      have hlv937_4 : aj_lv lv937 4 = some (.int x721) := cw_e1 elv937 hlv718_4 (by decide) (Or.inr rfl)
      have hlv937_5 : aj_lv lv937 5 = some (.int x936) := by rw [elv937]; exact ak_set1_eq _ _ _
      show aw_W _ _ _ _ 121 lv937 [] _ _
      refine aw_n aj_d276 rfl rfl ?_
      exact ihL88_715 (aw_wb S717 16 (x928.toInt).toNat y931) lv937 (x719) (x720) (x721) (x936) hlv937_0 hlv937_1 hlv937_3 hlv937_4 hlv937_5 ⟨(hI932).1, (aw_G_sm hI932.2 hI723.2)⟩ fr933 (by omega) (by omega) (by omega) (by omega) (show _ ≤ ((S717.1 30)).toInt by omega) J935 (by omega) (by omega) (by omega) (by omega)
theorem ar_join (hU : aw_U tb s h) (hT : ak_Ty ak_TN s (aj_mh h S)) (hG : aw_G g S) (hd : 4 ≤ d) {x y : Int32} (hx : 20 ≤ x.toInt ∧ x.toInt ≤ 47) (x0 : Nat) (hx0 : x0 = (x.toInt).toNat) (hj : ar_JP S x0) : aw_K tb h d 276 [.ref 117, .int x, .int y] S (ar_QB s h [24, 25, 31] [14, 15, 16, 17, 18, 19] S (fun S' => aw_G g S' ∧ (S.1 30).toInt ≤ (S'.1 30).toInt) (fun S' => aw_G g S' ∧ (S.1 30).toInt + 0 ≤ (S'.1 30).toInt)) := by
  obtain ⟨d, rfl⟩ : ∃ e, d = e + 1 := ⟨d - 1, by omega⟩
  have hjx := hj
  rw [hx0] at hjx
  obtain ⟨hj1, hj2, hj3⟩ := hjx
  have hs : aw_sT s := aw_hy_sT hU.2.2
  refine aw_m aj_m276_at rfl (Nat.le_of_ble_eq_true rfl) ?_
  show aw_W _ _ _ _ 0 [(0, .ref 117), (1, .int x), (2, .int y)] [] _ _
  obtain ⟨lv1, elv1⟩ : ∃ l : aj_V, l = [(0, .ref 117), (1, .int x), (2, .int y)] := ⟨_, rfl⟩
  rw [← elv1]
  have hlv1_0 : aj_lv lv1 0 = some (.ref 117) := by rw [elv1]; rfl
  have hlv1_1 : aj_lv lv1 1 = some (.int x) := by rw [elv1]; rfl
  have hlv1_2 : aj_lv lv1 2 = some (.int y) := by rw [elv1]; rfl
  have hI2 : aw_I s h (aw_sm S) S := ⟨hT, aw_sm_rf⟩
  have fr3 : aw_fr [24, 25, 31] [14, 15, 16, 17, 18, 19] S S := aw_fr_rf
  refine aw_l0 aj_d276 rfl rfl hlv1_1 ?_
  refine aw_n aj_d276 rfl rfl ?_
  refine aw_add aj_d276 rfl (a := x.toInt) (b := (1 : Int)) rfl rfl (by omega) (by omega) (fun x4 ex4 => ?_)
  refine aw_t0 (j := 3) aj_d276 rfl (by decide) rfl ?_
  obtain ⟨lv5, elv5⟩ : ∃ l, l = aj_set1 lv1 3 (.int x4) := ⟨_, rfl⟩
  rw [← elv5]
  have hlv5_0 : aj_lv lv5 0 = some (.ref 117) := cw_e1 elv5 hlv1_0 (by decide) (Or.inl (by decide))
  have hlv5_1 : aj_lv lv5 1 = some (.int x) := cw_e1 elv5 hlv1_1 (by decide) (Or.inl (by decide))
  have hlv5_2 : aj_lv lv5 2 = some (.int y) := cw_e1 elv5 hlv1_2 (by decide) (Or.inr rfl)
  have hlv5_3 : aj_lv lv5 3 = some (.int x4) := by rw [elv5]; exact ak_set1_eq _ _ _
  show aw_W _ _ _ _ 4 lv5 [] _ _
  refine aw_l2 aj_d276 rfl rfl hlv5_0 ?_
  have b6 : 0 ≤ (S.1 32).toInt ∧ (S.1 32).toInt ≤ 1 := aw_bd_f hs (hI2).1 (by decide) rfl
  refine aw_g hU.1 aj_d276 rfl rfl (by decide) (v := .int (S.1 32)) rfl ?_
  refine aw_z (tgt := 37) aj_d276 rfl rfl (fun q7 => ?_) (fun q7 => ?_)
  · have q7 : (S.1 32).toInt = (0 : Int) := aw_t_eq (a := (S.1 32).toInt) (b := (0 : Int)) rfl rfl q7
    refine aw_l2 aj_d276 rfl rfl hlv5_0 ?_
    refine aw_g hU.1 aj_d276 rfl rfl (by decide) (v := .ref 132) rfl ?_
    refine aw_l0 aj_d276 rfl rfl hlv5_1 ?_
    refine aw_ld (k := 15) hU.1 aj_d276 (Or.inl ⟨rfl, rfl⟩) rfl (by decide) (by decide) rfl (a := x.toInt) rfl (by omega) (by omega) (fun x8 ex8 => ?_)
    have bx8 : (-1) ≤ x8.toInt ∧ x8.toInt ≤ 6 := by
      rw [ex8]
      exact aw_bd_a hs (hI2).1 (k := 15) (by decide) (by decide) rfl (by decide) rfl (by omega)
    have ftx8 : x8.toInt = (S.2.2.1 15 (x.toInt).toNat).toInt := congrArg Int32.toInt (ex8.trans (congrFun rfl _))
    refine aw_t0 (j := 4) aj_d276 rfl (by decide) rfl ?_
    obtain ⟨lv9, elv9⟩ : ∃ l, l = aj_set1 lv5 4 (.int x8) := ⟨_, rfl⟩
    rw [← elv9]
    have hlv9_0 : aj_lv lv9 0 = some (.ref 117) := cw_e1 elv9 hlv5_0 (by decide) (Or.inl (by decide))
    have hlv9_1 : aj_lv lv9 1 = some (.int x) := cw_e1 elv9 hlv5_1 (by decide) (Or.inl (by decide))
    have hlv9_3 : aj_lv lv9 3 = some (.int x4) := cw_e1 elv9 hlv5_3 (by decide) (Or.inr rfl)
    have hlv9_4 : aj_lv lv9 4 = some (.int x8) := by rw [elv9]; exact ak_set1_eq _ _ _
    show aw_W _ _ _ _ 45 lv9 [] _ _
    refine aw_l2 aj_d276 rfl rfl hlv9_0 ?_
    refine aw_g hU.1 aj_d276 rfl rfl (by decide) (v := .ref 132) rfl ?_
    refine aw_n aj_d276 rfl rfl ?_
    refine aw_l0 aj_d276 rfl rfl hlv9_4 ?_
    refine aw_st (k := 15) hU.1 aj_d276 (Or.inl ⟨rfl, rfl⟩) rfl (by decide) (by decide) rfl (a := (49 : Int)) rfl (by omega) (by omega) ?_
    have hI10 := aw_I_a (aw_UV hU aw_Gs_sm) (k := 15) (j := ((49 : Int)).toNat) (v := aj_nar 0 x8) hI2 (by decide) (by decide) (by decide) rfl (by decide) (by decide) rfl (aw_bp (a := x8.toInt) rfl (by omega) (by omega))
    have fr11 := aw_fr_a (k := 15) (j := ((49 : Int)).toNat) (v := aj_nar 0 x8) (by decide) fr3
    refine aw_l2 aj_d276 rfl rfl hlv9_0 ?_
    refine aw_g hU.1 aj_d276 rfl rfl (by decide) (v := .ref 131) rfl ?_
    refine aw_n aj_d276 rfl rfl ?_
    refine aw_l2 aj_d276 rfl rfl hlv9_0 ?_
    refine aw_g hU.1 aj_d276 rfl rfl (by decide) (v := .int (S.1 32)) rfl ?_
    refine aw_z (tgt := 83) aj_d276 rfl rfl (fun q12 => ?_) (fun q12 => ?_)
    · have q12 : (S.1 32).toInt = (0 : Int) := aw_t_eq (a := (S.1 32).toInt) (b := (0 : Int)) rfl rfl q12
      refine aw_n aj_d276 rfl rfl ?_
      refine aw_st (k := 14) hU.1 aj_d276 (Or.inl ⟨rfl, rfl⟩) rfl (by decide) (by decide) rfl (a := (49 : Int)) rfl (by omega) (by omega) ?_
      have hI13 := aw_I_a (aw_UV hU aw_Gs_sm) (k := 14) (j := ((49 : Int)).toNat) (v := aj_nar 0 (Int32.ofInt 0)) hI10 (by decide) (by decide) (by decide) rfl (by decide) (by decide) rfl (aw_bp (a := (0 : Int)) rfl (by omega) (by omega))
      have fr14 := aw_fr_a (k := 14) (j := ((49 : Int)).toNat) (v := aj_nar 0 (Int32.ofInt 0)) (by decide) fr11
      have J15 : ar_J S (aw_wa (aw_wa S 15 ((49 : Int)).toNat (aj_nar 0 x8)) 14 ((49 : Int)).toNat (aj_nar 0 (Int32.ofInt 0))) (x.toInt).toNat := ar_J_0 (by omega) (by exact Or.inl (by decide))
      refine aw_n aj_d276 rfl rfl ?_
      refine aw_t0 (j := 5) aj_d276 rfl (by decide) rfl ?_
      obtain ⟨lv16, elv16⟩ : ∃ l, l = aj_set1 lv9 5 (.int (Int32.ofInt 0)) := ⟨_, rfl⟩
      rw [← elv16]
      have hlv16_0 : aj_lv lv16 0 = some (.ref 117) := cw_e1 elv16 hlv9_0 (by decide) (Or.inl (by decide))
      have hlv16_1 : aj_lv lv16 1 = some (.int x) := cw_e1 elv16 hlv9_1 (by decide) (Or.inl (by decide))
      have hlv16_3 : aj_lv lv16 3 = some (.int x4) := cw_e1 elv16 hlv9_3 (by decide) (Or.inl (by decide))
      have hlv16_4 : aj_lv lv16 4 = some (.int x8) := cw_e1 elv16 hlv9_4 (by decide) (Or.inr rfl)
      have hlv16_5 : aj_lv lv16 5 = some (.int (Int32.ofInt 0)) := by rw [elv16]; exact ak_set1_eq _ _ _
      show aw_W _ _ _ _ 88 lv16 [] _ _
      have b239 : 0 ≤ (S.1 30).toInt ∧ (S.1 30).toInt ≤ 1001 := aw_bd_f hs (hI2).1 (by decide) rfl
      exact (ar_join_L88_16 hU hd x0 hj ) _ (aw_wa (aw_wa S 15 ((49 : Int)).toNat (aj_nar 0 x8)) 14 ((49 : Int)).toNat (aj_nar 0 (Int32.ofInt 0))) lv16 (x) (x4) (x8) ((Int32.ofInt 0)) hlv16_0 hlv16_1 hlv16_3 hlv16_4 hlv16_5 ⟨(hI13).1, (aw_G_sm hI13.2 hG)⟩ fr14 (by omega) (by omega) (by omega) (by first | omega | decide) (show _ ≤ ((S.1 30)).toInt by omega) J15 (by omega) (by omega) (by omega) (Nat.lt_succ_self _)
    · have q12 : (S.1 32).toInt ≠ (0 : Int) := aw_t_eq (a := (S.1 32).toInt) (b := (0 : Int)) rfl rfl q12
      refine aw_l2 aj_d276 rfl rfl hlv9_0 ?_
      refine aw_g hU.1 aj_d276 rfl rfl (by decide) (v := .ref 131) rfl ?_
      refine aw_l0 aj_d276 rfl rfl hlv9_1 ?_
      refine aw_ld (k := 14) hU.1 aj_d276 (Or.inl ⟨rfl, rfl⟩) rfl (by decide) (by decide) rfl (a := x.toInt) rfl (by omega) (by omega) (fun x240 ex240 => ?_)
      have bx240 : 0 ≤ x240.toInt ∧ x240.toInt ≤ 30 := by
        rw [ex240]
        exact aw_bd_a hs (hI10).1 (k := 14) (by decide) (by decide) rfl (by decide) rfl (by omega)
      have ftx240 : x240.toInt = (S.2.2.1 14 (x.toInt).toNat).toInt := congrArg Int32.toInt (ex240.trans (congrFun rfl _))
      refine aw_l2 aj_d276 rfl rfl hlv9_0 ?_
      refine aw_g hU.1 aj_d276 rfl rfl (by decide) (v := .ref 131) rfl ?_
      refine aw_l0 aj_d276 rfl rfl hlv9_3 ?_
      have ib241 : (x4.toInt).toNat = (x.toInt).toNat + 1 := by omega
      refine aw_ld (k := 14) hU.1 aj_d276 (Or.inl ⟨rfl, rfl⟩) rfl (by decide) (by decide) rfl (a := x4.toInt) rfl (by omega) (by omega) (fun x242 ex242 => ?_)
      have bx242 : 0 ≤ x242.toInt ∧ x242.toInt ≤ 30 := by
        rw [ex242]
        exact aw_bd_a hs (hI10).1 (k := 14) (by decide) (by decide) rfl (by decide) rfl (by omega)
      have ftx242 : x242.toInt = (S.2.2.1 14 (x4.toInt).toNat).toInt := congrArg Int32.toInt (ex242.trans (congrFun rfl _))
      rw [ib241] at ftx242
      have mbx242 := ar_mulb (a := x240.toInt) (b := x242.toInt) (by omega) (by omega)
      refine aw_mul aj_d276 rfl (a := x240.toInt) (b := x242.toInt) rfl rfl (by omega) (by omega) (fun x243 ex243 => ?_)
      refine aw_n aj_d276 rfl rfl ?_
      refine aw_st (k := 14) hU.1 aj_d276 (Or.inl ⟨rfl, rfl⟩) rfl (by decide) (by decide) rfl (a := (49 : Int)) rfl (by omega) (by omega) ?_
      have hI244 := aw_I_a (aw_UV hU aw_Gs_sm) (k := 14) (j := ((49 : Int)).toNat) (v := aj_nar 0 x243) hI10 (by decide) (by decide) (by decide) rfl (by decide) (by decide) rfl (aw_bp (a := x243.toInt) rfl (by omega) (by omega))
      have fr245 := aw_fr_a (k := 14) (j := ((49 : Int)).toNat) (v := aj_nar 0 x243) (by decide) fr11
      have J246 : ar_J S (aw_wa (aw_wa S 15 ((49 : Int)).toNat (aj_nar 0 x8)) 14 ((49 : Int)).toNat (aj_nar 0 x243)) (x.toInt).toNat := ar_J_0 (by omega) (by show (x243).toInt ≤ 0 ∨ _; omega)
      refine aw_n aj_d276 rfl rfl ?_
      refine aw_t0 (j := 5) aj_d276 rfl (by decide) rfl ?_
      obtain ⟨lv247, elv247⟩ : ∃ l, l = aj_set1 lv9 5 (.int (Int32.ofInt 0)) := ⟨_, rfl⟩
      rw [← elv247]
      have hlv247_0 : aj_lv lv247 0 = some (.ref 117) := cw_e1 elv247 hlv9_0 (by decide) (Or.inl (by decide))
      have hlv247_1 : aj_lv lv247 1 = some (.int x) := cw_e1 elv247 hlv9_1 (by decide) (Or.inl (by decide))
      have hlv247_3 : aj_lv lv247 3 = some (.int x4) := cw_e1 elv247 hlv9_3 (by decide) (Or.inl (by decide))
      have hlv247_4 : aj_lv lv247 4 = some (.int x8) := cw_e1 elv247 hlv9_4 (by decide) (Or.inr rfl)
      have hlv247_5 : aj_lv lv247 5 = some (.int (Int32.ofInt 0)) := by rw [elv247]; exact ak_set1_eq _ _ _
      show aw_W _ _ _ _ 88 lv247 [] _ _
      have b470 : 0 ≤ (S.1 30).toInt ∧ (S.1 30).toInt ≤ 1001 := aw_bd_f hs (hI2).1 (by decide) rfl
      exact (ar_join_L88_247 hU hd x0 hj ) _ (aw_wa (aw_wa S 15 ((49 : Int)).toNat (aj_nar 0 x8)) 14 ((49 : Int)).toNat (aj_nar 0 x243)) lv247 (x) (x4) (x8) ((Int32.ofInt 0)) hlv247_0 hlv247_1 hlv247_3 hlv247_4 hlv247_5 ⟨(hI244).1, (aw_G_sm hI244.2 hG)⟩ fr245 (by omega) (by omega) (by omega) (by first | omega | decide) (show _ ≤ ((S.1 30)).toInt by omega) J246 (by omega) (by omega) (by omega) (Nat.lt_succ_self _)
  · have q7 : (S.1 32).toInt ≠ (0 : Int) := aw_t_eq (a := (S.1 32).toInt) (b := (0 : Int)) rfl rfl q7
    refine aw_l2 aj_d276 rfl rfl hlv5_0 ?_
    refine aw_g hU.1 aj_d276 rfl rfl (by decide) (v := .ref 131) rfl ?_
    refine aw_l0 aj_d276 rfl rfl hlv5_1 ?_
    refine aw_ld (k := 14) hU.1 aj_d276 (Or.inl ⟨rfl, rfl⟩) rfl (by decide) (by decide) rfl (a := x.toInt) rfl (by omega) (by omega) (fun x471 ex471 => ?_)
    have bx471 : 0 ≤ x471.toInt ∧ x471.toInt ≤ 30 := by
      rw [ex471]
      exact aw_bd_a hs (hI2).1 (k := 14) (by decide) (by decide) rfl (by decide) rfl (by omega)
    have ftx471 : x471.toInt = (S.2.2.1 14 (x.toInt).toNat).toInt := congrArg Int32.toInt (ex471.trans (congrFun rfl _))
    refine aw_l2 aj_d276 rfl rfl hlv5_0 ?_
    refine aw_g hU.1 aj_d276 rfl rfl (by decide) (v := .ref 131) rfl ?_
    refine aw_l0 aj_d276 rfl rfl hlv5_3 ?_
    have ib472 : (x4.toInt).toNat = (x.toInt).toNat + 1 := by omega
    refine aw_ld (k := 14) hU.1 aj_d276 (Or.inl ⟨rfl, rfl⟩) rfl (by decide) (by decide) rfl (a := x4.toInt) rfl (by omega) (by omega) (fun x473 ex473 => ?_)
    have bx473 : 0 ≤ x473.toInt ∧ x473.toInt ≤ 30 := by
      rw [ex473]
      exact aw_bd_a hs (hI2).1 (k := 14) (by decide) (by decide) rfl (by decide) rfl (by omega)
    have ftx473 : x473.toInt = (S.2.2.1 14 (x4.toInt).toNat).toInt := congrArg Int32.toInt (ex473.trans (congrFun rfl _))
    rw [ib472] at ftx473
    have mbx473 := ar_mulb (a := x471.toInt) (b := x473.toInt) (by omega) (by omega)
    refine aw_mul aj_d276 rfl (a := x471.toInt) (b := x473.toInt) rfl rfl (by omega) (by omega) (fun x474 ex474 => ?_)
    refine aw_n aj_d276 rfl rfl ?_
    refine aw_c (tgt := 37) aj_d276 rfl rfl (fun q475 => ?_) (fun q475 => ?_)
    · have q475 : x474.toInt ≤ (30 : Int) := aw_t_le (a := x474.toInt) (b := (30 : Int)) rfl rfl q475
      refine aw_l2 aj_d276 rfl rfl hlv5_0 ?_
      refine aw_g hU.1 aj_d276 rfl rfl (by decide) (v := .ref 132) rfl ?_
      refine aw_l0 aj_d276 rfl rfl hlv5_1 ?_
      refine aw_ld (k := 15) hU.1 aj_d276 (Or.inl ⟨rfl, rfl⟩) rfl (by decide) (by decide) rfl (a := x.toInt) rfl (by omega) (by omega) (fun x476 ex476 => ?_)
      have bx476 : (-1) ≤ x476.toInt ∧ x476.toInt ≤ 6 := by
        rw [ex476]
        exact aw_bd_a hs (hI2).1 (k := 15) (by decide) (by decide) rfl (by decide) rfl (by omega)
      have ftx476 : x476.toInt = (S.2.2.1 15 (x.toInt).toNat).toInt := congrArg Int32.toInt (ex476.trans (congrFun rfl _))
      refine aw_t0 (j := 4) aj_d276 rfl (by decide) rfl ?_
      obtain ⟨lv477, elv477⟩ : ∃ l, l = aj_set1 lv5 4 (.int x476) := ⟨_, rfl⟩
      rw [← elv477]
      have hlv477_0 : aj_lv lv477 0 = some (.ref 117) := cw_e1 elv477 hlv5_0 (by decide) (Or.inl (by decide))
      have hlv477_1 : aj_lv lv477 1 = some (.int x) := cw_e1 elv477 hlv5_1 (by decide) (Or.inl (by decide))
      have hlv477_3 : aj_lv lv477 3 = some (.int x4) := cw_e1 elv477 hlv5_3 (by decide) (Or.inr rfl)
      have hlv477_4 : aj_lv lv477 4 = some (.int x476) := by rw [elv477]; exact ak_set1_eq _ _ _
      show aw_W _ _ _ _ 45 lv477 [] _ _
      refine aw_l2 aj_d276 rfl rfl hlv477_0 ?_
      refine aw_g hU.1 aj_d276 rfl rfl (by decide) (v := .ref 132) rfl ?_
      refine aw_n aj_d276 rfl rfl ?_
      refine aw_l0 aj_d276 rfl rfl hlv477_4 ?_
      refine aw_st (k := 15) hU.1 aj_d276 (Or.inl ⟨rfl, rfl⟩) rfl (by decide) (by decide) rfl (a := (49 : Int)) rfl (by omega) (by omega) ?_
      have hI478 := aw_I_a (aw_UV hU aw_Gs_sm) (k := 15) (j := ((49 : Int)).toNat) (v := aj_nar 0 x476) hI2 (by decide) (by decide) (by decide) rfl (by decide) (by decide) rfl (aw_bp (a := x476.toInt) rfl (by omega) (by omega))
      have fr479 := aw_fr_a (k := 15) (j := ((49 : Int)).toNat) (v := aj_nar 0 x476) (by decide) fr3
      refine aw_l2 aj_d276 rfl rfl hlv477_0 ?_
      refine aw_g hU.1 aj_d276 rfl rfl (by decide) (v := .ref 131) rfl ?_
      refine aw_n aj_d276 rfl rfl ?_
      refine aw_l2 aj_d276 rfl rfl hlv477_0 ?_
      refine aw_g hU.1 aj_d276 rfl rfl (by decide) (v := .int (S.1 32)) rfl ?_
      refine aw_z (tgt := 83) aj_d276 rfl rfl (fun q480 => ?_) (fun q480 => ?_)
      · have q480 : (S.1 32).toInt = (0 : Int) := aw_t_eq (a := (S.1 32).toInt) (b := (0 : Int)) rfl rfl q480
        refine aw_n aj_d276 rfl rfl ?_
        refine aw_st (k := 14) hU.1 aj_d276 (Or.inl ⟨rfl, rfl⟩) rfl (by decide) (by decide) rfl (a := (49 : Int)) rfl (by omega) (by omega) ?_
        have hI481 := aw_I_a (aw_UV hU aw_Gs_sm) (k := 14) (j := ((49 : Int)).toNat) (v := aj_nar 0 (Int32.ofInt 0)) hI478 (by decide) (by decide) (by decide) rfl (by decide) (by decide) rfl (aw_bp (a := (0 : Int)) rfl (by omega) (by omega))
        have fr482 := aw_fr_a (k := 14) (j := ((49 : Int)).toNat) (v := aj_nar 0 (Int32.ofInt 0)) (by decide) fr479
        have J483 : ar_J S (aw_wa (aw_wa S 15 ((49 : Int)).toNat (aj_nar 0 x476)) 14 ((49 : Int)).toNat (aj_nar 0 (Int32.ofInt 0))) (x.toInt).toNat := ar_J_0 (by omega) (by exact Or.inl (by decide))
        refine aw_n aj_d276 rfl rfl ?_
        refine aw_t0 (j := 5) aj_d276 rfl (by decide) rfl ?_
        obtain ⟨lv484, elv484⟩ : ∃ l, l = aj_set1 lv477 5 (.int (Int32.ofInt 0)) := ⟨_, rfl⟩
        rw [← elv484]
        have hlv484_0 : aj_lv lv484 0 = some (.ref 117) := cw_e1 elv484 hlv477_0 (by decide) (Or.inl (by decide))
        have hlv484_1 : aj_lv lv484 1 = some (.int x) := cw_e1 elv484 hlv477_1 (by decide) (Or.inl (by decide))
        have hlv484_3 : aj_lv lv484 3 = some (.int x4) := cw_e1 elv484 hlv477_3 (by decide) (Or.inl (by decide))
        have hlv484_4 : aj_lv lv484 4 = some (.int x476) := cw_e1 elv484 hlv477_4 (by decide) (Or.inr rfl)
        have hlv484_5 : aj_lv lv484 5 = some (.int (Int32.ofInt 0)) := by rw [elv484]; exact ak_set1_eq _ _ _
        show aw_W _ _ _ _ 88 lv484 [] _ _
        have b707 : 0 ≤ (S.1 30).toInt ∧ (S.1 30).toInt ≤ 1001 := aw_bd_f hs (hI2).1 (by decide) rfl
        exact (ar_join_L88_484 hU hd x0 hj ) _ (aw_wa (aw_wa S 15 ((49 : Int)).toNat (aj_nar 0 x476)) 14 ((49 : Int)).toNat (aj_nar 0 (Int32.ofInt 0))) lv484 (x) (x4) (x476) ((Int32.ofInt 0)) hlv484_0 hlv484_1 hlv484_3 hlv484_4 hlv484_5 ⟨(hI481).1, (aw_G_sm hI481.2 hG)⟩ fr482 (by omega) (by omega) (by omega) (by first | omega | decide) (show _ ≤ ((S.1 30)).toInt by omega) J483 (by omega) (by omega) (by omega) (Nat.lt_succ_self _)
      · have q480 : (S.1 32).toInt ≠ (0 : Int) := aw_t_eq (a := (S.1 32).toInt) (b := (0 : Int)) rfl rfl q480
        refine aw_l2 aj_d276 rfl rfl hlv477_0 ?_
        refine aw_g hU.1 aj_d276 rfl rfl (by decide) (v := .ref 131) rfl ?_
        refine aw_l0 aj_d276 rfl rfl hlv477_1 ?_
        refine aw_ld (k := 14) hU.1 aj_d276 (Or.inl ⟨rfl, rfl⟩) rfl (by decide) (by decide) rfl (a := x.toInt) rfl (by omega) (by omega) (fun x708 ex708 => ?_)
        have bx708 : 0 ≤ x708.toInt ∧ x708.toInt ≤ 30 := by
          rw [ex708]
          exact aw_bd_a hs (hI478).1 (k := 14) (by decide) (by decide) rfl (by decide) rfl (by omega)
        have ftx708 : x708.toInt = (S.2.2.1 14 (x.toInt).toNat).toInt := congrArg Int32.toInt (ex708.trans (congrFun rfl _))
        refine aw_l2 aj_d276 rfl rfl hlv477_0 ?_
        refine aw_g hU.1 aj_d276 rfl rfl (by decide) (v := .ref 131) rfl ?_
        refine aw_l0 aj_d276 rfl rfl hlv477_3 ?_
        have ib709 : (x4.toInt).toNat = (x.toInt).toNat + 1 := by omega
        refine aw_ld (k := 14) hU.1 aj_d276 (Or.inl ⟨rfl, rfl⟩) rfl (by decide) (by decide) rfl (a := x4.toInt) rfl (by omega) (by omega) (fun x710 ex710 => ?_)
        have bx710 : 0 ≤ x710.toInt ∧ x710.toInt ≤ 30 := by
          rw [ex710]
          exact aw_bd_a hs (hI478).1 (k := 14) (by decide) (by decide) rfl (by decide) rfl (by omega)
        have ftx710 : x710.toInt = (S.2.2.1 14 (x4.toInt).toNat).toInt := congrArg Int32.toInt (ex710.trans (congrFun rfl _))
        rw [ib709] at ftx710
        have mbx710 := ar_mulb (a := x708.toInt) (b := x710.toInt) (by omega) (by omega)
        have mex710 : x708.toInt * x710.toInt = x471.toInt * x473.toInt := by rw [show x708.toInt = x471.toInt by omega, show x710.toInt = x473.toInt by omega]
        refine aw_mul aj_d276 rfl (a := x708.toInt) (b := x710.toInt) rfl rfl (by omega) (by omega) (fun x711 ex711 => ?_)
        refine aw_n aj_d276 rfl rfl ?_
        refine aw_st (k := 14) hU.1 aj_d276 (Or.inl ⟨rfl, rfl⟩) rfl (by decide) (by decide) rfl (a := (49 : Int)) rfl (by omega) (by omega) ?_
        have hI712 := aw_I_a (aw_UV hU aw_Gs_sm) (k := 14) (j := ((49 : Int)).toNat) (v := aj_nar 0 x711) hI478 (by decide) (by decide) (by decide) rfl (by decide) (by decide) rfl (aw_bp (a := x711.toInt) rfl (by omega) (by omega))
        have fr713 := aw_fr_a (k := 14) (j := ((49 : Int)).toNat) (v := aj_nar 0 x711) (by decide) fr479
        have J714 : ar_J S (aw_wa (aw_wa S 15 ((49 : Int)).toNat (aj_nar 0 x476)) 14 ((49 : Int)).toNat (aj_nar 0 x711)) (x.toInt).toNat := ar_J_0 (by omega) (by show (x711).toInt ≤ 0 ∨ _; omega)
        refine aw_n aj_d276 rfl rfl ?_
        refine aw_t0 (j := 5) aj_d276 rfl (by decide) rfl ?_
        obtain ⟨lv715, elv715⟩ : ∃ l, l = aj_set1 lv477 5 (.int (Int32.ofInt 0)) := ⟨_, rfl⟩
        rw [← elv715]
        have hlv715_0 : aj_lv lv715 0 = some (.ref 117) := cw_e1 elv715 hlv477_0 (by decide) (Or.inl (by decide))
        have hlv715_1 : aj_lv lv715 1 = some (.int x) := cw_e1 elv715 hlv477_1 (by decide) (Or.inl (by decide))
        have hlv715_3 : aj_lv lv715 3 = some (.int x4) := cw_e1 elv715 hlv477_3 (by decide) (Or.inl (by decide))
        have hlv715_4 : aj_lv lv715 4 = some (.int x476) := cw_e1 elv715 hlv477_4 (by decide) (Or.inr rfl)
        have hlv715_5 : aj_lv lv715 5 = some (.int (Int32.ofInt 0)) := by rw [elv715]; exact ak_set1_eq _ _ _
        show aw_W _ _ _ _ 88 lv715 [] _ _
        have b938 : 0 ≤ (S.1 30).toInt ∧ (S.1 30).toInt ≤ 1001 := aw_bd_f hs (hI2).1 (by decide) rfl
        exact (ar_join_L88_715 hU hd x0 hj ) _ (aw_wa (aw_wa S 15 ((49 : Int)).toNat (aj_nar 0 x476)) 14 ((49 : Int)).toNat (aj_nar 0 x711)) lv715 (x) (x4) (x476) ((Int32.ofInt 0)) hlv715_0 hlv715_1 hlv715_3 hlv715_4 hlv715_5 ⟨(hI712).1, (aw_G_sm hI712.2 hG)⟩ fr713 (by omega) (by omega) (by omega) (by first | omega | decide) (show _ ≤ ((S.1 30)).toInt by omega) J714 (by omega) (by omega) (by omega) (Nat.lt_succ_self _)
    · have q475 : x474.toInt > (30 : Int) := aw_t_le (a := x474.toInt) (b := (30 : Int)) rfl rfl q475
      refine aw_l2 aj_d276 rfl rfl hlv5_0 ?_
      refine aw_n aj_d276 rfl rfl ?_
      refine aw_l0 aj_d276 rfl rfl hlv5_2 ?_
      refine aw_k hU.1 aj_d276 rfl rfl [_, _] rfl rfl rfl (Nat.le_of_ble_eq_true rfl) (ar_stop hU (hI2).1 (by omega) (a := (6 : Int)) rfl) ?_
      rintro _ S939 ⟨hT939, fc939, rfl, hz939⟩
      have hG939 := aw_G_stop hG fc939 (by omega)
      have fr940 := aw_fr_tr fr3 (aw_fr_sub (F := [24, 25, 31]) (A := []) (by decide) (by decide) fc939)
      have hI941 : aw_I s h (aw_sm S939) S939 := ⟨hT939, aw_sm_rf⟩
      show aw_W _ _ _ _ 36 lv5 [.int (Int32.ofInt 0)] _ _
      refine aw_e aj_d276 rfl rfl ?_
      have b942 : 0 ≤ (S.1 30).toInt ∧ (S.1 30).toInt ≤ 1001 := aw_bd_f hs (hI2).1 (by decide) rfl
      have c943 : (S939.1 30).toInt = (S.1 30).toInt := (congrArg Int32.toInt (fc939.1 30 (by decide)).1).trans rfl
      have b944 : 0 ≤ (S939.1 30).toInt ∧ (S939.1 30).toInt ≤ 1001 := aw_bd_f hs (hI941).1 (by decide) rfl
      exact ⟨(hI941).1, fr940, Or.inl ⟨_, rfl, rfl, hG939, (show _ ≤ ((S939.1 30)).toInt by omega)⟩⟩
end ARA11
