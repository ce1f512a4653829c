/-! ROWS COPIED, BY HAND (printed by wip/p2/cwalk/g70.py) -/
/-- a method's contract in the worker's work -/
abbrev cw_nW (m : Nat) (r : Option ak_A) : ak_Con := (m, [], r, ([68, 69, 70, 89, 90, 91, 92, 93, 94, 95, 96, 97], [(1, 1), (1, 2), (1, 3), (4, 5), (4, 6), (6, 3), (6, 4), (7, 14), (7, 15), (9, 4), (9, 5), (9, 7), (9, 8), (9, 9), (9, 10), (9, 11), (9, 12), (9, 13), (9, 14)]), [], [], [], 0, 0, [], [], [])
abbrev cw_XB : Option Nat := some 20000000
/-- rows that are no higher and no wider -/
def cw_ok (b : Int) (o : cw_O) (i : Nat) : Prop := ∃ v w : Int32, cw_fo o i 6 4 (.int v) ∧ cw_fo o i 6 3 (.int w) ∧ v.toInt ≤ b ∧ w.toInt ≤ b
def cw_sy (b b' : Int) (o o' : cw_O) : Prop := ∀ i, cw_ok b o i → cw_ok b' o' i
abbrev cw_Ei (i : Nat) : Nat → Nat → Nat → Prop := fun a c _ => a = i ∧ c = 6
abbrev cw_Eh (i : Nat) : Nat → Nat → Nat → Prop := fun a c k => a = i ∧ c = 6 ∧ k = 4
section CW70
variable {tb : aj_T} {s : List Nat} {h h' h0 : aj_H} {d : Nat} {i j : Nat} {b b' b2 : Int} {o o' o2 : cw_O} {EF : Nat → Nat → Nat → Prop} {EA : Nat → Prop} {v w : Int32}
theorem cw_sy_tr (h1 : cw_sy b b' o o') (h2 : cw_sy b' b2 o' o2) : cw_sy b b2 o o2 := fun i q => h2 i (h1 i q)
theorem cw_ok_mono (hb : b ≤ b') (h1 : cw_ok b o i) : cw_ok b' o i := by
  obtain ⟨v, w, q1, q2, q3, q4⟩ := h1
  exact ⟨v, w, q1, q2, by omega, by omega⟩
theorem cw_ok_eq (e : o' = o) (h1 : cw_ok b o i) : cw_ok b o' i := by
  subst e
  exact h1
theorem cw_sy_kp (hk : cw_kp (cw_Ei i) EA o o') (h1 : cw_ok b o' i) : cw_sy b b o o' := by
  rintro j ⟨v, w, q1, q2, q3, q4⟩
  by_cases e : j = i
  · subst e
    exact h1
  · exact ⟨v, w, hk.1 _ _ _ _ (fun z => e z.1) q1, hk.1 _ _ _ _ (fun z => e z.1) q2, q3, q4⟩
theorem cw_sy_n (hk : cw_kp EF EA o o') (hE : ∀ i k, ¬ EF i 6 k) : cw_sy b b o o' := by
  rintro j ⟨v, w, q1, q2, q3, q4⟩
  exact ⟨v, w, hk.1 _ _ _ _ (hE _ _) q1, hk.1 _ _ _ _ (hE _ _) q2, q3, q4⟩
theorem cw_ok_F (h1 : cw_F h i 6 4 (.int v)) (h2 : cw_F h i 6 3 (.int w)) (hv : v.toInt ≤ b) (hw : w.toInt ≤ b) : cw_ok b (cw_o h) i := ⟨v, w, (cw_fo_F (by decide)).mpr h1, (cw_fo_F (by decide)).mpr h2, hv, hw⟩
theorem cw_ok_4 (h0 : cw_ok b (cw_o h) i) (h1 : cw_F h i 6 4 (.int v)) : v.toInt ≤ b := by
  obtain ⟨v', w', q1, q2, q3, q4⟩ := h0
  cases (cw_F_u ((cw_fo_F (by decide)).mp q1) h1).2
  exact q3
theorem cw_ok_3 (h0 : cw_ok b (cw_o h) i) (h1 : cw_F h i 6 3 (.int v)) : v.toInt ≤ b := by
  obtain ⟨v', w', q1, q2, q3, q4⟩ := h0
  cases (cw_F_u ((cw_fo_F (by decide)).mp q2) h1).2
  exact q4
theorem cw_E6i (hk : cw_kp (cw_Ei i) EA o o') : cw_kp cw_E6 EA o o' := cw_kp_sub hk (fun _ _ _ z => z.2) (fun _ z => z)
theorem cw_Ehi (hk : cw_kp (cw_Eh i) EA o o') : cw_kp (cw_Ei i) EA o o' := cw_kp_sub hk (fun _ _ _ z => ⟨z.1, z.2.1⟩) (fun _ z => z)
theorem cw_I_sfX {k : Nat} {w : Value} {y : Int32} (hT : ak_Ty ak_CW s h) (hI : cw_I cw_XB s h) (hF : cw_F h i 6 k w) (hk : k = 3 ∨ k = 4) (hy : y.toInt ≤ 20000000) : cw_I cw_XB s (cw_sf h i k (.int y)) := cw_I_sfR rfl rfl hT hI hF hk hy (Nat.le_refl _)
theorem cw_af_l {d : Nat} (hd : 1 ≤ d) (htb : ak_tbOK ak_CW tb) (hB : cw_B s) (hI0 : cw_I cw_XB s h0) {row : Int32} (qi : s[i]? = some 58) (qj : s[j]? = some 58) (hv : 0 ≤ v.toInt ∧ v.toInt ≤ 19999999) (hr : 0 ≤ row.toInt ∧ row.toInt ≤ 19999999) : ∀ (n : Nat) {h : aj_H} {lv : aj_V} {kc ks : Nat} {x4 : Int32} (hT : ak_Ty ak_CW s h) (ho : cw_o h = cw_o h0) (fi : cw_F h i 6 4 (.int v)) (hl0 : aj_lv lv 0 = some (.ref (52 + i))) (hl1 : aj_lv lv 1 = some (.ref (52 + j))) (hl2 : aj_lv lv 2 = some (.int row)) (hl3 : aj_lv lv 3 = some (.int v)) (hl4 : aj_lv lv 4 = some (.int x4)) (h4 : 0 ≤ x4.toInt) (hn : 20000000 - x4.toInt ≤ n), cw_W ak_CW (fun s' r h' => s' = s ∧ cw_I cw_XB s h' ∧ cw_kp (cw_Eh i) cw_E0 (cw_o h0) (cw_o h') ∧ r = some (.int v) ∧ ∃ y : Int32, y.toInt = v.toInt + 1 ∧ cw_F h' i 6 4 (.int y)) tb d aj_m102 (cw_nW 102 (some (.inl (0, 20000000)))) s h kc ks 8 lv [] := by
  intro n
  induction n with
  | zero =>
    intro h lv kc ks x4 hT ho fi hl0 hl1 hl2 hl3 hl4 h4 hn
    refine cw_l0 aj_d102 rfl rfl hl4 ?_
    refine cw_l2 aj_d102 rfl rfl hl1 ?_
    obtain ⟨v1, f1, g1⟩ := cw_tyF (i := j) (t := 58) (c := 6) (k := 3) (y := (.inl (0, 20000000))) hT qj rfl rfl rfl
    obtain ⟨x1, rfl, b1⟩ := ak_gi g1
    dsimp only [ak_win] at b1
    refine cw_g (i := j) (v := .int x1) htb.1 aj_d102 rfl rfl (by decide) f1 ?_
    refine cw_c (tgt := 44) aj_d102 rfl rfl (fun q2 => ?_) (fun q2 => ?_)
    · have q2 : x4.toInt ≥ x1.toInt := aw_t_ge (a := x4.toInt) (b := x1.toInt) rfl rfl q2
      refine cw_l2 aj_d102 rfl rfl hl0 ?_
      refine cw_n aj_d102 rfl rfl ?_
      refine cw_g (i := i) (v := .int v) htb.1 aj_d102 rfl rfl (by decide) fi ?_
      refine cw_n aj_d102 rfl rfl ?_
      refine cw_add aj_d102 rfl (a := v.toInt) (b := (1 : Int)) rfl rfl (by omega) (by omega) (fun x3 ex3 => ?_)
      refine cw_p (i := i) (t := 58) (c := 6) (k := 4) (v := .int x3) (y := (.inl (0, 20000000))) htb aj_d102 rfl rfl hT qi rfl rfl rfl (cw_gw (a := x3.toInt) rfl (by omega) (by omega)) (by decide) rfl rfl (fun hT4 => ?_)
      have f5 : cw_F (cw_sf h i 4 (.int x3)) j 6 3 (.int x1) := cw_sf_ne f1 (Or.inr (by decide))
      have f6 : cw_F (cw_sf h i 4 (.int x3)) i 6 4 (.int x3) := cw_sf_same fi
      refine cw_l0 aj_d102 rfl rfl hl3 ?_
      refine cw_Wr aj_d102 rfl rfl hT4 ?_ ?_
      · exact ⟨rfl, cw_I_sfX hT (cw_I_eq ho hI0) fi (Or.inr rfl) (by omega), cw_kp_tr (cw_kp_eq ho) (cw_kp_sf fi ⟨rfl, rfl, rfl⟩), rfl, _, ex3, f6⟩
      · exact cw_gw (s := s) (a := v.toInt) rfl (by omega) (by omega)
    · have q2 : x4.toInt < x1.toInt := aw_t_ge (a := x4.toInt) (b := x1.toInt) rfl rfl q2
      exfalso
      omega
  | succ n ih =>
    intro h lv kc ks x4 hT ho fi hl0 hl1 hl2 hl3 hl4 h4 hn
    refine cw_l0 aj_d102 rfl rfl hl4 ?_
    refine cw_l2 aj_d102 rfl rfl hl1 ?_
    obtain ⟨v7, f7, g7⟩ := cw_tyF (i := j) (t := 58) (c := 6) (k := 3) (y := (.inl (0, 20000000))) hT qj rfl rfl rfl
    obtain ⟨x7, rfl, b7⟩ := ak_gi g7
    dsimp only [ak_win] at b7
    refine cw_g (i := j) (v := .int x7) htb.1 aj_d102 rfl rfl (by decide) f7 ?_
    refine cw_c (tgt := 44) aj_d102 rfl rfl (fun q8 => ?_) (fun q8 => ?_)
    · have q8 : x4.toInt ≥ x7.toInt := aw_t_ge (a := x4.toInt) (b := x7.toInt) rfl rfl q8
      refine cw_l2 aj_d102 rfl rfl hl0 ?_
      refine cw_n aj_d102 rfl rfl ?_
      refine cw_g (i := i) (v := .int v) htb.1 aj_d102 rfl rfl (by decide) fi ?_
      refine cw_n aj_d102 rfl rfl ?_
      refine cw_add aj_d102 rfl (a := v.toInt) (b := (1 : Int)) rfl rfl (by omega) (by omega) (fun x9 ex9 => ?_)
      refine cw_p (i := i) (t := 58) (c := 6) (k := 4) (v := .int x9) (y := (.inl (0, 20000000))) htb aj_d102 rfl rfl hT qi rfl rfl rfl (cw_gw (a := x9.toInt) rfl (by omega) (by omega)) (by decide) rfl rfl (fun hT10 => ?_)
      have f11 : cw_F (cw_sf h i 4 (.int x9)) j 6 3 (.int x7) := cw_sf_ne f7 (Or.inr (by decide))
      have f12 : cw_F (cw_sf h i 4 (.int x9)) i 6 4 (.int x9) := cw_sf_same fi
      refine cw_l0 aj_d102 rfl rfl hl3 ?_
      refine cw_Wr aj_d102 rfl rfl hT10 ?_ ?_
      · exact ⟨rfl, cw_I_sfX hT (cw_I_eq ho hI0) fi (Or.inr rfl) (by omega), cw_kp_tr (cw_kp_eq ho) (cw_kp_sf fi ⟨rfl, rfl, rfl⟩), rfl, _, ex9, f12⟩
      · exact cw_gw (s := s) (a := v.toInt) rfl (by omega) (by omega)
    · have q8 : x4.toInt < x7.toInt := aw_t_ge (a := x4.toInt) (b := x7.toInt) rfl rfl q8
      refine cw_l2 aj_d102 rfl rfl hl0 ?_
      refine cw_l0 aj_d102 rfl rfl hl3 ?_
      refine cw_l0 aj_d102 rfl rfl hl4 ?_
      refine cw_l2 aj_d102 rfl rfl hl1 ?_
      refine cw_l0 aj_d102 rfl rfl hl2 ?_
      refine cw_l0 aj_d102 rfl rfl hl4 ?_
      refine cw_k0 (i := j) (t := 58) (con' := ap_c103) aj_d102 htb hT rfl rfl [_, _] rfl rfl qj rfl (Nat.le_of_ble_eq_true rfl) ⟨by decide, by decide⟩ (cw_a1 (by omega) (ap_W_103 htb (cw_SP1c _ _ rfl rfl) cw_hK) hT hB rfl ⟨(cw_gR qj (by decide) (by decide)), (cw_gw (a := row.toInt) rfl (by omega) (by omega)), (cw_full _), trivial⟩) ?_
      rintro ru13 h13 hT13 ho13 hRu13
      have f14 : cw_F h13 i 6 4 (.int v) := cw_trF ho13 (by decide) fi
      have f15 : cw_F h13 j 6 3 (.int x7) := cw_trF ho13 (by decide) f7
      obtain ⟨x16, rfl, bx16⟩ := cw_rI hRu13
      show cw_W _ _ _ _ _ _ _ _ _ _ 28 lv [.int x16, .int x4, .int v, .ref (52 + i)]
      refine cw_l2 aj_d102 rfl rfl hl1 ?_
      refine cw_l0 aj_d102 rfl rfl hl2 ?_
      refine cw_l0 aj_d102 rfl rfl hl4 ?_
      refine cw_k0 (i := j) (t := 58) (con' := ap_c104) aj_d102 htb hT13 rfl rfl [_, _] rfl rfl qj rfl (Nat.le_of_ble_eq_true rfl) ⟨by decide, by decide⟩ (cw_a1 (by omega) (ap_W_104 htb (cw_SP1c _ _ rfl rfl) cw_hK) hT13 hB rfl ⟨(cw_gR qj (by decide) (by decide)), (cw_gw (a := row.toInt) rfl (by omega) (by omega)), (cw_full _), trivial⟩) ?_
      rintro ru17 h17 hT17 ho17 hRu17
      have f18 : cw_F h17 i 6 4 (.int v) := cw_trF ho17 (by decide) f14
      have f19 : cw_F h17 j 6 3 (.int x7) := cw_trF ho17 (by decide) f15
      obtain ⟨x20, rfl, bx20⟩ := cw_rI hRu17
      show cw_W _ _ _ _ _ _ _ _ _ _ 35 lv [.int x20, .int x16, .int x4, .int v, .ref (52 + i)]
      refine cw_k0 (i := i) (t := 58) (con' := ap_c105) aj_d102 htb hT17 rfl rfl [_, _, _, _] rfl rfl qi rfl (Nat.le_of_ble_eq_true rfl) ⟨by decide, by decide⟩ (cw_a1 (by omega) (ap_W_105 htb (cw_SP1c _ _ rfl rfl) cw_hK) hT17 hB rfl ⟨(cw_gR qi (by decide) (by decide)), (cw_gw (a := v.toInt) rfl (by omega) (by omega)), (cw_full _), (cw_gw (a := x16.toInt) rfl (by omega) (by omega)), (cw_full _), trivial⟩) ?_
      rintro ru21 h21 hT21 ho21 hRu21
      have f22 : cw_F h21 i 6 4 (.int v) := cw_trF ho21 (by decide) f18
      have f23 : cw_F h21 j 6 3 (.int x7) := cw_trF ho21 (by decide) f19
      obtain rfl := cw_rN hRu21
      show cw_W _ _ _ _ _ _ _ _ _ _ 38 lv []
      refine cw_inc aj_d102 rfl hl4 (a := x4.toInt) rfl (by omega) (by omega) (by decide) (by decide) (fun x24 ex24 => ?_)
      obtain ⟨lv25, elv25⟩ : ∃ l, l = aj_set1 lv 4 (.int x24) := ⟨_, rfl⟩
      rw [← elv25]
      have hlv25_0 : aj_lv lv25 0 = some (.ref (52 + i)) := cw_e1 elv25 hl0 (by decide) (Or.inl (by decide))
      have hlv25_1 : aj_lv lv25 1 = some (.ref (52 + j)) := cw_e1 elv25 hl1 (by decide) (Or.inl (by decide))
      have hlv25_2 : aj_lv lv25 2 = some (.int row) := cw_e1 elv25 hl2 (by decide) (Or.inl (by decide))
      have hlv25_3 : aj_lv lv25 3 = some (.int v) := cw_e1 elv25 hl3 (by decide) (Or.inr rfl)
      have hlv25_4 : aj_lv lv25 4 = some (.int x24) := by rw [elv25]; exact ak_set1_eq _ _ _
      show cw_W _ _ _ _ _ _ _ _ _ _ 41 lv25 []
      refine cw_n aj_d102 rfl rfl ?_
      exact ih hT21 (ho21.trans (ho17.trans (ho13.trans ho))) f22 hlv25_0 hlv25_1 hlv25_2 hlv25_3 hlv25_4 (by omega) (by omega)
/-- a row more -/
theorem cw_addFrom (htb : ak_tbOK ak_CW tb) (hT : ak_Ty ak_CW s h) (hI : cw_I cw_XB s h) (hd : 2 ≤ d) {row : Int32} (qi : s[i]? = some 58) (qj : s[j]? = some 58) (fi : cw_F h i 6 4 (.int v)) (hv : 0 ≤ v.toInt ∧ v.toInt ≤ 19999999) (hr : 0 ≤ row.toInt ∧ row.toInt ≤ 19999999) : cw_K ak_CW (fun s' r h' => s' = s ∧ cw_I cw_XB s h' ∧ cw_kp (cw_Eh i) cw_E0 (cw_o h) (cw_o h') ∧ r = some (.int v) ∧ ∃ y : Int32, y.toInt = v.toInt + 1 ∧ cw_F h' i 6 4 (.int y)) tb d (cw_nW 102 (some (.inl (0, 20000000)))) [.ref (52 + i), .ref (52 + j), .int row] s h := by
  obtain ⟨d, rfl⟩ : ∃ e, d = e + 1 := ⟨d - 1, by omega⟩
  have hB := hI.1
  refine cw_m (con := cw_nW 102 (some (.inl (0, 20000000)))) aj_m102_at (Nat.le_of_ble_eq_true rfl) ?_
  show cw_W _ _ _ _ _ _ _ _ _ _ 0 [(0, .ref (52 + i)), (1, .ref (52 + j)), (2, .int row)] []
  obtain ⟨lv, elv⟩ : ∃ l : aj_V, l = [(0, .ref (52 + i)), (1, .ref (52 + j)), (2, .int row)] := ⟨_, rfl⟩
  rw [← elv]
  have hl0 : aj_lv lv 0 = some (.ref (52 + i)) := by rw [elv]; rfl
  have hl1 : aj_lv lv 1 = some (.ref (52 + j)) := by rw [elv]; rfl
  have hl2 : aj_lv lv 2 = some (.int row) := by rw [elv]; rfl
  refine cw_l2 aj_d102 rfl rfl hl0 ?_
  refine cw_g (i := i) (v := .int v) htb.1 aj_d102 rfl rfl (by decide) fi ?_
  refine cw_t0 (j := 3) aj_d102 rfl (by decide) rfl ?_
  obtain ⟨lv26, elv26⟩ : ∃ l, l = aj_set1 lv 3 (.int v) := ⟨_, rfl⟩
  rw [← elv26]
  have hlv26_0 : aj_lv lv26 0 = some (.ref (52 + i)) := cw_e1 elv26 hl0 (by decide) (Or.inl (by decide))
  have hlv26_1 : aj_lv lv26 1 = some (.ref (52 + j)) := cw_e1 elv26 hl1 (by decide) (Or.inl (by decide))
  have hlv26_2 : aj_lv lv26 2 = some (.int row) := cw_e1 elv26 hl2 (by decide) (Or.inr rfl)
  have hlv26_3 : aj_lv lv26 3 = some (.int v) := by rw [elv26]; exact ak_set1_eq _ _ _
  show cw_W _ _ _ _ _ _ _ _ _ _ 5 lv26 []
  refine cw_n aj_d102 rfl rfl ?_
  refine cw_t0 (j := 4) aj_d102 rfl (by decide) rfl ?_
  obtain ⟨lv27, elv27⟩ : ∃ l, l = aj_set1 lv26 4 (.int (Int32.ofInt 0)) := ⟨_, rfl⟩
  rw [← elv27]
  have hlv27_3 : aj_lv lv27 3 = some (.int v) := cw_e1 elv27 hlv26_3 (by decide) (Or.inr rfl)
  have hlv27_0 : aj_lv lv27 0 = some (.ref (52 + i)) := cw_e1 elv27 hlv26_0 (by decide) (Or.inl (by decide))
  have hlv27_1 : aj_lv lv27 1 = some (.ref (52 + j)) := cw_e1 elv27 hlv26_1 (by decide) (Or.inl (by decide))
  have hlv27_2 : aj_lv lv27 2 = some (.int row) := cw_e1 elv27 hlv26_2 (by decide) (Or.inl (by decide))
  have hlv27_4 : aj_lv lv27 4 = some (.int (Int32.ofInt 0)) := by rw [elv27]; exact ak_set1_eq _ _ _
  show cw_W _ _ _ _ _ _ _ _ _ _ 8 lv27 []
  exact cw_af_l (by omega) htb hB hI qi qj hv hr 20000000 hT rfl fi hlv27_0 hlv27_1 hlv27_2 hlv27_3 hlv27_4 (by decide) (by decide)
theorem cw_cf_l {d : Nat} (hd : 2 ≤ d) (htb : ak_tbOK ak_CW tb) (qi : s[i]? = some 58) (qj : s[j]? = some 58) (hb : 0 ≤ b ∧ b ≤ 19999999) (hgo : ∀ h1, cw_kp (cw_Ei i) cw_E0 (cw_o h0) (cw_o h1) → ∀ y : Int32, cw_F h1 i 6 4 (.int y) → y.toInt ≤ b → cw_F h1 i 6 3 (.int w) → cw_ok b (cw_o h1) j) (hw : w.toInt ≤ b) : ∀ (n : Nat) {h : aj_H} {lv : aj_V} {kc ks : Nat} {x2 y : Int32} (hT : ak_Ty ak_CW s h) (hI : cw_I cw_XB s h) (hK : cw_kp (cw_Ei i) cw_E0 (cw_o h0) (cw_o h)) (hok : cw_ok b (cw_o h) j) (fi : cw_F h i 6 4 (.int y)) (fw : cw_F h i 6 3 (.int w)) (hl0 : aj_lv lv 0 = some (.ref (52 + i))) (hl1 : aj_lv lv 1 = some (.ref (52 + j))) (hl2 : aj_lv lv 2 = some (.int x2)) (hy : y.toInt = x2.toInt) (h2 : 0 ≤ x2.toInt ∧ x2.toInt ≤ b) (hn : b - x2.toInt ≤ n), cw_W ak_CW (fun s' r h' => s' = s ∧ r = none ∧ cw_I cw_XB s h' ∧ cw_kp (cw_Ei i) cw_E0 (cw_o h0) (cw_o h') ∧ cw_ok b (cw_o h') i) tb d aj_m101 (cw_nW 101 none) s h kc ks 15 lv [] := by
  intro n
  induction n with
  | zero =>
    intro h lv kc ks x2 y hT hI hK hok fi fw hl0 hl1 hl2 hy h2 hn
    have hB := hI.1
    refine cw_l0 aj_d101 rfl rfl hl2 ?_
    obtain ⟨v28, f28, g28⟩ := cw_tyF (i := j) (t := 58) (c := 6) (k := 4) (y := (.inl (0, 20000000))) hT qj rfl rfl rfl
    obtain ⟨x28, rfl, b28⟩ := ak_gi g28
    dsimp only [ak_win] at b28
    have bj := cw_ok_4 hok f28
    refine cw_l2 aj_d101 rfl rfl hl1 ?_
    refine cw_g (i := j) (v := .int x28) htb.1 aj_d101 rfl rfl (by decide) f28 ?_
    refine cw_c (tgt := 36) aj_d101 rfl rfl (fun q29 => ?_) (fun q29 => ?_)
    · have q29 : x2.toInt ≥ x28.toInt := aw_t_ge (a := x2.toInt) (b := x28.toInt) rfl rfl q29
      refine cw_l2 aj_d101 rfl rfl hl1 ?_
      obtain ⟨v30, f30, g30⟩ := cw_tyF (i := j) (t := 58) (c := 6) (k := 2) (y := (.inr (some ([96], false)))) hT qj rfl rfl rfl
      obtain ⟨i30, rfl, q30⟩ := cw_gr g30 (by decide)
      refine cw_g (i := j) (v := .ref (52 + i30)) htb.1 aj_d101 rfl rfl (by decide) f30 ?_
      refine cw_n aj_d101 rfl rfl ?_
      refine cw_l2 aj_d101 rfl rfl hl0 ?_
      obtain ⟨v31, f31, g31⟩ := cw_tyF (i := i) (t := 58) (c := 6) (k := 2) (y := (.inr (some ([96], false)))) hT qi rfl rfl rfl
      obtain ⟨i31, rfl, q31⟩ := cw_gr g31 (by decide)
      refine cw_g (i := i) (v := .ref (52 + i31)) htb.1 aj_d101 rfl rfl (by decide) f31 ?_
      refine cw_n aj_d101 rfl rfl ?_
      refine cw_l2 aj_d101 rfl rfl hl0 ?_
      refine cw_g (i := i) (v := .ref (52 + i31)) htb.1 aj_d101 rfl rfl (by decide) f31 ?_
      obtain ⟨n33, z33, a33, p33l, p33r, p33⟩ := cw_tyA (i := i31) (t := 96) (kd := 0) (n1 := 1024) (n2 := 1024) (y := (.inl ((-2147483648), 2147483647))) hT q31 rfl
      obtain rfl : n33 = 1024 := Nat.le_antisymm p33r p33l
      obtain ⟨fn33, rfl, p33c⟩ := cw_xi p33
      refine cw_alen (i := i31) htb.1 aj_d101 rfl a33 (by decide) (by omega) (fun x32 ex32 => ?_)
      obtain ⟨n34, z34, a34, p34l, p34r, p34⟩ := cw_tyA (i := i30) (t := 96) (kd := 0) (n1 := 1024) (n2 := 1024) (y := (.inl ((-2147483648), 2147483647))) hT q30 rfl
      obtain rfl : n34 = 1024 := Nat.le_antisymm p34r p34l
      obtain ⟨fn34, rfl, p34c⟩ := cw_xi p34
      refine cw_cpy htb aj_d101 rfl rfl a34 a33 hT q31 rfl (by decide) rfl rfl (n := 1024) ex32 (Nat.le_refl _) (Nat.le_refl _) (by decide) (fun gc hTc => ?_)
      show cw_W _ _ _ _ _ _ _ _ _ _ 54 lv []
      refine cw_Wr aj_d101 rfl rfl hTc ?_ ?_
      · exact ⟨rfl, rfl, cw_I_eq (cw_o_sa a33 (cw_nsp hB q31 (by decide))) hI, cw_kp_tr hK (cw_kp_eq (cw_o_sa a33 (cw_nsp hB q31 (by decide)))), cw_ok_eq (cw_o_sa a33 (cw_nsp hB q31 (by decide))) (cw_ok_F fi fw (by omega) hw)⟩
      · trivial
    · have q29 : x2.toInt < x28.toInt := aw_t_ge (a := x2.toInt) (b := x28.toInt) rfl rfl q29
      exfalso
      omega
  | succ n ih =>
    intro h lv kc ks x2 y hT hI hK hok fi fw hl0 hl1 hl2 hy h2 hn
    have hB := hI.1
    refine cw_l0 aj_d101 rfl rfl hl2 ?_
    obtain ⟨v35, f35, g35⟩ := cw_tyF (i := j) (t := 58) (c := 6) (k := 4) (y := (.inl (0, 20000000))) hT qj rfl rfl rfl
    obtain ⟨x35, rfl, b35⟩ := ak_gi g35
    dsimp only [ak_win] at b35
    have bj := cw_ok_4 hok f35
    refine cw_l2 aj_d101 rfl rfl hl1 ?_
    refine cw_g (i := j) (v := .int x35) htb.1 aj_d101 rfl rfl (by decide) f35 ?_
    refine cw_c (tgt := 36) aj_d101 rfl rfl (fun q36 => ?_) (fun q36 => ?_)
    · have q36 : x2.toInt ≥ x35.toInt := aw_t_ge (a := x2.toInt) (b := x35.toInt) rfl rfl q36
      refine cw_l2 aj_d101 rfl rfl hl1 ?_
      obtain ⟨v37, f37, g37⟩ := cw_tyF (i := j) (t := 58) (c := 6) (k := 2) (y := (.inr (some ([96], false)))) hT qj rfl rfl rfl
      obtain ⟨i37, rfl, q37⟩ := cw_gr g37 (by decide)
      refine cw_g (i := j) (v := .ref (52 + i37)) htb.1 aj_d101 rfl rfl (by decide) f37 ?_
      refine cw_n aj_d101 rfl rfl ?_
      refine cw_l2 aj_d101 rfl rfl hl0 ?_
      obtain ⟨v38, f38, g38⟩ := cw_tyF (i := i) (t := 58) (c := 6) (k := 2) (y := (.inr (some ([96], false)))) hT qi rfl rfl rfl
      obtain ⟨i38, rfl, q38⟩ := cw_gr g38 (by decide)
      refine cw_g (i := i) (v := .ref (52 + i38)) htb.1 aj_d101 rfl rfl (by decide) f38 ?_
      refine cw_n aj_d101 rfl rfl ?_
      refine cw_l2 aj_d101 rfl rfl hl0 ?_
      refine cw_g (i := i) (v := .ref (52 + i38)) htb.1 aj_d101 rfl rfl (by decide) f38 ?_
      obtain ⟨n40, z40, a40, p40l, p40r, p40⟩ := cw_tyA (i := i38) (t := 96) (kd := 0) (n1 := 1024) (n2 := 1024) (y := (.inl ((-2147483648), 2147483647))) hT q38 rfl
      obtain rfl : n40 = 1024 := Nat.le_antisymm p40r p40l
      obtain ⟨fn40, rfl, p40c⟩ := cw_xi p40
      refine cw_alen (i := i38) htb.1 aj_d101 rfl a40 (by decide) (by omega) (fun x39 ex39 => ?_)
      obtain ⟨n41, z41, a41, p41l, p41r, p41⟩ := cw_tyA (i := i37) (t := 96) (kd := 0) (n1 := 1024) (n2 := 1024) (y := (.inl ((-2147483648), 2147483647))) hT q37 rfl
      obtain rfl : n41 = 1024 := Nat.le_antisymm p41r p41l
      obtain ⟨fn41, rfl, p41c⟩ := cw_xi p41
      refine cw_cpy htb aj_d101 rfl rfl a41 a40 hT q38 rfl (by decide) rfl rfl (n := 1024) ex39 (Nat.le_refl _) (Nat.le_refl _) (by decide) (fun gc hTc => ?_)
      show cw_W _ _ _ _ _ _ _ _ _ _ 54 lv []
      refine cw_Wr aj_d101 rfl rfl hTc ?_ ?_
      · exact ⟨rfl, rfl, cw_I_eq (cw_o_sa a40 (cw_nsp hB q38 (by decide))) hI, cw_kp_tr hK (cw_kp_eq (cw_o_sa a40 (cw_nsp hB q38 (by decide)))), cw_ok_eq (cw_o_sa a40 (cw_nsp hB q38 (by decide))) (cw_ok_F fi fw (by omega) hw)⟩
      · trivial
    · have q36 : x2.toInt < x35.toInt := aw_t_ge (a := x2.toInt) (b := x35.toInt) rfl rfl q36
      refine cw_l2 aj_d101 rfl rfl hl0 ?_
      refine cw_l2 aj_d101 rfl rfl hl1 ?_
      refine cw_l0 aj_d101 rfl rfl hl2 ?_
      refine cw_k0 (i := i) (t := 58) (con' := cw_nW 102 (some (.inl (0, 20000000)))) aj_d101 htb hT rfl rfl [_, _] rfl rfl qi rfl (Nat.le_of_ble_eq_true rfl) ⟨by decide, by decide⟩ (cw_addFrom htb hT hI (by omega) (row := x2) qi qj fi (by omega) (by omega)) ?_
      rintro raf42 haf42 hTaf42 ⟨Iaf42, kaf42, rfl, yaf42, eyaf42, faf42⟩ hRaf42
      have f43 : cw_F haf42 i 6 3 (.int w) := cw_kp_F kaf42 (by rintro ⟨-, z, z2⟩; revert z z2; decide) (by decide) fw
      show cw_W _ _ _ _ _ _ _ _ _ _ 29 lv [.int y]
      refine cw_n aj_d101 rfl rfl ?_
      refine cw_inc aj_d101 rfl hl2 (a := x2.toInt) rfl (by omega) (by omega) (by decide) (by decide) (fun x44 ex44 => ?_)
      obtain ⟨lv45, elv45⟩ : ∃ l, l = aj_set1 lv 2 (.int x44) := ⟨_, rfl⟩
      rw [← elv45]
      have hlv45_0 : aj_lv lv45 0 = some (.ref (52 + i)) := cw_e1 elv45 hl0 (by decide) (Or.inl (by decide))
      have hlv45_1 : aj_lv lv45 1 = some (.ref (52 + j)) := cw_e1 elv45 hl1 (by decide) (Or.inr rfl)
      have hlv45_2 : aj_lv lv45 2 = some (.int x44) := by rw [elv45]; exact ak_set1_eq _ _ _
      show cw_W _ _ _ _ _ _ _ _ _ _ 33 lv45 []
      refine cw_n aj_d101 rfl rfl ?_
      exact ih hTaf42 Iaf42 (cw_kp_tr hK (cw_Ehi kaf42)) (hgo _ (cw_kp_tr hK (cw_Ehi kaf42)) _ faf42 (by omega) f43) faf42 f43 hlv45_0 hlv45_1 hlv45_2 (by omega) (by omega) (by omega)
/-- the rows of others -/
theorem cw_copyFrom (htb : ak_tbOK ak_CW tb) (hT : ak_Ty ak_CW s h) (hI : cw_I cw_XB s h) (hd : 3 ≤ d) (qi : s[i]? = some 58) (qj : s[j]? = some 58) (hb : 0 ≤ b ∧ b ≤ 19999999) (hok : cw_ok b (cw_o h) j) : cw_K ak_CW (fun s' r h' => s' = s ∧ r = none ∧ cw_I cw_XB s h' ∧ cw_kp (cw_Ei i) cw_E0 (cw_o h) (cw_o h') ∧ cw_ok b (cw_o h') i) tb d (cw_nW 101 none) [.ref (52 + i), .ref (52 + j)] s h := by
  obtain ⟨d, rfl⟩ : ∃ e, d = e + 1 := ⟨d - 1, by omega⟩
  have hB := hI.1
  refine cw_m (con := cw_nW 101 none) aj_m101_at (Nat.le_of_ble_eq_true rfl) ?_
  show cw_W _ _ _ _ _ _ _ _ _ _ 0 [(0, .ref (52 + i)), (1, .ref (52 + j))] []
  obtain ⟨lv, elv⟩ : ∃ l : aj_V, l = [(0, .ref (52 + i)), (1, .ref (52 + j))] := ⟨_, rfl⟩
  rw [← elv]
  have hl0 : aj_lv lv 0 = some (.ref (52 + i)) := by rw [elv]; rfl
  have hl1 : aj_lv lv 1 = some (.ref (52 + j)) := by rw [elv]; rfl
  refine cw_l2 aj_d101 rfl rfl hl0 ?_
  refine cw_l2 aj_d101 rfl rfl hl1 ?_
  obtain ⟨v46, f46, g46⟩ := cw_tyF (i := j) (t := 58) (c := 6) (k := 3) (y := (.inl (0, 20000000))) hT qj rfl rfl rfl
  obtain ⟨x46, rfl, b46⟩ := ak_gi g46
  dsimp only [ak_win] at b46
  refine cw_g (i := j) (v := .int x46) htb.1 aj_d101 rfl rfl (by decide) f46 ?_
  have bw := cw_ok_3 hok f46
  obtain ⟨v47, f47, g47⟩ := cw_tyF (i := i) (t := 58) (c := 6) (k := 3) (y := (.inl (0, 20000000))) hT qi rfl rfl rfl
  obtain ⟨x47, rfl, b47⟩ := ak_gi g47
  dsimp only [ak_win] at b47
  obtain ⟨v48, f48, g48⟩ := cw_tyF (i := i) (t := 58) (c := 6) (k := 4) (y := (.inl (0, 20000000))) hT qi rfl rfl rfl
  obtain ⟨x48, rfl, b48⟩ := ak_gi g48
  dsimp only [ak_win] at b48
  refine cw_p (i := i) (t := 58) (c := 6) (k := 3) (v := .int x46) (y := (.inl (0, 20000000))) htb aj_d101 rfl rfl hT qi rfl rfl rfl (cw_gw (a := x46.toInt) rfl (by omega) (by omega)) (by decide) rfl rfl (fun hT49 => ?_)
  have f50 : cw_F (cw_sf h i 3 (.int x46)) i 6 4 (.int x48) := cw_sf_ne f48 (Or.inr (by decide))
  have f51 : cw_F (cw_sf h i 3 (.int x46)) i 6 3 (.int x46) := cw_sf_same f47
  refine cw_l2 aj_d101 rfl rfl hl0 ?_
  refine cw_n aj_d101 rfl rfl ?_
  refine cw_p (i := i) (t := 58) (c := 6) (k := 4) (v := .int (Int32.ofInt 0)) (y := (.inl (0, 20000000))) htb aj_d101 rfl rfl hT49 qi rfl rfl rfl (cw_gw (a := (0 : Int)) rfl (by omega) (by omega)) (by decide) rfl rfl (fun hT52 => ?_)
  have f53 : cw_F (cw_sf (cw_sf h i 3 (.int x46)) i 4 (.int (Int32.ofInt 0))) i 6 3 (.int x46) := cw_sf_ne f51 (Or.inr (by decide))
  have f54 : cw_F (cw_sf (cw_sf h i 3 (.int x46)) i 4 (.int (Int32.ofInt 0))) i 6 4 (.int (Int32.ofInt 0)) := cw_sf_same f50
  refine cw_n aj_d101 rfl rfl ?_
  refine cw_t0 (j := 2) aj_d101 rfl (by decide) rfl ?_
  obtain ⟨lv55, elv55⟩ : ∃ l, l = aj_set1 lv 2 (.int (Int32.ofInt 0)) := ⟨_, rfl⟩
  rw [← elv55]
  have hlv55_0 : aj_lv lv55 0 = some (.ref (52 + i)) := cw_e1 elv55 hl0 (by decide) (Or.inl (by decide))
  have hlv55_1 : aj_lv lv55 1 = some (.ref (52 + j)) := cw_e1 elv55 hl1 (by decide) (Or.inr rfl)
  have hlv55_2 : aj_lv lv55 2 = some (.int (Int32.ofInt 0)) := by rw [elv55]; exact ak_set1_eq _ _ _
  show cw_W _ _ _ _ _ _ _ _ _ _ 15 lv55 []
  have hgo : ∀ h1, cw_kp (cw_Ei i) cw_E0 (cw_o h) (cw_o h1) → ∀ y : Int32, cw_F h1 i 6 4 (.int y) → y.toInt ≤ b → cw_F h1 i 6 3 (.int x46) → cw_ok b (cw_o h1) j := by
    intro h1 k1 y g4 gy g3
    exact cw_sy_kp k1 (cw_ok_F g4 g3 gy bw) j hok
  have k0 : cw_kp (cw_Ei i) cw_E0 (cw_o h) (cw_o (cw_sf (cw_sf h i 3 (.int x46)) i 4 (.int (Int32.ofInt 0)))) := cw_kp_tr (cw_kp_sf f47 ⟨rfl, rfl⟩) (cw_kp_sf f50 ⟨rfl, rfl⟩)
  exact cw_cf_l (by omega) htb qi qj hb hgo bw (b.toNat) hT52 (cw_I_sfX hT49 (cw_I_sfX hT hI f47 (Or.inl rfl) (by omega)) f50 (Or.inr rfl) (by decide)) k0 (hgo _ k0 _ f54 hb.1 f53) f54 f53 hlv55_0 hlv55_1 hlv55_2 rfl ⟨Int.le_refl _, hb.1⟩ (by show b - 0 ≤ _; omega)
end CW70
