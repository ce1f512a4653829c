/-! TESTS, COLUMNS (printed by wip/p2/ref/r08.py) -/
/-- what is taken: columns, pairwise apart -/
def ar_TK (f : Nat → Int32) (n : Nat) (m : Int) : Prop := ∀ i, i < n → 0 ≤ (f i).toInt ∧ (f i).toInt < m ∧ ∀ j, j < i → (f j).toInt ≠ (f i).toInt
section ARA8
variable {tb : aj_T} {s : List Nat} {h : aj_H} {S S' S1 S2 : aj_S} {d n : Nat} {g g' : aw_gh} {F A : List Nat} {G : aj_S → Prop} {nm : Int64 → Prop} {fl : Bool} {la ho hu ht q : Nat} {f : Nat → Int32} {m : Int}
theorem ar_pig : ∀ (m n : Nat) (f : Nat → Nat), (∀ i, i < n → f i < m) → (∀ i, i < n → ∀ j, j < i → f j ≠ f i) → n ≤ m := by
  intro m
  induction m with
  | zero =>
    intro n f h1 _
    by_cases z : n = 0
    · omega
    · exact absurd (h1 0 (by omega)) (Nat.not_lt_zero _)
  | succ m ih =>
    intro n f h1 h2
    by_cases he : ∃ i, i < n ∧ f i = m
    · obtain ⟨i0, i1, i2⟩ := he
      have := ih (n - 1) (fun j => if j < i0 then f j else f (j + 1)) (fun j hj => by
        split
        · rename_i q
          have a := h1 j (by omega)
          have b := h2 i0 i1 j q
          omega
        · rename_i q
          have a := h1 (j + 1) (by omega)
          have b := h2 (j + 1) (by omega) i0 (by omega)
          omega) (fun i hi j hj => by
        split
        · rename_i q1
          split
          · exact h2 i (by omega) j hj
          · exact h2 (i + 1) (by omega) j (by omega)
        · rename_i q1
          rw [if_neg (by omega)]
          exact h2 (i + 1) (by omega) (j + 1) (by omega))
      omega
    · have := ih n f (fun i hi => by
        have a := h1 i hi
        have b : f i ≠ m := fun z => he ⟨i, hi, z⟩
        omega) h2
      omega
theorem ar_TK_le (hk : ar_TK f n m) : (n : Int) ≤ m ∨ n = 0 := by
  by_cases z : n = 0
  · exact Or.inr z
  · refine Or.inl ?_
    have h0 := hk 0 (by omega)
    have := ar_pig m.toNat n (fun i => (f i).toInt.toNat) (fun i hi => by
      have := hk i hi
      show (f i).toInt.toNat < m.toNat
      omega) (fun i hi j hj => by
      have a := hk i hi
      have b := hk j (by omega)
      have c := a.2.2 j hj
      show (f j).toInt.toNat ≠ (f i).toInt.toNat
      omega)
    omega
theorem ar_TK_push {v : Int32} (hk : ar_TK f n m) (h1 : 0 ≤ v.toInt ∧ v.toInt < m) (h2 : ∀ j, j < n → (f j).toInt ≠ v.toInt) : ar_TK (upd f n v) (n + 1) m := by
  have e : ∀ i, i < n → upd f n v i = f i := fun i hi => if_neg (by omega)
  have e2 : upd f n v n = v := if_pos rfl
  intro i hi
  by_cases z : i = n
  · subst z
    rw [e2]
    refine ⟨h1.1, h1.2, fun j hj => ?_⟩
    rw [e j hj]
    exact h2 j hj
  · rw [e i (by omega)]
    have a := hk i (by omega)
    refine ⟨a.1, a.2.1, fun j hj => ?_⟩
    rw [e j (by omega)]
    exact a.2.2 j hj
def ar_hd (p : Prop) : Prop := p
theorem ar_un {p : Prop} (h : ar_hd p) : p := h
theorem ar_mk {p : Prop} (h : p) : ar_hd p := h
theorem ar_tests_L88_134 (hU : aw_U tb s h) (hd : 8 ≤ d + 1) (N11 : Nat) (S9 : aj_S) (x11 : Int32) (ihL11_7 : ∀ (S9 : aj_S) (lv10 : aj_V) (x11 : Int32), (aj_lv lv10 0 = some (.ref 117)) → (aj_lv lv10 1 = some (.int x11)) → (aw_I s h (aw_G (nm, fl, la, 0, 0, ht)) S9) → (aw_fr [24, 25, 26, 27, 28, 29, 30, 31, 33, 34, 35, 36, 38, 39, 40, 52, 53, 54] [15, 19] S S9) → (20 ≤ x11.toInt ∧ x11.toInt ≤ 48) → ((S9.1 26).toInt = 3) → (ar_hd ((S9.1 29).toInt ≠ 63)) → ((S.1 30).toInt ≤ (S9.1 30).toInt) → (1001 - (S9.1 30).toInt).toNat < N11 → aw_W tb h d aj_m254 11 lv10 [] S9 ((ar_QT s h (nm, fl, la, 0, 0, ht) [24, 25, 26, 27, 28, 29, 30, 31, 33, 34, 35, 36, 38, 39, 40, 52, 53, 54] [15, 19] S (fun _ => True)))) (hm11 : (1001 - (S9.1 30).toInt).toNat < N11 + 1) (N67 : Nat) (S69 : aj_S) (x71 : Int32) (x72 : Int32) (x73 : Int32) (x74 : Int32) (x75 : Int32) (ihL67_67 : ∀ (S69 : aj_S) (lv70 : aj_V) (x71 : Int32) (x72 : Int32) (x73 : Int32) (x74 : Int32) (x75 : Int32), (aj_lv lv70 0 = some (.ref 117)) → (aj_lv lv70 1 = some (.int x71)) → (aj_lv lv70 3 = some (.int x72)) → (aj_lv lv70 4 = some (.int x73)) → (aj_lv lv70 5 = some (.int x74)) → (aj_lv lv70 6 = some (.int x75)) → (aw_I s h (aw_G (nm, fl, la, 0, 0, ht)) S69) → (aw_fr [24, 25, 26, 27, 28, 29, 30, 31, 33, 34, 35, 36, 38, 39, 40, 52, 53, 54] [15, 19] S S69) → (20 ≤ x71.toInt ∧ x71.toInt ≤ 48) → (0 ≤ x72.toInt ∧ x72.toInt ≤ 2) → (0 ≤ x75.toInt ∧ x75.toInt ≤ 30) → ((S9.1 30).toInt + 1 ≤ (S69.1 30).toInt) → (ar_hd (((S69.1 32).toInt ≠ 0 → x72.toInt = 1 → 0 ≤ x73.toInt ∧ x73.toInt ≤ 7) ∧ (x72.toInt = 2 → -1 ≤ x73.toInt ∧ x73.toInt ≤ 5))) → (ar_hd (((S69.1 32).toInt ≠ 0 → (S69.1 52).toInt = 1 → 0 ≤ (S69.1 53).toInt ∧ (S69.1 53).toInt ≤ 7) ∧ ((S69.1 52).toInt = 2 → -1 ≤ (S69.1 53).toInt ∧ (S69.1 53).toInt ≤ 5))) → ((S.1 30).toInt + 1 ≤ (S69.1 30).toInt) → (30 - x75.toInt).toNat < N67 → aw_W tb h d aj_m254 67 lv70 [] S69 ((ar_QT s h (nm, fl, la, 0, 0, ht) [24, 25, 26, 27, 28, 29, 30, 31, 33, 34, 35, 36, 38, 39, 40, 52, 53, 54] [15, 19] S (fun _ => True)))) (hm67 : (30 - x75.toInt).toNat < N67 + 1) : ∀ (N : Nat) (S136 : aj_S) (lv137 : aj_V) (x138 : Int32) (x139 : Int32) (x140 : Int32) (x141 : Int32) (x142 : Int32) (x143 : Int32), (aj_lv lv137 0 = some (.ref 117)) → (aj_lv lv137 1 = some (.int x138)) → (aj_lv lv137 3 = some (.int x139)) → (aj_lv lv137 4 = some (.int x140)) → (aj_lv lv137 5 = some (.int x141)) → (aj_lv lv137 6 = some (.int x142)) → (aj_lv lv137 7 = some (.int x143)) → (aw_I s h (aw_G (nm, fl, la, 0, 0, ht)) S136) → (aw_fr [24, 25, 26, 27, 28, 29, 30, 31, 33, 34, 35, 36, 38, 39, 40, 52, 53, 54] [15, 19] S S136) → (20 ≤ x138.toInt ∧ x138.toInt ≤ 48) → (0 ≤ x139.toInt ∧ x139.toInt ≤ 2) → (0 ≤ x142.toInt ∧ x142.toInt ≤ 29) → (0 ≤ x143.toInt ∧ x143.toInt ≤ 1024) → ((S9.1 30).toInt + 1 ≤ (S136.1 30).toInt) → (ar_hd (((S136.1 32).toInt ≠ 0 → x139.toInt = 1 → 0 ≤ x140.toInt ∧ x140.toInt ≤ 7) ∧ (x139.toInt = 2 → -1 ≤ x140.toInt ∧ x140.toInt ≤ 5))) → (ar_hd (((S136.1 32).toInt ≠ 0 → (S136.1 52).toInt = 1 → 0 ≤ (S136.1 53).toInt ∧ (S136.1 53).toInt ≤ 7) ∧ ((S136.1 52).toInt = 2 → -1 ≤ (S136.1 53).toInt ∧ (S136.1 53).toInt ≤ 5))) → ((S136.1 32).toInt ≠ 0) → (x142.toInt = x75.toInt) → ((S.1 30).toInt + 1 ≤ (S136.1 30).toInt) → (1024 - x143.toInt).toNat < N → aw_W tb h d aj_m254 88 lv137 [] S136 ((ar_QT s h (nm, fl, la, 0, 0, ht) [24, 25, 26, 27, 28, 29, 30, 31, 33, 34, 35, 36, 38, 39, 40, 52, 53, 54] [15, 19] S (fun _ => True))) := by
  have hs : aw_sT s := aw_hy_sT hU.2.2
  intro N88
  induction N88 with
  | zero =>
    intro S136 lv137 x138 x139 x140 x141 x142 x143 hlv137_0 hlv137_1 hlv137_3 hlv137_4 hlv137_5 hlv137_6 hlv137_7 hI144 fr145 bx138 bx139 bx142 bx143 cA88 sA88 sB88 w88 e88 ck88 hm88
    omega
  | succ N88 ihL88_134 =>
    intro S136 lv137 x138 x139 x140 x141 x142 x143 hlv137_0 hlv137_1 hlv137_3 hlv137_4 hlv137_5 hlv137_6 hlv137_7 hI144 fr145 bx138 bx139 bx142 bx143 cA88 sA88 sB88 w88 e88 ck88 hm88
    have hI146 : aw_I s h (aw_sm S136) S136 := ⟨hI144.1, aw_sm_rf⟩
    have b147 : 0 ≤ (S136.1 30).toInt ∧ (S136.1 30).toInt ≤ 1001 := aw_bd_f hs (hI146).1 (by decide) rfl
    refine aw_l0 aj_d254 rfl rfl hlv137_7 ?_
    refine aw_l2 aj_d254 rfl rfl hlv137_0 ?_
    refine aw_g hU.1 aj_d254 rfl rfl (by decide) (v := .ref 122) rfl ?_
    refine aw_l2 aj_d254 rfl rfl hlv137_0 ?_
    have b148 : 0 ≤ (S136.1 37).toInt ∧ (S136.1 37).toInt ≤ 1 := aw_bd_f hs (hI146).1 (by decide) rfl
    refine aw_g hU.1 aj_d254 rfl rfl (by decide) (v := .int (S136.1 37)) rfl ?_
    refine aw_ld (k := 5) hU.1 aj_d254 (Or.inl ⟨rfl, rfl⟩) rfl (by decide) (by decide) rfl (a := (S136.1 37).toInt) rfl (by omega) (by omega) (fun x149 ex149 => ?_)
    have bx149 : 0 ≤ x149.toInt ∧ x149.toInt ≤ 1024 := by
      rw [ex149]
      exact aw_bd_a hs (hI146).1 (k := 5) (by decide) (by decide) rfl (by decide) rfl (by omega)
    refine aw_c (tgt := 162) aj_d254 rfl rfl (fun q150 => ?_) (fun q150 => ?_)
    · have q150 : x143.toInt ≥ x149.toInt := aw_t_ge (a := x143.toInt) (b := x149.toInt) rfl rfl q150
      refine aw_inc aj_d254 rfl hlv137_6 (a := x142.toInt) rfl (by omega) (by omega) (by decide) (by decide) (fun x151 ex151 => ?_)
      obtain ⟨lv152, elv152⟩ : ∃ l, l = aj_set1 lv137 6 (.int x151) := ⟨_, rfl⟩
      rw [← elv152]
      have hlv152_0 : aj_lv lv152 0 = some (.ref 117) := cw_e1 elv152 hlv137_0 (by decide) (Or.inl (by decide))
      have hlv152_1 : aj_lv lv152 1 = some (.int x138) := cw_e1 elv152 hlv137_1 (by decide) (Or.inl (by decide))
      have hlv152_3 : aj_lv lv152 3 = some (.int x139) := cw_e1 elv152 hlv137_3 (by decide) (Or.inl (by decide))
      have hlv152_4 : aj_lv lv152 4 = some (.int x140) := cw_e1 elv152 hlv137_4 (by decide) (Or.inl (by decide))
      have hlv152_5 : aj_lv lv152 5 = some (.int x141) := cw_e1 elv152 hlv137_5 (by decide) (Or.inr rfl)
      have hlv152_6 : aj_lv lv152 6 = some (.int x151) := by rw [elv152]; exact ak_set1_eq _ _ _
      show aw_W _ _ _ _ 165 lv152 [] _ _
      refine aw_n aj_d254 rfl rfl ?_
      have b153 : 0 ≤ (S136.1 32).toInt ∧ (S136.1 32).toInt ≤ 1 := aw_bd_f hs (hI146).1 (by decide) rfl
      have b154 : 0 ≤ (S136.1 52).toInt ∧ (S136.1 52).toInt ≤ 2 := aw_bd_f hs (hI146).1 (by decide) rfl
      exact ihL67_67 S136 lv152 (x138) (x139) (x140) (x141) (x151) hlv152_0 hlv152_1 hlv152_3 hlv152_4 hlv152_5 hlv152_6 ⟨(hI146).1, hI144.2⟩ fr145 (by omega) (by omega) (by omega) (show _ ≤ ((S136.1 30)).toInt by omega) (ar_mk ⟨fun y z => (ar_un sA88).1 (by have y : ((S136.1 32)).toInt ≠ 0 := y; show (S136.1 32).toInt ≠ 0; omega) z, fun z => (ar_un sA88).2 z⟩) (ar_mk ⟨(fun y z => by have y : ((S136.1 32)).toInt ≠ 0 := y; have z : ((S136.1 52)).toInt = 1 := z; show 0 ≤ ((S136.1 53)).toInt ∧ ((S136.1 53)).toInt ≤ 7; have u := (ar_un sB88).1 (by show (S136.1 32).toInt ≠ 0; omega) (by show ((S136.1 52)).toInt = 1; omega); have u : 0 ≤ ((S136.1 53)).toInt ∧ ((S136.1 53)).toInt ≤ 7 := u; omega), (fun z => by have z : ((S136.1 52)).toInt = 2 := z; show -1 ≤ ((S136.1 53)).toInt ∧ ((S136.1 53)).toInt ≤ 5; have u := (ar_un sB88).2 (by show ((S136.1 52)).toInt = 2; omega); have u : -1 ≤ ((S136.1 53)).toInt ∧ ((S136.1 53)).toInt ≤ 5 := u; omega)⟩) (show _ ≤ ((S136.1 30)).toInt by omega) (by omega)
    · have q150 : x143.toInt < x149.toInt := aw_t_ge (a := x143.toInt) (b := x149.toInt) rfl rfl q150
      refine aw_l0 aj_d254 rfl rfl hlv137_5 ?_
      refine aw_l2 aj_d254 rfl rfl hlv137_0 ?_
      refine aw_l0 aj_d254 rfl rfl hlv137_1 ?_
      refine aw_l0 aj_d254 rfl rfl hlv137_6 ?_
      refine aw_l0 aj_d254 rfl rfl hlv137_3 ?_
      refine aw_l0 aj_d254 rfl rfl hlv137_4 ?_
      refine aw_l0 aj_d254 rfl rfl hlv137_7 ?_
      have b156 : 0 ≤ (S136.1 32).toInt ∧ (S136.1 32).toInt ≤ 1 := aw_bd_f hs (hI146).1 (by decide) rfl
      refine aw_k hU.1 aj_d254 rfl rfl [_, _, _, _, _] rfl rfl rfl (Nat.le_of_ble_eq_true rfl) (ar_sided hU (hI146).1 (aw_G_B hI144.2).1 (by omega) (t := x138) (r := x142) (k := x139) (v := x140) (x := x143) (by omega) (by omega) ⟨fun z => (ar_un sA88).1 (by first | omega | (rw [← show (S136.1 32).toInt = _ from rfl]; omega)) z, fun z => (ar_un sA88).2 z⟩ (by omega)) ?_
      rintro _ zb155 ⟨fb155, b155, rfl⟩
      rw [fb155]
      show aw_W _ _ _ _ 116 lv137 [.int b155, .int x141] _ _
      refine aw_l2 aj_d254 rfl rfl hlv137_0 ?_
      refine aw_l0 aj_d254 rfl rfl hlv137_1 ?_
      refine aw_l0 aj_d254 rfl rfl hlv137_6 ?_
      refine aw_l2 aj_d254 rfl rfl hlv137_0 ?_
      have b157 : 0 ≤ (S136.1 52).toInt ∧ (S136.1 52).toInt ≤ 2 := aw_bd_f hs (hI146).1 (by decide) rfl
      refine aw_g hU.1 aj_d254 rfl rfl (by decide) (v := .int (S136.1 52)) rfl ?_
      refine aw_l2 aj_d254 rfl rfl hlv137_0 ?_
      refine aw_g hU.1 aj_d254 rfl rfl (by decide) (v := .int (S136.1 53)) rfl ?_
      refine aw_l0 aj_d254 rfl rfl hlv137_7 ?_
      refine aw_k hU.1 aj_d254 rfl rfl [_, _, _, _, _] rfl rfl rfl (Nat.le_of_ble_eq_true rfl) (ar_sided hU (hI146).1 (aw_G_B hI144.2).1 (by omega) (t := x138) (r := x142) (k := (S136.1 52)) (v := (S136.1 53)) (x := x143) (by omega) (by omega) ⟨(by intro z; have z : ((S136.1 52)).toInt = 1 := z; show 0 ≤ ((S136.1 53)).toInt ∧ ((S136.1 53)).toInt ≤ 7; have y := (ar_un sB88).1 (by omega) (by omega); omega), (by intro z; have z : ((S136.1 52)).toInt = 2 := z; show -1 ≤ ((S136.1 53)).toInt ∧ ((S136.1 53)).toInt ≤ 5; have y := (ar_un sB88).2 (by omega); omega)⟩ (by omega)) ?_
      rintro _ zb158 ⟨fb158, b158, rfl⟩
      rw [fb158]
      show aw_W _ _ _ _ 133 lv137 [.int b158, .int b155, .int x141] _ _
      refine aw_ks aj_d254 rfl rfl rfl [_, _, _] rfl rfl (Nat.le_of_ble_eq_true rfl) (aw_toK hU aw_Gs_sm (con := ac_c242) (by omega) (ar_242 hU.2.1 (aw_SPc hU.2.2 aw_Gs_sm) aw_kpc) ⟨(hI146).1, aw_sm_rf⟩ ⟨(cw_full _), (cw_full _), (cw_full _), trivial⟩ (fun e he => nomatch he)) ?_
      rintro r159 S159 ⟨hr159, hJ159, fc159, po159, -⟩
      have hT159 := hJ159.1
      replace fc159 := aw_fr_sub (F' := []) (A' := []) (by decide) (by decide) fc159
      have fr160 := aw_fr_tr fr145 (aw_fr_sub (F := []) (A := []) (by decide) (by decide) fc159)
      have hI161 : aw_I s h (aw_sm S136) S159 := ⟨hT159, aw_sm_tr hI146.2 (aw_fr_sm (by decide) (by decide) (by decide) (F := []) (A := []) fc159)⟩
      obtain ⟨b159, rfl, bb159⟩ := cw_rI hr159
      show aw_W _ _ _ _ 136 lv137 [.int b159] _ _
      refine aw_z (tgt := 156) aj_d254 rfl rfl (fun q162 => ?_) (fun q162 => ?_)
      · have q162 : b159.toInt ≠ (0 : Int) := aw_t_ne (a := b159.toInt) (b := (0 : Int)) rfl rfl q162
        refine aw_inc aj_d254 rfl hlv137_7 (a := x143.toInt) rfl (by omega) (by omega) (by decide) (by decide) (fun x163 ex163 => ?_)
        obtain ⟨lv164, elv164⟩ : ∃ l, l = aj_set1 lv137 7 (.int x163) := ⟨_, rfl⟩
        rw [← elv164]
        have hlv164_0 : aj_lv lv164 0 = some (.ref 117) := cw_e1 elv164 hlv137_0 (by decide) (Or.inl (by decide))
        have hlv164_1 : aj_lv lv164 1 = some (.int x138) := cw_e1 elv164 hlv137_1 (by decide) (Or.inl (by decide))
        have hlv164_3 : aj_lv lv164 3 = some (.int x139) := cw_e1 elv164 hlv137_3 (by decide) (Or.inl (by decide))
        have hlv164_4 : aj_lv lv164 4 = some (.int x140) := cw_e1 elv164 hlv137_4 (by decide) (Or.inl (by decide))
        have hlv164_5 : aj_lv lv164 5 = some (.int x141) := cw_e1 elv164 hlv137_5 (by decide) (Or.inl (by decide))
        have hlv164_6 : aj_lv lv164 6 = some (.int x142) := cw_e1 elv164 hlv137_6 (by decide) (Or.inr rfl)
        have hlv164_7 : aj_lv lv164 7 = some (.int x163) := by rw [elv164]; exact ak_set1_eq _ _ _
        show aw_W _ _ _ _ 159 lv164 [] _ _
        refine aw_n aj_d254 rfl rfl ?_
        have c165 : (S159.1 30).toInt = (S136.1 30).toInt := (congrArg Int32.toInt (fc159.1 30 (by decide)).1).trans rfl
        have b166 : 0 ≤ (S159.1 30).toInt ∧ (S159.1 30).toInt ≤ 1001 := aw_bd_f hs (hI161).1 (by decide) rfl
        have c167 : (S159.1 32).toInt = (S136.1 32).toInt := (congrArg Int32.toInt (fc159.1 32 (by decide)).1).trans rfl
        have b168 : 0 ≤ (S159.1 32).toInt ∧ (S159.1 32).toInt ≤ 1 := aw_bd_f hs (hI161).1 (by decide) rfl
        have c169 : (S159.1 52).toInt = (S136.1 52).toInt := (congrArg Int32.toInt (fc159.1 52 (by decide)).1).trans rfl
        have b170 : 0 ≤ (S159.1 52).toInt ∧ (S159.1 52).toInt ≤ 2 := aw_bd_f hs (hI161).1 (by decide) rfl
        have c171 : (S159.1 53).toInt = (S136.1 53).toInt := (congrArg Int32.toInt (fc159.1 53 (by decide)).1).trans rfl
        exact ihL88_134 S159 lv164 (x138) (x139) (x140) (x141) (x142) (x163) hlv164_0 hlv164_1 hlv164_3 hlv164_4 hlv164_5 hlv164_6 hlv164_7 ⟨(hI161).1, (aw_G_sm hI161.2 hI144.2)⟩ fr160 (by omega) (by omega) (by omega) (by omega) (show _ ≤ ((S159.1 30)).toInt by omega) (ar_mk ⟨fun y z => (ar_un sA88).1 (by have y : ((S159.1 32)).toInt ≠ 0 := y; show (S136.1 32).toInt ≠ 0; omega) z, fun z => (ar_un sA88).2 z⟩) (ar_mk ⟨(fun y z => by have y : ((S159.1 32)).toInt ≠ 0 := y; have z : ((S159.1 52)).toInt = 1 := z; show 0 ≤ ((S159.1 53)).toInt ∧ ((S159.1 53)).toInt ≤ 7; have u := (ar_un sB88).1 (by show (S136.1 32).toInt ≠ 0; omega) (by show ((S136.1 52)).toInt = 1; omega); have u : 0 ≤ ((S136.1 53)).toInt ∧ ((S136.1 53)).toInt ≤ 7 := u; omega), (fun z => by have z : ((S159.1 52)).toInt = 2 := z; show -1 ≤ ((S159.1 53)).toInt ∧ ((S159.1 53)).toInt ≤ 5; have u := (ar_un sB88).2 (by show ((S136.1 52)).toInt = 2; omega); have u : -1 ≤ ((S136.1 53)).toInt ∧ ((S136.1 53)).toInt ≤ 5 := u; omega)⟩) (show ((S159.1 32)).toInt ≠ 0 by omega) (by omega) (show _ ≤ ((S159.1 30)).toInt by omega) (by omega)
      · have q162 : b159.toInt = (0 : Int) := aw_t_ne (a := b159.toInt) (b := (0 : Int)) rfl rfl q162
        refine aw_l2 aj_d254 rfl rfl hlv137_0 ?_
        refine aw_g hU.1 aj_d254 rfl rfl (by decide) (v := .ref 136) rfl ?_
        refine aw_l2 aj_d254 rfl rfl hlv137_0 ?_
        refine aw_l0 aj_d254 rfl rfl hlv137_1 ?_
        refine aw_l0 aj_d254 rfl rfl hlv137_6 ?_
        refine aw_k hU.1 aj_d254 rfl rfl [_, _] rfl rfl rfl (Nat.le_of_ble_eq_true rfl) (ar_at (by omega) (a := x138.toInt) (b := x142.toInt) rfl rfl (by omega) (by omega)) ?_
        rintro _ zx172 ⟨fx172, x172, rfl, ex172⟩
        rw [fx172]
        show aw_W _ _ _ _ 150 lv137 [.int x172, .ref 136] _ _
        refine aw_l0 aj_d254 rfl rfl hlv137_7 ?_
        refine aw_n aj_d254 rfl rfl ?_
        refine aw_ks aj_d254 rfl rfl rfl [_, _, _, _] rfl rfl (Nat.le_of_ble_eq_true rfl) (ar_put hU (hI161).1 (by omega) (k := 19) (n := 48000) (by decide) (by decide) rfl rfl (a := ((x138.toInt * 30 + x142.toInt) * 32)) (b := x143.toInt) ex172 rfl (by omega) (by omega) (by omega) (by decide)) ?_
        rintro _ S173 ⟨hT173, fc173, rfl, pe173⟩
        have fr174 := aw_fr_tr fr160 (aw_fr_sub (F := []) (A := [19]) (by decide) (by decide) fc173)
        have hI175 : aw_I s h (aw_sm S136) S173 := ⟨hT173, aw_sm_tr hI161.2 (aw_fr_sm (by decide) (by decide) (by decide) (F := []) (A := [19]) fc173)⟩
        show aw_W _ _ _ _ 156 lv137 [] _ _
        refine aw_inc aj_d254 rfl hlv137_7 (a := x143.toInt) rfl (by omega) (by omega) (by decide) (by decide) (fun x176 ex176 => ?_)
        obtain ⟨lv177, elv177⟩ : ∃ l, l = aj_set1 lv137 7 (.int x176) := ⟨_, rfl⟩
        rw [← elv177]
        have hlv177_0 : aj_lv lv177 0 = some (.ref 117) := cw_e1 elv177 hlv137_0 (by decide) (Or.inl (by decide))
        have hlv177_1 : aj_lv lv177 1 = some (.int x138) := cw_e1 elv177 hlv137_1 (by decide) (Or.inl (by decide))
        have hlv177_3 : aj_lv lv177 3 = some (.int x139) := cw_e1 elv177 hlv137_3 (by decide) (Or.inl (by decide))
        have hlv177_4 : aj_lv lv177 4 = some (.int x140) := cw_e1 elv177 hlv137_4 (by decide) (Or.inl (by decide))
        have hlv177_5 : aj_lv lv177 5 = some (.int x141) := cw_e1 elv177 hlv137_5 (by decide) (Or.inl (by decide))
        have hlv177_6 : aj_lv lv177 6 = some (.int x142) := cw_e1 elv177 hlv137_6 (by decide) (Or.inr rfl)
        have hlv177_7 : aj_lv lv177 7 = some (.int x176) := by rw [elv177]; exact ak_set1_eq _ _ _
        show aw_W _ _ _ _ 159 lv177 [] _ _
        refine aw_n aj_d254 rfl rfl ?_
        have c178 : (S159.1 30).toInt = (S136.1 30).toInt := (congrArg Int32.toInt (fc159.1 30 (by decide)).1).trans rfl
        have b179 : 0 ≤ (S159.1 30).toInt ∧ (S159.1 30).toInt ≤ 1001 := aw_bd_f hs (hI161).1 (by decide) rfl
        have c180 : (S173.1 30).toInt = (S136.1 30).toInt := (congrArg Int32.toInt (fc173.1 30 (by decide)).1).trans c178
        have b181 : 0 ≤ (S173.1 30).toInt ∧ (S173.1 30).toInt ≤ 1001 := aw_bd_f hs (hI175).1 (by decide) rfl
        have c182 : (S159.1 32).toInt = (S136.1 32).toInt := (congrArg Int32.toInt (fc159.1 32 (by decide)).1).trans rfl
        have b183 : 0 ≤ (S159.1 32).toInt ∧ (S159.1 32).toInt ≤ 1 := aw_bd_f hs (hI161).1 (by decide) rfl
        have c184 : (S173.1 32).toInt = (S136.1 32).toInt := (congrArg Int32.toInt (fc173.1 32 (by decide)).1).trans c182
        have b185 : 0 ≤ (S173.1 32).toInt ∧ (S173.1 32).toInt ≤ 1 := aw_bd_f hs (hI175).1 (by decide) rfl
        have c186 : (S159.1 52).toInt = (S136.1 52).toInt := (congrArg Int32.toInt (fc159.1 52 (by decide)).1).trans rfl
        have b187 : 0 ≤ (S159.1 52).toInt ∧ (S159.1 52).toInt ≤ 2 := aw_bd_f hs (hI161).1 (by decide) rfl
        have c188 : (S173.1 52).toInt = (S136.1 52).toInt := (congrArg Int32.toInt (fc173.1 52 (by decide)).1).trans c186
        have b189 : 0 ≤ (S173.1 52).toInt ∧ (S173.1 52).toInt ≤ 2 := aw_bd_f hs (hI175).1 (by decide) rfl
        have c190 : (S159.1 53).toInt = (S136.1 53).toInt := (congrArg Int32.toInt (fc159.1 53 (by decide)).1).trans rfl
        have c191 : (S173.1 53).toInt = (S136.1 53).toInt := (congrArg Int32.toInt (fc173.1 53 (by decide)).1).trans c190
        exact ihL88_134 S173 lv177 (x138) (x139) (x140) (x141) (x142) (x176) hlv177_0 hlv177_1 hlv177_3 hlv177_4 hlv177_5 hlv177_6 hlv177_7 ⟨(hI175).1, (aw_G_sm hI175.2 hI144.2)⟩ fr174 (by omega) (by omega) (by omega) (by omega) (show _ ≤ ((S173.1 30)).toInt by omega) (ar_mk ⟨fun y z => (ar_un sA88).1 (by have y : ((S173.1 32)).toInt ≠ 0 := y; show (S136.1 32).toInt ≠ 0; omega) z, fun z => (ar_un sA88).2 z⟩) (ar_mk ⟨(fun y z => by have y : ((S173.1 32)).toInt ≠ 0 := y; have z : ((S173.1 52)).toInt = 1 := z; show 0 ≤ ((S173.1 53)).toInt ∧ ((S173.1 53)).toInt ≤ 7; have u := (ar_un sB88).1 (by show (S136.1 32).toInt ≠ 0; omega) (by show ((S136.1 52)).toInt = 1; omega); have u : 0 ≤ ((S136.1 53)).toInt ∧ ((S136.1 53)).toInt ≤ 7 := u; omega), (fun z => by have z : ((S173.1 52)).toInt = 2 := z; show -1 ≤ ((S173.1 53)).toInt ∧ ((S173.1 53)).toInt ≤ 5; have u := (ar_un sB88).2 (by show ((S136.1 52)).toInt = 2; omega); have u : -1 ≤ ((S136.1 53)).toInt ∧ ((S136.1 53)).toInt ≤ 5 := u; omega)⟩) (show ((S173.1 32)).toInt ≠ 0 by omega) (by omega) (show _ ≤ ((S173.1 30)).toInt by omega) (by omega)
theorem ar_tests_L67_67 (hU : aw_U tb s h) (hd : 8 ≤ d + 1) (N11 : Nat) (S9 : aj_S) (x11 : Int32) (ihL11_7 : ∀ (S9 : aj_S) (lv10 : aj_V) (x11 : Int32), (aj_lv lv10 0 = some (.ref 117)) → (aj_lv lv10 1 = some (.int x11)) → (aw_I s h (aw_G (nm, fl, la, 0, 0, ht)) S9) → (aw_fr [24, 25, 26, 27, 28, 29, 30, 31, 33, 34, 35, 36, 38, 39, 40, 52, 53, 54] [15, 19] S S9) → (20 ≤ x11.toInt ∧ x11.toInt ≤ 48) → ((S9.1 26).toInt = 3) → (ar_hd ((S9.1 29).toInt ≠ 63)) → ((S.1 30).toInt ≤ (S9.1 30).toInt) → (1001 - (S9.1 30).toInt).toNat < N11 → aw_W tb h d aj_m254 11 lv10 [] S9 ((ar_QT s h (nm, fl, la, 0, 0, ht) [24, 25, 26, 27, 28, 29, 30, 31, 33, 34, 35, 36, 38, 39, 40, 52, 53, 54] [15, 19] S (fun _ => True)))) (hm11 : (1001 - (S9.1 30).toInt).toNat < N11 + 1) : ∀ (N : Nat) (S69 : aj_S) (lv70 : aj_V) (x71 : Int32) (x72 : Int32) (x73 : Int32) (x74 : Int32) (x75 : Int32), (aj_lv lv70 0 = some (.ref 117)) → (aj_lv lv70 1 = some (.int x71)) → (aj_lv lv70 3 = some (.int x72)) → (aj_lv lv70 4 = some (.int x73)) → (aj_lv lv70 5 = some (.int x74)) → (aj_lv lv70 6 = some (.int x75)) → (aw_I s h (aw_G (nm, fl, la, 0, 0, ht)) S69) → (aw_fr [24, 25, 26, 27, 28, 29, 30, 31, 33, 34, 35, 36, 38, 39, 40, 52, 53, 54] [15, 19] S S69) → (20 ≤ x71.toInt ∧ x71.toInt ≤ 48) → (0 ≤ x72.toInt ∧ x72.toInt ≤ 2) → (0 ≤ x75.toInt ∧ x75.toInt ≤ 30) → ((S9.1 30).toInt + 1 ≤ (S69.1 30).toInt) → (ar_hd (((S69.1 32).toInt ≠ 0 → x72.toInt = 1 → 0 ≤ x73.toInt ∧ x73.toInt ≤ 7) ∧ (x72.toInt = 2 → -1 ≤ x73.toInt ∧ x73.toInt ≤ 5))) → (ar_hd (((S69.1 32).toInt ≠ 0 → (S69.1 52).toInt = 1 → 0 ≤ (S69.1 53).toInt ∧ (S69.1 53).toInt ≤ 7) ∧ ((S69.1 52).toInt = 2 → -1 ≤ (S69.1 53).toInt ∧ (S69.1 53).toInt ≤ 5))) → ((S.1 30).toInt + 1 ≤ (S69.1 30).toInt) → (30 - x75.toInt).toNat < N → aw_W tb h d aj_m254 67 lv70 [] S69 ((ar_QT s h (nm, fl, la, 0, 0, ht) [24, 25, 26, 27, 28, 29, 30, 31, 33, 34, 35, 36, 38, 39, 40, 52, 53, 54] [15, 19] S (fun _ => True))) := by
  have hs : aw_sT s := aw_hy_sT hU.2.2
  intro N67
  induction N67 with
  | zero =>
    intro S69 lv70 x71 x72 x73 x74 x75 hlv70_0 hlv70_1 hlv70_3 hlv70_4 hlv70_5 hlv70_6 hI76 fr77 bx71 bx72 bx75 cA67 sA67 sB67 ck67 hm67
    omega
  | succ N67 ihL67_67 =>
    intro S69 lv70 x71 x72 x73 x74 x75 hlv70_0 hlv70_1 hlv70_3 hlv70_4 hlv70_5 hlv70_6 hI76 fr77 bx71 bx72 bx75 cA67 sA67 sB67 ck67 hm67
    have hI78 : aw_I s h (aw_sm S69) S69 := ⟨hI76.1, aw_sm_rf⟩
    have b79 : 0 ≤ (S69.1 30).toInt ∧ (S69.1 30).toInt ≤ 1001 := aw_bd_f hs (hI78).1 (by decide) rfl
    refine aw_l2 aj_d254 rfl rfl hlv70_0 ?_
    have b80 : 0 ≤ (S69.1 32).toInt ∧ (S69.1 32).toInt ≤ 1 := aw_bd_f hs (hI78).1 (by decide) rfl
    refine aw_g hU.1 aj_d254 rfl rfl (by decide) (v := .int (S69.1 32)) rfl ?_
    refine aw_z (tgt := 168) aj_d254 rfl rfl (fun q81 => ?_) (fun q81 => ?_)
    · have q81 : (S69.1 32).toInt = (0 : Int) := aw_t_eq (a := (S69.1 32).toInt) (b := (0 : Int)) rfl rfl q81
      refine aw_l2 aj_d254 rfl rfl hlv70_0 ?_
      refine aw_n aj_d254 rfl rfl ?_
      refine aw_k hU.1 aj_d254 rfl rfl [_] rfl rfl rfl (Nat.le_of_ble_eq_true rfl) (ar_isSign hU (by omega) (b := (44 : Int)) rfl) ?_
      have b84 : 0 ≤ (S69.1 26).toInt ∧ (S69.1 26).toInt ≤ 5 := aw_bd_f hs (hI78).1 (by decide) rfl
      rintro _ S83 ⟨eS83, b82, rfl, kb82⟩
      rw [eS83]
      rcases kb82 with ⟨hb82, pb82, qb82⟩ | ⟨hb82, pb82⟩
      · skip
        have pb82 : ((S69.1 26)).toInt = 3 := pb82
        have qb82 : ((S69.1 29)).toInt = (44 : Int) := qb82
        show aw_W _ _ _ _ 174 lv70 [.int b82] _ _
        refine aw_t0 (j := 2) aj_d254 rfl (by decide) rfl ?_
        obtain ⟨lv85, elv85⟩ : ∃ l, l = aj_set1 lv70 2 (.int b82) := ⟨_, rfl⟩
        rw [← elv85]
        have hlv85_0 : aj_lv lv85 0 = some (.ref 117) := cw_e1 elv85 hlv70_0 (by decide) (Or.inl (by decide))
        have hlv85_1 : aj_lv lv85 1 = some (.int x71) := cw_e1 elv85 hlv70_1 (by decide) (Or.inr rfl)
        have hlv85_2 : aj_lv lv85 2 = some (.int b82) := by rw [elv85]; exact ak_set1_eq _ _ _
        show aw_W _ _ _ _ 175 lv85 [] _ _
        refine aw_n aj_d254 rfl rfl ?_
        refine aw_l0 aj_d254 rfl rfl hlv85_2 ?_
        refine aw_z (tgt := 178) aj_d254 rfl rfl (fun q86 => ?_) (fun q86 => ?_)
        · have q86 : (1 : Int) = (0 : Int) := aw_t_eq (a := (1 : Int)) (b := (0 : Int)) hb82 rfl q86
          exfalso
          omega
        · have q86 : (1 : Int) ≠ (0 : Int) := aw_t_eq (a := (1 : Int)) (b := (0 : Int)) hb82 rfl q86
          exact ihL11_7 S69 lv85 (x71) hlv85_0 hlv85_1 ⟨(hI78).1, hI76.2⟩ fr77 (by omega) (show ((S69.1 26)).toInt = 3 by omega) (ar_mk (show ((S69.1 29)).toInt ≠ 63 by first | omega | exact hk.2)) (show _ ≤ ((S69.1 30)).toInt by omega) (show (1001 - ((S69.1 30)).toInt).toNat < _ by omega)
      · skip
        clear pb82
        show aw_W _ _ _ _ 174 lv70 [.int b82] _ _
        refine aw_t0 (j := 2) aj_d254 rfl (by decide) rfl ?_
        obtain ⟨lv87, elv87⟩ : ∃ l, l = aj_set1 lv70 2 (.int b82) := ⟨_, rfl⟩
        rw [← elv87]
        have hlv87_0 : aj_lv lv87 0 = some (.ref 117) := cw_e1 elv87 hlv70_0 (by decide) (Or.inl (by decide))
        have hlv87_1 : aj_lv lv87 1 = some (.int x71) := cw_e1 elv87 hlv70_1 (by decide) (Or.inr rfl)
        have hlv87_2 : aj_lv lv87 2 = some (.int b82) := by rw [elv87]; exact ak_set1_eq _ _ _
        show aw_W _ _ _ _ 175 lv87 [] _ _
        refine aw_n aj_d254 rfl rfl ?_
        refine aw_l0 aj_d254 rfl rfl hlv87_2 ?_
        refine aw_z (tgt := 178) aj_d254 rfl rfl (fun q88 => ?_) (fun q88 => ?_)
        · have q88 : (0 : Int) = (0 : Int) := aw_t_eq (a := (0 : Int)) (b := (0 : Int)) hb82 rfl q88
          refine aw_l2 aj_d254 rfl rfl hlv87_0 ?_
          have b89 : 0 ≤ (S69.1 54).toInt ∧ (S69.1 54).toInt ≤ 1 := aw_bd_f hs (hI78).1 (by decide) rfl
          refine aw_g hU.1 aj_d254 rfl rfl (by decide) (v := .int (S69.1 54)) rfl ?_
          refine aw_z (tgt := 192) aj_d254 rfl rfl (fun q90 => ?_) (fun q90 => ?_)
          · have q90 : (S69.1 54).toInt = (0 : Int) := aw_t_eq (a := (S69.1 54).toInt) (b := (0 : Int)) rfl rfl q90
            refine aw_l2 aj_d254 rfl rfl hlv87_0 ?_
            refine aw_n aj_d254 rfl rfl ?_
            refine aw_k hU.1 aj_d254 rfl rfl [_] rfl rfl rfl (Nat.le_of_ble_eq_true rfl) (aw_toK hU aw_Gs_G (con := ac_c219_93) (by omega) (ar_219_93 hU.2.1 (aw_SPc hU.2.2 aw_Gs_G) aw_kpc (arc_214c hU) (arc_215 hU)) ⟨(hI78).1, hI76.2⟩ ⟨(aw_g117 hU.2.2), (cw_gw (a := (93 : Int)) rfl (by omega) (by omega)), trivial⟩ (fun e he => nomatch he)) ?_
            rintro r91 S91 ⟨hr91, hJ91, fc91, po91, -⟩
            have hT91 := hJ91.1
            replace fc91 := aw_fr_sub (F' := [24, 25, 26, 27, 28, 29, 30, 31]) (A' := []) (by decide) (by decide) fc91
            rcases ar_bool hU (hI78).1 hT91 hr91 po91 with ⟨b91, rfl, hb91, cf91⟩ | ⟨b91, rfl, hb91, ck91, gq91⟩
            · skip
              have cf91 : (S69.1 30).toInt + 0 ≤ (S91.1 30).toInt := cf91
              have fr92 := aw_fr_tr fr77 (aw_fr_sub (F := [24, 25, 26, 27, 28, 29, 30, 31]) (A := []) (by decide) (by decide) fc91)
              have hI93 : aw_I s h (aw_sm S91) S91 := ⟨hT91, aw_sm_rf⟩
              show aw_W _ _ _ _ 198 lv87 [.int b91] _ _
              refine aw_e aj_d254 rfl (cw_irb rfl (by omega)) ?_
              have b94 : 0 ≤ (S91.1 30).toInt ∧ (S91.1 30).toInt ≤ 1001 := aw_bd_f hs (hI93).1 (by decide) rfl
              exact ⟨(hI93).1, fr92, Or.inl ⟨_, rfl, hb91, hJ91.2, (show _ ≤ ((S91.1 30)).toInt by omega)⟩⟩
            · skip
              have ck91 : (S69.1 30).toInt + 1 ≤ (S91.1 30).toInt := ck91
              have fr95 := aw_fr_tr fr77 (aw_fr_sub (F := [24, 25, 26, 27, 28, 29, 30, 31]) (A := []) (by decide) (by decide) fc91)
              have hI96 : aw_I s h (aw_sm S91) S91 := ⟨hT91, aw_sm_rf⟩
              show aw_W _ _ _ _ 198 lv87 [.int b91] _ _
              refine aw_e aj_d254 rfl (cw_irb rfl (by omega)) ?_
              have b97 : 0 ≤ (S91.1 30).toInt ∧ (S91.1 30).toInt ≤ 1001 := aw_bd_f hs (hI96).1 (by decide) rfl
              exact ⟨(hI96).1, fr95, Or.inr ⟨_, rfl, hb91, hJ91.2, (show _ + 1 ≤ ((S91.1 30)).toInt by omega), trivial⟩⟩
          · have q90 : (S69.1 54).toInt ≠ (0 : Int) := aw_t_eq (a := (S69.1 54).toInt) (b := (0 : Int)) rfl rfl q90
            refine aw_l2 aj_d254 rfl rfl hlv87_0 ?_
            refine aw_g hU.1 aj_d254 rfl rfl (by decide) (v := .ref 132) rfl ?_
            refine aw_l0 aj_d254 rfl rfl hlv87_1 ?_
            refine aw_n aj_d254 rfl rfl ?_
            refine aw_st (k := 15) hU.1 aj_d254 (Or.inl ⟨rfl, rfl⟩) rfl (by decide) (by decide) rfl (a := x71.toInt) rfl (by omega) (by omega) ?_
            have hI98 := aw_I_a (aw_UV hU aw_Gs_sm) (k := 15) (j := (x71.toInt).toNat) (v := aj_nar 0 (Int32.ofInt (-1))) hI78 (by decide) (by decide) (by decide) rfl (by decide) (by decide) rfl (aw_bp (a := (-1 : Int)) rfl (by omega) (by omega))
            have fr99 := aw_fr_a (k := 15) (j := (x71.toInt).toNat) (v := aj_nar 0 (Int32.ofInt (-1))) (by decide) fr77
            refine aw_l2 aj_d254 rfl rfl hlv87_0 ?_
            refine aw_n aj_d254 rfl rfl ?_
            refine aw_k hU.1 aj_d254 rfl rfl [_] rfl rfl rfl (Nat.le_of_ble_eq_true rfl) (aw_toK hU aw_Gs_G (con := ac_c219_93) (by omega) (ar_219_93 hU.2.1 (aw_SPc hU.2.2 aw_Gs_G) aw_kpc (arc_214c hU) (arc_215 hU)) ⟨(hI98).1, (aw_G_sm hI98.2 hI76.2)⟩ ⟨(aw_g117 hU.2.2), (cw_gw (a := (93 : Int)) rfl (by omega) (by omega)), trivial⟩ (fun e he => nomatch he)) ?_
            rintro r100 S100 ⟨hr100, hJ100, fc100, po100, -⟩
            have hT100 := hJ100.1
            replace fc100 := aw_fr_sub (F' := [24, 25, 26, 27, 28, 29, 30, 31]) (A' := []) (by decide) (by decide) fc100
            rcases ar_bool hU (hI98).1 hT100 hr100 po100 with ⟨b100, rfl, hb100, cf100⟩ | ⟨b100, rfl, hb100, ck100, gq100⟩
            · skip
              have cf100 : (S69.1 30).toInt + 0 ≤ (S100.1 30).toInt := cf100
              have fr101 := aw_fr_tr fr99 (aw_fr_sub (F := [24, 25, 26, 27, 28, 29, 30, 31]) (A := []) (by decide) (by decide) fc100)
              have hI102 : aw_I s h (aw_sm S100) S100 := ⟨hT100, aw_sm_rf⟩
              show aw_W _ _ _ _ 198 lv87 [.int b100] _ _
              refine aw_e aj_d254 rfl (cw_irb rfl (by omega)) ?_
              have b103 : 0 ≤ (S100.1 30).toInt ∧ (S100.1 30).toInt ≤ 1001 := aw_bd_f hs (hI102).1 (by decide) rfl
              exact ⟨(hI102).1, fr101, Or.inl ⟨_, rfl, hb100, hJ100.2, (show _ ≤ ((S100.1 30)).toInt by omega)⟩⟩
            · skip
              have ck100 : (S69.1 30).toInt + 1 ≤ (S100.1 30).toInt := ck100
              have fr104 := aw_fr_tr fr99 (aw_fr_sub (F := [24, 25, 26, 27, 28, 29, 30, 31]) (A := []) (by decide) (by decide) fc100)
              have hI105 : aw_I s h (aw_sm S100) S100 := ⟨hT100, aw_sm_rf⟩
              show aw_W _ _ _ _ 198 lv87 [.int b100] _ _
              refine aw_e aj_d254 rfl (cw_irb rfl (by omega)) ?_
              have b106 : 0 ≤ (S100.1 30).toInt ∧ (S100.1 30).toInt ≤ 1001 := aw_bd_f hs (hI105).1 (by decide) rfl
              exact ⟨(hI105).1, fr104, Or.inr ⟨_, rfl, hb100, hJ100.2, (show _ + 1 ≤ ((S100.1 30)).toInt by omega), trivial⟩⟩
        · have q88 : (0 : Int) ≠ (0 : Int) := aw_t_eq (a := (0 : Int)) (b := (0 : Int)) hb82 rfl q88
          exfalso
          omega
    · have q81 : (S69.1 32).toInt ≠ (0 : Int) := aw_t_eq (a := (S69.1 32).toInt) (b := (0 : Int)) rfl rfl q81
      refine aw_l0 aj_d254 rfl rfl hlv70_6 ?_
      refine aw_l2 aj_d254 rfl rfl hlv70_0 ?_
      refine aw_g hU.1 aj_d254 rfl rfl (by decide) (v := .ref 131) rfl ?_
      refine aw_l0 aj_d254 rfl rfl hlv70_1 ?_
      refine aw_ld (k := 14) hU.1 aj_d254 (Or.inl ⟨rfl, rfl⟩) rfl (by decide) (by decide) rfl (a := x71.toInt) rfl (by omega) (by omega) (fun x107 ex107 => ?_)
      have bx107 : 0 ≤ x107.toInt ∧ x107.toInt ≤ 30 := by
        rw [ex107]
        exact aw_bd_a hs (hI78).1 (k := 14) (by decide) (by decide) rfl (by decide) rfl (by omega)
      refine aw_c (tgt := 168) aj_d254 rfl rfl (fun q108 => ?_) (fun q108 => ?_)
      · have q108 : x75.toInt ≥ x107.toInt := aw_t_ge (a := x75.toInt) (b := x107.toInt) rfl rfl q108
        refine aw_l2 aj_d254 rfl rfl hlv70_0 ?_
        refine aw_n aj_d254 rfl rfl ?_
        refine aw_k hU.1 aj_d254 rfl rfl [_] rfl rfl rfl (Nat.le_of_ble_eq_true rfl) (ar_isSign hU (by omega) (b := (44 : Int)) rfl) ?_
        have b111 : 0 ≤ (S69.1 26).toInt ∧ (S69.1 26).toInt ≤ 5 := aw_bd_f hs (hI78).1 (by decide) rfl
        rintro _ S110 ⟨eS110, b109, rfl, kb109⟩
        rw [eS110]
        rcases kb109 with ⟨hb109, pb109, qb109⟩ | ⟨hb109, pb109⟩
        · skip
          have pb109 : ((S69.1 26)).toInt = 3 := pb109
          have qb109 : ((S69.1 29)).toInt = (44 : Int) := qb109
          show aw_W _ _ _ _ 174 lv70 [.int b109] _ _
          refine aw_t0 (j := 2) aj_d254 rfl (by decide) rfl ?_
          obtain ⟨lv112, elv112⟩ : ∃ l, l = aj_set1 lv70 2 (.int b109) := ⟨_, rfl⟩
          rw [← elv112]
          have hlv112_0 : aj_lv lv112 0 = some (.ref 117) := cw_e1 elv112 hlv70_0 (by decide) (Or.inl (by decide))
          have hlv112_1 : aj_lv lv112 1 = some (.int x71) := cw_e1 elv112 hlv70_1 (by decide) (Or.inr rfl)
          have hlv112_2 : aj_lv lv112 2 = some (.int b109) := by rw [elv112]; exact ak_set1_eq _ _ _
          show aw_W _ _ _ _ 175 lv112 [] _ _
          refine aw_n aj_d254 rfl rfl ?_
          refine aw_l0 aj_d254 rfl rfl hlv112_2 ?_
          refine aw_z (tgt := 178) aj_d254 rfl rfl (fun q113 => ?_) (fun q113 => ?_)
          · have q113 : (1 : Int) = (0 : Int) := aw_t_eq (a := (1 : Int)) (b := (0 : Int)) hb109 rfl q113
            exfalso
            omega
          · have q113 : (1 : Int) ≠ (0 : Int) := aw_t_eq (a := (1 : Int)) (b := (0 : Int)) hb109 rfl q113
            exact ihL11_7 S69 lv112 (x71) hlv112_0 hlv112_1 ⟨(hI78).1, hI76.2⟩ fr77 (by omega) (show ((S69.1 26)).toInt = 3 by omega) (ar_mk (show ((S69.1 29)).toInt ≠ 63 by first | omega | exact hk.2)) (show _ ≤ ((S69.1 30)).toInt by omega) (show (1001 - ((S69.1 30)).toInt).toNat < _ by omega)
        · skip
          clear pb109
          show aw_W _ _ _ _ 174 lv70 [.int b109] _ _
          refine aw_t0 (j := 2) aj_d254 rfl (by decide) rfl ?_
          obtain ⟨lv114, elv114⟩ : ∃ l, l = aj_set1 lv70 2 (.int b109) := ⟨_, rfl⟩
          rw [← elv114]
          have hlv114_0 : aj_lv lv114 0 = some (.ref 117) := cw_e1 elv114 hlv70_0 (by decide) (Or.inl (by decide))
          have hlv114_1 : aj_lv lv114 1 = some (.int x71) := cw_e1 elv114 hlv70_1 (by decide) (Or.inr rfl)
          have hlv114_2 : aj_lv lv114 2 = some (.int b109) := by rw [elv114]; exact ak_set1_eq _ _ _
          show aw_W _ _ _ _ 175 lv114 [] _ _
          refine aw_n aj_d254 rfl rfl ?_
          refine aw_l0 aj_d254 rfl rfl hlv114_2 ?_
          refine aw_z (tgt := 178) aj_d254 rfl rfl (fun q115 => ?_) (fun q115 => ?_)
          · have q115 : (0 : Int) = (0 : Int) := aw_t_eq (a := (0 : Int)) (b := (0 : Int)) hb109 rfl q115
            refine aw_l2 aj_d254 rfl rfl hlv114_0 ?_
            have b116 : 0 ≤ (S69.1 54).toInt ∧ (S69.1 54).toInt ≤ 1 := aw_bd_f hs (hI78).1 (by decide) rfl
            refine aw_g hU.1 aj_d254 rfl rfl (by decide) (v := .int (S69.1 54)) rfl ?_
            refine aw_z (tgt := 192) aj_d254 rfl rfl (fun q117 => ?_) (fun q117 => ?_)
            · have q117 : (S69.1 54).toInt = (0 : Int) := aw_t_eq (a := (S69.1 54).toInt) (b := (0 : Int)) rfl rfl q117
              refine aw_l2 aj_d254 rfl rfl hlv114_0 ?_
              refine aw_n aj_d254 rfl rfl ?_
              refine aw_k hU.1 aj_d254 rfl rfl [_] rfl rfl rfl (Nat.le_of_ble_eq_true rfl) (aw_toK hU aw_Gs_G (con := ac_c219_93) (by omega) (ar_219_93 hU.2.1 (aw_SPc hU.2.2 aw_Gs_G) aw_kpc (arc_214c hU) (arc_215 hU)) ⟨(hI78).1, hI76.2⟩ ⟨(aw_g117 hU.2.2), (cw_gw (a := (93 : Int)) rfl (by omega) (by omega)), trivial⟩ (fun e he => nomatch he)) ?_
              rintro r118 S118 ⟨hr118, hJ118, fc118, po118, -⟩
              have hT118 := hJ118.1
              replace fc118 := aw_fr_sub (F' := [24, 25, 26, 27, 28, 29, 30, 31]) (A' := []) (by decide) (by decide) fc118
              rcases ar_bool hU (hI78).1 hT118 hr118 po118 with ⟨b118, rfl, hb118, cf118⟩ | ⟨b118, rfl, hb118, ck118, gq118⟩
              · skip
                have cf118 : (S69.1 30).toInt + 0 ≤ (S118.1 30).toInt := cf118
                have fr119 := aw_fr_tr fr77 (aw_fr_sub (F := [24, 25, 26, 27, 28, 29, 30, 31]) (A := []) (by decide) (by decide) fc118)
                have hI120 : aw_I s h (aw_sm S118) S118 := ⟨hT118, aw_sm_rf⟩
                show aw_W _ _ _ _ 198 lv114 [.int b118] _ _
                refine aw_e aj_d254 rfl (cw_irb rfl (by omega)) ?_
                have b121 : 0 ≤ (S118.1 30).toInt ∧ (S118.1 30).toInt ≤ 1001 := aw_bd_f hs (hI120).1 (by decide) rfl
                exact ⟨(hI120).1, fr119, Or.inl ⟨_, rfl, hb118, hJ118.2, (show _ ≤ ((S118.1 30)).toInt by omega)⟩⟩
              · skip
                have ck118 : (S69.1 30).toInt + 1 ≤ (S118.1 30).toInt := ck118
                have fr122 := aw_fr_tr fr77 (aw_fr_sub (F := [24, 25, 26, 27, 28, 29, 30, 31]) (A := []) (by decide) (by decide) fc118)
                have hI123 : aw_I s h (aw_sm S118) S118 := ⟨hT118, aw_sm_rf⟩
                show aw_W _ _ _ _ 198 lv114 [.int b118] _ _
                refine aw_e aj_d254 rfl (cw_irb rfl (by omega)) ?_
                have b124 : 0 ≤ (S118.1 30).toInt ∧ (S118.1 30).toInt ≤ 1001 := aw_bd_f hs (hI123).1 (by decide) rfl
                exact ⟨(hI123).1, fr122, Or.inr ⟨_, rfl, hb118, hJ118.2, (show _ + 1 ≤ ((S118.1 30)).toInt by omega), trivial⟩⟩
            · have q117 : (S69.1 54).toInt ≠ (0 : Int) := aw_t_eq (a := (S69.1 54).toInt) (b := (0 : Int)) rfl rfl q117
              refine aw_l2 aj_d254 rfl rfl hlv114_0 ?_
              refine aw_g hU.1 aj_d254 rfl rfl (by decide) (v := .ref 132) rfl ?_
              refine aw_l0 aj_d254 rfl rfl hlv114_1 ?_
              refine aw_n aj_d254 rfl rfl ?_
              refine aw_st (k := 15) hU.1 aj_d254 (Or.inl ⟨rfl, rfl⟩) rfl (by decide) (by decide) rfl (a := x71.toInt) rfl (by omega) (by omega) ?_
              have hI125 := aw_I_a (aw_UV hU aw_Gs_sm) (k := 15) (j := (x71.toInt).toNat) (v := aj_nar 0 (Int32.ofInt (-1))) hI78 (by decide) (by decide) (by decide) rfl (by decide) (by decide) rfl (aw_bp (a := (-1 : Int)) rfl (by omega) (by omega))
              have fr126 := aw_fr_a (k := 15) (j := (x71.toInt).toNat) (v := aj_nar 0 (Int32.ofInt (-1))) (by decide) fr77
              refine aw_l2 aj_d254 rfl rfl hlv114_0 ?_
              refine aw_n aj_d254 rfl rfl ?_
              refine aw_k hU.1 aj_d254 rfl rfl [_] rfl rfl rfl (Nat.le_of_ble_eq_true rfl) (aw_toK hU aw_Gs_G (con := ac_c219_93) (by omega) (ar_219_93 hU.2.1 (aw_SPc hU.2.2 aw_Gs_G) aw_kpc (arc_214c hU) (arc_215 hU)) ⟨(hI125).1, (aw_G_sm hI125.2 hI76.2)⟩ ⟨(aw_g117 hU.2.2), (cw_gw (a := (93 : Int)) rfl (by omega) (by omega)), trivial⟩ (fun e he => nomatch he)) ?_
              rintro r127 S127 ⟨hr127, hJ127, fc127, po127, -⟩
              have hT127 := hJ127.1
              replace fc127 := aw_fr_sub (F' := [24, 25, 26, 27, 28, 29, 30, 31]) (A' := []) (by decide) (by decide) fc127
              rcases ar_bool hU (hI125).1 hT127 hr127 po127 with ⟨b127, rfl, hb127, cf127⟩ | ⟨b127, rfl, hb127, ck127, gq127⟩
              · skip
                have cf127 : (S69.1 30).toInt + 0 ≤ (S127.1 30).toInt := cf127
                have fr128 := aw_fr_tr fr126 (aw_fr_sub (F := [24, 25, 26, 27, 28, 29, 30, 31]) (A := []) (by decide) (by decide) fc127)
                have hI129 : aw_I s h (aw_sm S127) S127 := ⟨hT127, aw_sm_rf⟩
                show aw_W _ _ _ _ 198 lv114 [.int b127] _ _
                refine aw_e aj_d254 rfl (cw_irb rfl (by omega)) ?_
                have b130 : 0 ≤ (S127.1 30).toInt ∧ (S127.1 30).toInt ≤ 1001 := aw_bd_f hs (hI129).1 (by decide) rfl
                exact ⟨(hI129).1, fr128, Or.inl ⟨_, rfl, hb127, hJ127.2, (show _ ≤ ((S127.1 30)).toInt by omega)⟩⟩
              · skip
                have ck127 : (S69.1 30).toInt + 1 ≤ (S127.1 30).toInt := ck127
                have fr131 := aw_fr_tr fr126 (aw_fr_sub (F := [24, 25, 26, 27, 28, 29, 30, 31]) (A := []) (by decide) (by decide) fc127)
                have hI132 : aw_I s h (aw_sm S127) S127 := ⟨hT127, aw_sm_rf⟩
                show aw_W _ _ _ _ 198 lv114 [.int b127] _ _
                refine aw_e aj_d254 rfl (cw_irb rfl (by omega)) ?_
                have b133 : 0 ≤ (S127.1 30).toInt ∧ (S127.1 30).toInt ≤ 1001 := aw_bd_f hs (hI132).1 (by decide) rfl
                exact ⟨(hI132).1, fr131, Or.inr ⟨_, rfl, hb127, hJ127.2, (show _ + 1 ≤ ((S127.1 30)).toInt by omega), trivial⟩⟩
          · have q115 : (0 : Int) ≠ (0 : Int) := aw_t_eq (a := (0 : Int)) (b := (0 : Int)) hb109 rfl q115
            exfalso
            omega
      · have q108 : x75.toInt < x107.toInt := aw_t_ge (a := x75.toInt) (b := x107.toInt) rfl rfl q108
        refine aw_n aj_d254 rfl rfl ?_
        refine aw_t0 (j := 7) aj_d254 rfl (by decide) rfl ?_
        obtain ⟨lv134, elv134⟩ : ∃ l, l = aj_set1 lv70 7 (.int (Int32.ofInt 0)) := ⟨_, rfl⟩
        rw [← elv134]
        have hlv134_0 : aj_lv lv134 0 = some (.ref 117) := cw_e1 elv134 hlv70_0 (by decide) (Or.inl (by decide))
        have hlv134_1 : aj_lv lv134 1 = some (.int x71) := cw_e1 elv134 hlv70_1 (by decide) (Or.inl (by decide))
        have hlv134_3 : aj_lv lv134 3 = some (.int x72) := cw_e1 elv134 hlv70_3 (by decide) (Or.inl (by decide))
        have hlv134_4 : aj_lv lv134 4 = some (.int x73) := cw_e1 elv134 hlv70_4 (by decide) (Or.inl (by decide))
        have hlv134_5 : aj_lv lv134 5 = some (.int x74) := cw_e1 elv134 hlv70_5 (by decide) (Or.inl (by decide))
        have hlv134_6 : aj_lv lv134 6 = some (.int x75) := cw_e1 elv134 hlv70_6 (by decide) (Or.inr rfl)
        have hlv134_7 : aj_lv lv134 7 = some (.int (Int32.ofInt 0)) := by rw [elv134]; exact ak_set1_eq _ _ _
        show aw_W _ _ _ _ 88 lv134 [] _ _
        have b192 : 0 ≤ (S69.1 52).toInt ∧ (S69.1 52).toInt ≤ 2 := aw_bd_f hs (hI78).1 (by decide) rfl
        exact (ar_tests_L88_134 hU hd N11 S9 x11 ihL11_7 hm11 N67 S69 x71 x72 x73 x74 x75 ihL67_67 hm67) _ S69 lv134 (x71) (x72) (x73) (x74) (x75) ((Int32.ofInt 0)) hlv134_0 hlv134_1 hlv134_3 hlv134_4 hlv134_5 hlv134_6 hlv134_7 ⟨(hI78).1, hI76.2⟩ fr77 (by omega) (by omega) (by omega) (by first | omega | decide) (show _ ≤ ((S69.1 30)).toInt by omega) (ar_mk ⟨fun y z => (ar_un sA67).1 (by have y : ((S69.1 32)).toInt ≠ 0 := y; show (S69.1 32).toInt ≠ 0; omega) z, fun z => (ar_un sA67).2 z⟩) (ar_mk ⟨(fun y z => by have y : ((S69.1 32)).toInt ≠ 0 := y; have z : ((S69.1 52)).toInt = 1 := z; show 0 ≤ ((S69.1 53)).toInt ∧ ((S69.1 53)).toInt ≤ 7; have u := (ar_un sB67).1 (by show (S69.1 32).toInt ≠ 0; omega) (by show ((S69.1 52)).toInt = 1; omega); have u : 0 ≤ ((S69.1 53)).toInt ∧ ((S69.1 53)).toInt ≤ 7 := u; omega), (fun z => by have z : ((S69.1 52)).toInt = 2 := z; show -1 ≤ ((S69.1 53)).toInt ∧ ((S69.1 53)).toInt ≤ 5; have u := (ar_un sB67).2 (by show ((S69.1 52)).toInt = 2; omega); have u : -1 ≤ ((S69.1 53)).toInt ∧ ((S69.1 53)).toInt ≤ 5 := u; omega)⟩) (show ((S69.1 32)).toInt ≠ 0 by omega) (by omega) (show _ ≤ ((S69.1 30)).toInt by omega) (Nat.lt_succ_self _)
theorem ar_tests_L11_7 (hU : aw_U tb s h) (hd : 8 ≤ d + 1)  : ∀ (N : Nat) (S9 : aj_S) (lv10 : aj_V) (x11 : Int32), (aj_lv lv10 0 = some (.ref 117)) → (aj_lv lv10 1 = some (.int x11)) → (aw_I s h (aw_G (nm, fl, la, 0, 0, ht)) S9) → (aw_fr [24, 25, 26, 27, 28, 29, 30, 31, 33, 34, 35, 36, 38, 39, 40, 52, 53, 54] [15, 19] S S9) → (20 ≤ x11.toInt ∧ x11.toInt ≤ 48) → ((S9.1 26).toInt = 3) → (ar_hd ((S9.1 29).toInt ≠ 63)) → ((S.1 30).toInt ≤ (S9.1 30).toInt) → (1001 - (S9.1 30).toInt).toNat < N → aw_W tb h d aj_m254 11 lv10 [] S9 ((ar_QT s h (nm, fl, la, 0, 0, ht) [24, 25, 26, 27, 28, 29, 30, 31, 33, 34, 35, 36, 38, 39, 40, 52, 53, 54] [15, 19] S (fun _ => True))) := by
  have hs : aw_sT s := aw_hy_sT hU.2.2
  intro N11
  induction N11 with
  | zero =>
    intro S9 lv10 x11 hlv10_0 hlv10_1 hI12 fr13 bx11 k11 m11 ck11 hm11
    omega
  | succ N11 ihL11_7 =>
    intro S9 lv10 x11 hlv10_0 hlv10_1 hI12 fr13 bx11 k11 m11 ck11 hm11
    have hI14 : aw_I s h (aw_sm S9) S9 := ⟨hI12.1, aw_sm_rf⟩
    have b15 : 0 ≤ (S9.1 30).toInt ∧ (S9.1 30).toInt ≤ 1001 := aw_bd_f hs (hI14).1 (by decide) rfl
    refine aw_l2 aj_d254 rfl rfl hlv10_0 ?_
    have b16 : 0 ≤ (S9.1 26).toInt ∧ (S9.1 26).toInt ≤ 5 := aw_bd_f hs (hI14).1 (by decide) rfl
    refine aw_k hU.1 aj_d254 rfl rfl [] rfl rfl rfl (Nat.le_of_ble_eq_true rfl) (ar_pass hU (hI14).1 hI12.2 (by omega) (show ((S9.1 26)).toInt ≠ 0 by omega) (fun z => ar_un m11 z.2) (show ((S9.1 26)).toInt = 4 → ((S9.1 29)).toInt = 3 ∨ 6 ≤ ((S9.1 29)).toInt by omega)) ?_
    rintro _ S17 ⟨hT17, fc17, ⟨b17, rfl, hb17, hG17, fd17, hz17⟩ | ⟨b17, rfl, hb17, hG17, ck17, fd17, cj17⟩⟩
    · skip
      have fr18 := aw_fr_tr fr13 (aw_fr_sub (F := [24, 25, 31]) (A := []) (by decide) (by decide) fd17)
      have hI19 : aw_I s h (aw_sm S17) S17 := ⟨hT17, aw_sm_rf⟩
      show aw_W _ _ _ _ 15 lv10 [.int b17] _ _
      refine aw_z (tgt := 26) aj_d254 rfl rfl (fun q20 => ?_) (fun q20 => ?_)
      · have q20 : (0 : Int) = (0 : Int) := aw_t_eq (a := (0 : Int)) (b := (0 : Int)) hb17 rfl q20
        refine aw_n aj_d254 rfl rfl ?_
        refine aw_e aj_d254 rfl rfl ?_
        have c21 : (S17.1 30).toInt = (S9.1 30).toInt := (congrArg Int32.toInt (fd17.1 30 (by decide)).1).trans rfl
        have b22 : 0 ≤ (S17.1 30).toInt ∧ (S17.1 30).toInt ≤ 1001 := aw_bd_f hs (hI19).1 (by decide) rfl
        exact ⟨(hI19).1, fr18, Or.inl ⟨_, rfl, rfl, hG17, (show _ ≤ ((S17.1 30)).toInt by omega)⟩⟩
      · have q20 : (0 : Int) ≠ (0 : Int) := aw_t_eq (a := (0 : Int)) (b := (0 : Int)) hb17 rfl q20
        exfalso
        omega
    · skip
      have cj17 : (S17.1 30).toInt = ((S9.1 30)).toInt + 1 := cj17
      have fr23 := aw_fr_tr fr13 (aw_fr_sub (F := [26, 27, 28, 29, 30]) (A := []) (by decide) (by decide) fd17)
      have hI24 : aw_I s h (aw_sm S17) S17 := ⟨hT17, aw_sm_rf⟩
      show aw_W _ _ _ _ 15 lv10 [.int b17] _ _
      refine aw_z (tgt := 26) aj_d254 rfl rfl (fun q25 => ?_) (fun q25 => ?_)
      · have q25 : (1 : Int) = (0 : Int) := aw_t_eq (a := (1 : Int)) (b := (0 : Int)) hb17 rfl q25
        exfalso
        omega
      · have q25 : (1 : Int) ≠ (0 : Int) := aw_t_eq (a := (1 : Int)) (b := (0 : Int)) hb17 rfl q25
        refine aw_l2 aj_d254 rfl rfl hlv10_0 ?_
        refine aw_l0 aj_d254 rfl rfl hlv10_1 ?_
        have b27 : 0 ≤ (S17.1 30).toInt ∧ (S17.1 30).toInt ≤ 1001 := aw_bd_f hs (hI24).1 (by decide) rfl
        refine aw_k hU.1 aj_d254 rfl rfl [_] rfl rfl rfl (Nat.le_of_ble_eq_true rfl) (ar_side hU (hI24).1 hG17 (by omega) (x := x11) (by omega)) ?_
        rintro _ S26 ⟨hT26, fc26, ⟨b26, rfl, hb26, hG26, ck26⟩ | ⟨b26, rfl, hb26, hG26, ck26, sd26⟩⟩
        · skip
          have ck26 : ((S17.1 30)).toInt ≤ (S26.1 30).toInt := ck26
          have fr28 := aw_fr_tr fr23 (aw_fr_sub (F := [24, 25, 26, 27, 28, 29, 30, 31, 33, 34, 35, 36, 38, 39, 52, 53, 54]) (A := []) (by decide) (by decide) fc26)
          have hI29 : aw_I s h (aw_sm S26) S26 := ⟨hT26, aw_sm_rf⟩
          show aw_W _ _ _ _ 23 lv10 [.int b26] _ _
          refine aw_z (tgt := 28) aj_d254 rfl rfl (fun q30 => ?_) (fun q30 => ?_)
          · have q30 : (0 : Int) ≠ (0 : Int) := aw_t_ne (a := (0 : Int)) (b := (0 : Int)) hb26 rfl q30
            exfalso
            omega
          · have q30 : (0 : Int) = (0 : Int) := aw_t_ne (a := (0 : Int)) (b := (0 : Int)) hb26 rfl q30
            refine aw_n aj_d254 rfl rfl ?_
            refine aw_e aj_d254 rfl rfl ?_
            have b31 : 0 ≤ (S26.1 30).toInt ∧ (S26.1 30).toInt ≤ 1001 := aw_bd_f hs (hI29).1 (by decide) rfl
            exact ⟨(hI29).1, fr28, Or.inl ⟨_, rfl, rfl, hG26, (show _ ≤ ((S26.1 30)).toInt by omega)⟩⟩
        · skip
          have ck26 : ((S17.1 30)).toInt + 1 ≤ (S26.1 30).toInt := ck26
          have fr32 := aw_fr_tr fr23 (aw_fr_sub (F := [24, 25, 26, 27, 28, 29, 30, 31, 33, 34, 35, 36, 38, 39, 52, 53, 54]) (A := []) (by decide) (by decide) fc26)
          have hI33 : aw_I s h (aw_sm S26) S26 := ⟨hT26, aw_sm_rf⟩
          show aw_W _ _ _ _ 23 lv10 [.int b26] _ _
          refine aw_z (tgt := 28) aj_d254 rfl rfl (fun q34 => ?_) (fun q34 => ?_)
          · have q34 : (1 : Int) ≠ (0 : Int) := aw_t_ne (a := (1 : Int)) (b := (0 : Int)) hb26 rfl q34
            have b35 : 0 ≤ (S9.1 32).toInt ∧ (S9.1 32).toInt ≤ 1 := aw_bd_f hs (hI14).1 (by decide) rfl
            have c36 : (S17.1 32).toInt = (S9.1 32).toInt := (congrArg Int32.toInt (fd17.1 32 (by decide)).1).trans rfl
            have b37 : 0 ≤ (S17.1 32).toInt ∧ (S17.1 32).toInt ≤ 1 := aw_bd_f hs (hI24).1 (by decide) rfl
            have c38 : (S26.1 32).toInt = (S9.1 32).toInt := (congrArg Int32.toInt (fc26.1 32 (by decide)).1).trans c36
            have b39 : 0 ≤ (S26.1 32).toInt ∧ (S26.1 32).toInt ≤ 1 := aw_bd_f hs (hI33).1 (by decide) rfl
            have b40 : 0 ≤ (S26.1 52).toInt ∧ (S26.1 52).toInt ≤ 2 := aw_bd_f hs (hI33).1 (by decide) rfl
            have tvA : ar_hd (((S26.1 32).toInt ≠ 0 → (S26.1 52).toInt = 1 → 0 ≤ (S26.1 53).toInt ∧ (S26.1 53).toInt ≤ 7) ∧ ((S26.1 52).toInt = 2 → -1 ≤ (S26.1 53).toInt ∧ (S26.1 53).toInt ≤ 5)) := ar_mk sd26
            refine aw_l2 aj_d254 rfl rfl hlv10_0 ?_
            refine aw_g hU.1 aj_d254 rfl rfl (by decide) (v := .int (S26.1 52)) rfl ?_
            refine aw_t0 (j := 3) aj_d254 rfl (by decide) rfl ?_
            obtain ⟨lv41, elv41⟩ : ∃ l, l = aj_set1 lv10 3 (.int (S26.1 52)) := ⟨_, rfl⟩
            rw [← elv41]
            have hlv41_0 : aj_lv lv41 0 = some (.ref 117) := cw_e1 elv41 hlv10_0 (by decide) (Or.inl (by decide))
            have hlv41_1 : aj_lv lv41 1 = some (.int x11) := cw_e1 elv41 hlv10_1 (by decide) (Or.inl (by decide))
            have hlv41_3 : aj_lv lv41 3 = some (.int (S26.1 52)) := by rw [elv41]; exact ak_set1_eq _ _ _
            show aw_W _ _ _ _ 33 lv41 [] _ _
            refine aw_l2 aj_d254 rfl rfl hlv41_0 ?_
            refine aw_g hU.1 aj_d254 rfl rfl (by decide) (v := .int (S26.1 53)) rfl ?_
            refine aw_t0 (j := 4) aj_d254 rfl (by decide) rfl ?_
            obtain ⟨lv42, elv42⟩ : ∃ l, l = aj_set1 lv41 4 (.int (S26.1 53)) := ⟨_, rfl⟩
            rw [← elv42]
            have hlv42_0 : aj_lv lv42 0 = some (.ref 117) := cw_e1 elv42 hlv41_0 (by decide) (Or.inl (by decide))
            have hlv42_1 : aj_lv lv42 1 = some (.int x11) := cw_e1 elv42 hlv41_1 (by decide) (Or.inl (by decide))
            have hlv42_3 : aj_lv lv42 3 = some (.int (S26.1 52)) := cw_e1 elv42 hlv41_3 (by decide) (Or.inr rfl)
            have hlv42_4 : aj_lv lv42 4 = some (.int (S26.1 53)) := by rw [elv42]; exact ak_set1_eq _ _ _
            show aw_W _ _ _ _ 39 lv42 [] _ _
            refine aw_l2 aj_d254 rfl rfl hlv42_0 ?_
            have b44 : 0 ≤ (S26.1 30).toInt ∧ (S26.1 30).toInt ≤ 1001 := aw_bd_f hs (hI33).1 (by decide) rfl
            refine aw_k hU.1 aj_d254 rfl rfl [] rfl rfl rfl (Nat.le_of_ble_eq_true rfl) (ar_relation hU (hI33).1 hG26 (by omega)) ?_
            rintro _ S43 ⟨hT43, fc43, ⟨b43, rfl, hb43, hG43, ck43⟩ | ⟨b43, rfl, hb43, hG43, ck43, ex43⟩⟩
            · skip
              have ck43 : ((S26.1 30)).toInt ≤ (S43.1 30).toInt := ck43
              have fr45 := aw_fr_tr fr32 (aw_fr_sub (F := [24, 25, 26, 27, 28, 29, 30, 31, 40]) (A := []) (by decide) (by decide) fc43)
              have hI46 : aw_I s h (aw_sm S43) S43 := ⟨hT43, aw_sm_rf⟩
              show aw_W _ _ _ _ 43 lv42 [.int b43] _ _
              refine aw_z (tgt := 48) aj_d254 rfl rfl (fun q47 => ?_) (fun q47 => ?_)
              · have q47 : (0 : Int) ≠ (0 : Int) := aw_t_ne (a := (0 : Int)) (b := (0 : Int)) hb43 rfl q47
                exfalso
                omega
              · have q47 : (0 : Int) = (0 : Int) := aw_t_ne (a := (0 : Int)) (b := (0 : Int)) hb43 rfl q47
                refine aw_n aj_d254 rfl rfl ?_
                refine aw_e aj_d254 rfl rfl ?_
                have b48 : 0 ≤ (S43.1 30).toInt ∧ (S43.1 30).toInt ≤ 1001 := aw_bd_f hs (hI46).1 (by decide) rfl
                exact ⟨(hI46).1, fr45, Or.inl ⟨_, rfl, rfl, hG43, (show _ ≤ ((S43.1 30)).toInt by omega)⟩⟩
            · skip
              have ck43 : ((S26.1 30)).toInt + 1 ≤ (S43.1 30).toInt := ck43
              have fr49 := aw_fr_tr fr32 (aw_fr_sub (F := [24, 25, 26, 27, 28, 29, 30, 31, 40]) (A := []) (by decide) (by decide) fc43)
              have hI50 : aw_I s h (aw_sm S43) S43 := ⟨hT43, aw_sm_rf⟩
              show aw_W _ _ _ _ 43 lv42 [.int b43] _ _
              refine aw_z (tgt := 48) aj_d254 rfl rfl (fun q51 => ?_) (fun q51 => ?_)
              · have q51 : (1 : Int) ≠ (0 : Int) := aw_t_ne (a := (1 : Int)) (b := (0 : Int)) hb43 rfl q51
                refine aw_l2 aj_d254 rfl rfl hlv42_0 ?_
                refine aw_g hU.1 aj_d254 rfl rfl (by decide) (v := .int (S43.1 40)) rfl ?_
                refine aw_t0 (j := 5) aj_d254 rfl (by decide) rfl ?_
                obtain ⟨lv52, elv52⟩ : ∃ l, l = aj_set1 lv42 5 (.int (S43.1 40)) := ⟨_, rfl⟩
                rw [← elv52]
                have hlv52_0 : aj_lv lv52 0 = some (.ref 117) := cw_e1 elv52 hlv42_0 (by decide) (Or.inl (by decide))
                have hlv52_1 : aj_lv lv52 1 = some (.int x11) := cw_e1 elv52 hlv42_1 (by decide) (Or.inl (by decide))
                have hlv52_3 : aj_lv lv52 3 = some (.int (S26.1 52)) := cw_e1 elv52 hlv42_3 (by decide) (Or.inl (by decide))
                have hlv52_4 : aj_lv lv52 4 = some (.int (S26.1 53)) := cw_e1 elv52 hlv42_4 (by decide) (Or.inr rfl)
                have hlv52_5 : aj_lv lv52 5 = some (.int (S43.1 40)) := by rw [elv52]; exact ak_set1_eq _ _ _
                show aw_W _ _ _ _ 54 lv52 [] _ _
                refine aw_l2 aj_d254 rfl rfl hlv52_0 ?_
                refine aw_l0 aj_d254 rfl rfl hlv52_1 ?_
                have b54 : 0 ≤ (S43.1 30).toInt ∧ (S43.1 30).toInt ≤ 1001 := aw_bd_f hs (hI50).1 (by decide) rfl
                refine aw_k hU.1 aj_d254 rfl rfl [_] rfl rfl rfl (Nat.le_of_ble_eq_true rfl) (ar_side hU (hI50).1 hG43 (by omega) (x := x11) (by omega)) ?_
                rintro _ S53 ⟨hT53, fc53, ⟨b53, rfl, hb53, hG53, ck53⟩ | ⟨b53, rfl, hb53, hG53, ck53, sd53⟩⟩
                · skip
                  have ck53 : ((S43.1 30)).toInt ≤ (S53.1 30).toInt := ck53
                  have fr55 := aw_fr_tr fr49 (aw_fr_sub (F := [24, 25, 26, 27, 28, 29, 30, 31, 33, 34, 35, 36, 38, 39, 52, 53, 54]) (A := []) (by decide) (by decide) fc53)
                  have hI56 : aw_I s h (aw_sm S53) S53 := ⟨hT53, aw_sm_rf⟩
                  show aw_W _ _ _ _ 59 lv52 [.int b53] _ _
                  refine aw_z (tgt := 64) aj_d254 rfl rfl (fun q57 => ?_) (fun q57 => ?_)
                  · have q57 : (0 : Int) ≠ (0 : Int) := aw_t_ne (a := (0 : Int)) (b := (0 : Int)) hb53 rfl q57
                    exfalso
                    omega
                  · have q57 : (0 : Int) = (0 : Int) := aw_t_ne (a := (0 : Int)) (b := (0 : Int)) hb53 rfl q57
                    refine aw_n aj_d254 rfl rfl ?_
                    refine aw_e aj_d254 rfl rfl ?_
                    have b58 : 0 ≤ (S53.1 30).toInt ∧ (S53.1 30).toInt ≤ 1001 := aw_bd_f hs (hI56).1 (by decide) rfl
                    exact ⟨(hI56).1, fr55, Or.inl ⟨_, rfl, rfl, hG53, (show _ ≤ ((S53.1 30)).toInt by omega)⟩⟩
                · skip
                  have ck53 : ((S43.1 30)).toInt + 1 ≤ (S53.1 30).toInt := ck53
                  have fr59 := aw_fr_tr fr49 (aw_fr_sub (F := [24, 25, 26, 27, 28, 29, 30, 31, 33, 34, 35, 36, 38, 39, 52, 53, 54]) (A := []) (by decide) (by decide) fc53)
                  have hI60 : aw_I s h (aw_sm S53) S53 := ⟨hT53, aw_sm_rf⟩
                  show aw_W _ _ _ _ 59 lv52 [.int b53] _ _
                  refine aw_z (tgt := 64) aj_d254 rfl rfl (fun q61 => ?_) (fun q61 => ?_)
                  · have q61 : (1 : Int) ≠ (0 : Int) := aw_t_ne (a := (1 : Int)) (b := (0 : Int)) hb53 rfl q61
                    have c62 : (S43.1 32).toInt = (S9.1 32).toInt := (congrArg Int32.toInt (fc43.1 32 (by decide)).1).trans c38
                    have b63 : 0 ≤ (S43.1 32).toInt ∧ (S43.1 32).toInt ≤ 1 := aw_bd_f hs (hI50).1 (by decide) rfl
                    have c64 : (S53.1 32).toInt = (S9.1 32).toInt := (congrArg Int32.toInt (fc53.1 32 (by decide)).1).trans c62
                    have b65 : 0 ≤ (S53.1 32).toInt ∧ (S53.1 32).toInt ≤ 1 := aw_bd_f hs (hI60).1 (by decide) rfl
                    have b66 : 0 ≤ (S53.1 52).toInt ∧ (S53.1 52).toInt ≤ 2 := aw_bd_f hs (hI60).1 (by decide) rfl
                    have tvB : ar_hd (((S53.1 32).toInt ≠ 0 → (S53.1 52).toInt = 1 → 0 ≤ (S53.1 53).toInt ∧ (S53.1 53).toInt ≤ 7) ∧ ((S53.1 52).toInt = 2 → -1 ≤ (S53.1 53).toInt ∧ (S53.1 53).toInt ≤ 5)) := ar_mk sd53
                    refine aw_n aj_d254 rfl rfl ?_
                    refine aw_t0 (j := 6) aj_d254 rfl (by decide) rfl ?_
                    obtain ⟨lv67, elv67⟩ : ∃ l, l = aj_set1 lv52 6 (.int (Int32.ofInt 0)) := ⟨_, rfl⟩
                    rw [← elv67]
                    have hlv67_0 : aj_lv lv67 0 = some (.ref 117) := cw_e1 elv67 hlv52_0 (by decide) (Or.inl (by decide))
                    have hlv67_1 : aj_lv lv67 1 = some (.int x11) := cw_e1 elv67 hlv52_1 (by decide) (Or.inl (by decide))
                    have hlv67_3 : aj_lv lv67 3 = some (.int (S26.1 52)) := cw_e1 elv67 hlv52_3 (by decide) (Or.inl (by decide))
                    have hlv67_4 : aj_lv lv67 4 = some (.int (S26.1 53)) := cw_e1 elv67 hlv52_4 (by decide) (Or.inl (by decide))
                    have hlv67_5 : aj_lv lv67 5 = some (.int (S43.1 40)) := cw_e1 elv67 hlv52_5 (by decide) (Or.inr rfl)
                    have hlv67_6 : aj_lv lv67 6 = some (.int (Int32.ofInt 0)) := by rw [elv67]; exact ak_set1_eq _ _ _
                    show aw_W _ _ _ _ 67 lv67 [] _ _
                    have b193 : 0 ≤ (S53.1 30).toInt ∧ (S53.1 30).toInt ≤ 1001 := aw_bd_f hs (hI60).1 (by decide) rfl
                    exact (ar_tests_L67_67 hU hd N11 S9 x11 ihL11_7 hm11) _ S53 lv67 (x11) ((S26.1 52)) ((S26.1 53)) ((S43.1 40)) ((Int32.ofInt 0)) hlv67_0 hlv67_1 hlv67_3 hlv67_4 hlv67_5 hlv67_6 ⟨(hI60).1, hG53⟩ fr59 (by omega) (by omega) (by first | omega | decide) (show _ ≤ ((S53.1 30)).toInt by omega) (ar_mk ⟨fun y z => (ar_un tvA).1 (by have y : ((S53.1 32)).toInt ≠ 0 := y; show (S26.1 32).toInt ≠ 0; omega) z, fun z => (ar_un tvA).2 z⟩) (ar_mk ⟨(fun y z => by have y : ((S53.1 32)).toInt ≠ 0 := y; have z : ((S53.1 52)).toInt = 1 := z; show 0 ≤ ((S53.1 53)).toInt ∧ ((S53.1 53)).toInt ≤ 7; have u := (ar_un tvB).1 (by show (S53.1 32).toInt ≠ 0; omega) (by show ((S53.1 52)).toInt = 1; omega); have u : 0 ≤ ((S53.1 53)).toInt ∧ ((S53.1 53)).toInt ≤ 7 := u; omega), (fun z => by have z : ((S53.1 52)).toInt = 2 := z; show -1 ≤ ((S53.1 53)).toInt ∧ ((S53.1 53)).toInt ≤ 5; have u := (ar_un tvB).2 (by show ((S53.1 52)).toInt = 2; omega); have u : -1 ≤ ((S53.1 53)).toInt ∧ ((S53.1 53)).toInt ≤ 5 := u; omega)⟩) (show _ ≤ ((S53.1 30)).toInt by omega) (Nat.lt_succ_self _)
                  · have q61 : (1 : Int) = (0 : Int) := aw_t_ne (a := (1 : Int)) (b := (0 : Int)) hb53 rfl q61
                    exfalso
                    omega
              · have q51 : (1 : Int) = (0 : Int) := aw_t_ne (a := (1 : Int)) (b := (0 : Int)) hb43 rfl q51
                exfalso
                omega
          · have q34 : (1 : Int) = (0 : Int) := aw_t_ne (a := (1 : Int)) (b := (0 : Int)) hb26 rfl q34
            exfalso
            omega
theorem ar_tests (hU : aw_U tb s h) (hT : ak_Ty ak_TN s (aj_mh h S)) (hG : aw_G (nm, fl, la, 0, 0, ht) S) (hd : 8 ≤ d) {x : Int32} (hx : 20 ≤ x.toInt ∧ x.toInt ≤ 48) (hk : (S.1 26).toInt = 3 ∧ (S.1 29).toInt ≠ 63) : aw_K tb h d 254 [.ref 117, .int x] S (ar_QT s h (nm, fl, la, 0, 0, ht) [24, 25, 26, 27, 28, 29, 30, 31, 33, 34, 35, 36, 38, 39, 40, 52, 53, 54] [15, 19] S (fun _ => True)) := by
  obtain ⟨d, rfl⟩ : ∃ e, d = e + 1 := ⟨d - 1, by omega⟩
  have hs : aw_sT s := aw_hy_sT hU.2.2
  refine aw_m aj_m254_at rfl (Nat.le_of_ble_eq_true rfl) ?_
  show aw_W _ _ _ _ 0 [(0, .ref 117), (1, .int x)] [] _ _
  obtain ⟨lv1, elv1⟩ : ∃ l : aj_V, l = [(0, .ref 117), (1, .int x)] := ⟨_, rfl⟩
  rw [← elv1]
  have hlv1_0 : aj_lv lv1 0 = some (.ref 117) := by rw [elv1]; rfl
  have hlv1_1 : aj_lv lv1 1 = some (.int x) := by rw [elv1]; rfl
  have hI2 : aw_I s h (aw_sm S) S := ⟨hT, aw_sm_rf⟩
  have fr3 : aw_fr [24, 25, 26, 27, 28, 29, 30, 31, 33, 34, 35, 36, 38, 39, 40, 52, 53, 54] [15, 19] S S := aw_fr_rf
  refine aw_l2 aj_d254 rfl rfl hlv1_0 ?_
  refine aw_n aj_d254 rfl rfl ?_
  refine aw_p hU.1 aj_d254 rfl rfl (by decide) rfl ?_
  have hI4 := aw_I_f (aw_UV hU aw_Gs_sm) (k := 54) (v := (Int32.ofInt 0)) hI2 (by decide) (by decide) rfl (aw_bp (a := (0 : Int)) rfl (by omega) (by omega))
  have fr5 := aw_fr_f (k := 54) (v := (Int32.ofInt 0)) (by decide) fr3
  refine aw_n aj_d254 rfl rfl ?_
  refine aw_t0 (j := 2) aj_d254 rfl (by decide) rfl ?_
  obtain ⟨lv6, elv6⟩ : ∃ l, l = aj_set1 lv1 2 (.int (Int32.ofInt 1)) := ⟨_, rfl⟩
  rw [← elv6]
  have hlv6_0 : aj_lv lv6 0 = some (.ref 117) := cw_e1 elv6 hlv1_0 (by decide) (Or.inl (by decide))
  have hlv6_1 : aj_lv lv6 1 = some (.int x) := cw_e1 elv6 hlv1_1 (by decide) (Or.inr rfl)
  have hlv6_2 : aj_lv lv6 2 = some (.int (Int32.ofInt 1)) := by rw [elv6]; exact ak_set1_eq _ _ _
  show aw_W _ _ _ _ 7 lv6 [] _ _
  refine aw_l0 aj_d254 rfl rfl hlv6_2 ?_
  refine aw_z (tgt := 178) aj_d254 rfl rfl (fun q7 => ?_) (fun q7 => ?_)
  · have q7 : (1 : Int) = (0 : Int) := aw_t_eq (a := (1 : Int)) (b := (0 : Int)) rfl rfl q7
    exfalso
    omega
  · have q7 : (1 : Int) ≠ (0 : Int) := aw_t_eq (a := (1 : Int)) (b := (0 : Int)) rfl rfl q7
    have b194 : 0 ≤ (S.1 26).toInt ∧ (S.1 26).toInt ≤ 5 := aw_bd_f hs (hI2).1 (by decide) rfl
    have b195 : 0 ≤ (S.1 30).toInt ∧ (S.1 30).toInt ≤ 1001 := aw_bd_f hs (hI2).1 (by decide) rfl
    exact (ar_tests_L11_7 hU hd ) _ (aw_wf S 54 (Int32.ofInt 0)) lv6 (x) hlv6_0 hlv6_1 ⟨(hI4).1, (aw_G_sm hI4.2 hG)⟩ fr5 (by omega) (show ((S.1 26)).toInt = 3 by omega) (ar_mk (show ((S.1 29)).toInt ≠ 63 by first | omega | exact hk.2)) (show _ ≤ ((S.1 30)).toInt by omega) (Nat.lt_succ_self _)
theorem ar_told (hU : aw_U tb s h) (hT : ak_Ty ak_TN s (aj_mh h S)) (hG : aw_G g S) (hd : 2 ≤ d) {x : Int32} (hx : 0 ≤ x.toInt ∧ x.toInt ≤ 49) : aw_K tb h d 256 [.ref 117, .int x] S (ar_QI s h [24, 25] [] S (fun b S' => aw_G g S' ∧ ((0 ≤ b ∧ b < (S.2.2.1 15 (x.toInt).toNat).toInt) ∨ b = -1) ∧ -1 ≤ b ∧ b ≤ 5)) := by
  obtain ⟨d, rfl⟩ : ∃ e, d = e + 1 := ⟨d - 1, by omega⟩
  have hs : aw_sT s := aw_hy_sT hU.2.2
  refine aw_m aj_m256_at rfl (Nat.le_of_ble_eq_true rfl) ?_
  show aw_W _ _ _ _ 0 [(0, .ref 117), (1, .int x)] [] _ _
  obtain ⟨lv196, elv196⟩ : ∃ l : aj_V, l = [(0, .ref 117), (1, .int x)] := ⟨_, rfl⟩
  rw [← elv196]
  have hlv196_0 : aj_lv lv196 0 = some (.ref 117) := by rw [elv196]; rfl
  have hlv196_1 : aj_lv lv196 1 = some (.int x) := by rw [elv196]; rfl
  have hI197 : aw_I s h (aw_sm S) S := ⟨hT, aw_sm_rf⟩
  have fr198 : aw_fr [24, 25] [] S S := aw_fr_rf
  refine aw_l2 aj_d256 rfl rfl hlv196_0 ?_
  refine aw_g hU.1 aj_d256 rfl rfl (by decide) (v := .ref 132) rfl ?_
  have bc := aw_bd_a hs hT (k := 15) (j := (x.toInt).toNat) (by decide) (by decide) rfl (by decide) rfl (by omega)
  refine aw_l0 aj_d256 rfl rfl hlv196_1 ?_
  refine aw_ld (k := 15) hU.1 aj_d256 (Or.inl ⟨rfl, rfl⟩) rfl (by decide) (by decide) rfl (a := x.toInt) rfl (by omega) (by omega) (fun x199 ex199 => ?_)
  have bx199 : (-1) ≤ x199.toInt ∧ x199.toInt ≤ 6 := by
    rw [ex199]
    exact aw_bd_a hs (hI197).1 (k := 15) (by decide) (by decide) rfl (by decide) rfl (by omega)
  refine aw_z (tgt := 11) aj_d256 rfl rfl (fun q200 => ?_) (fun q200 => ?_)
  · have q200 : x199.toInt ≥ (0 : Int) := aw_t_ge (a := x199.toInt) (b := (0 : Int)) rfl rfl q200
    refine aw_l2 aj_d256 rfl rfl hlv196_0 ?_
    refine aw_l0 aj_d256 rfl rfl hlv196_1 ?_
    refine aw_l2 aj_d256 rfl rfl hlv196_0 ?_
    refine aw_g hU.1 aj_d256 rfl rfl (by decide) (v := .long (S.2.1 33)) rfl ?_
    refine aw_k hU.1 aj_d256 rfl rfl [_, _] rfl rfl rfl (Nat.le_of_ble_eq_true rfl) (aw_columnOfK (aw_UV hU aw_Gs_sm) hI197 (by omega) (t := (x.toInt).toNat) (by omega) (by omega)) ?_
    rintro _ zb201 ⟨b201, rfl, fb201, hfb201⟩
    rw [fb201]
    have hbb201 : (0 ≤ b201.toInt ∧ b201.toInt < (S.2.2.1 15 (x.toInt).toNat).toInt) ∨ b201.toInt = -1 := by
      rcases hfb201 with ⟨i, y1, y2, -⟩ | ⟨y1, -⟩
      · have y2 : (i : Int) < (S.2.2.1 15 (x.toInt).toNat).toInt := y2
        omega
      · exact Or.inr y1
    show aw_W _ _ _ _ 20 lv196 [.int b201] _ _
    refine aw_t0 (j := 2) aj_d256 rfl (by decide) rfl ?_
    obtain ⟨lv202, elv202⟩ : ∃ l, l = aj_set1 lv196 2 (.int b201) := ⟨_, rfl⟩
    rw [← elv202]
    have hlv202_0 : aj_lv lv202 0 = some (.ref 117) := cw_e1 elv202 hlv196_0 (by decide) (Or.inl (by decide))
    have hlv202_2 : aj_lv lv202 2 = some (.int b201) := by rw [elv202]; exact ak_set1_eq _ _ _
    show aw_W _ _ _ _ 21 lv202 [] _ _
    refine aw_l0 aj_d256 rfl rfl hlv202_2 ?_
    refine aw_z (tgt := 34) aj_d256 rfl rfl (fun q203 => ?_) (fun q203 => ?_)
    · have q203 : b201.toInt ≥ (0 : Int) := aw_t_ge (a := b201.toInt) (b := (0 : Int)) rfl rfl q203
      refine aw_l0 aj_d256 rfl rfl hlv202_2 ?_
      refine aw_e aj_d256 rfl rfl ?_
      exact ⟨(hI197).1, fr198, _, rfl, hG, hbb201, by first | omega | (constructor <;> decide)⟩
    · have q203 : b201.toInt < (0 : Int) := aw_t_ge (a := b201.toInt) (b := (0 : Int)) rfl rfl q203
      refine aw_l2 aj_d256 rfl rfl hlv202_0 ?_
      refine aw_n aj_d256 rfl rfl ?_
      refine aw_l2 aj_d256 rfl rfl hlv202_0 ?_
      refine aw_g hU.1 aj_d256 rfl rfl (by decide) (v := .int (S.1 34)) rfl ?_
      refine aw_k hU.1 aj_d256 rfl rfl [_, _] rfl rfl rfl (Nat.le_of_ble_eq_true rfl) (ar_tell hU (hI197).1 (by omega) (a := (4 : Int)) rfl (by omega)) ?_
      rintro _ S204 ⟨hT204, fc204, rfl, hz204, hw204⟩
      have hG204 := aw_G_tell hG fc204 hz204
      have b205 : 0 ≤ (S.1 32).toInt ∧ (S.1 32).toInt ≤ 1 := aw_bd_f hs (hI197).1 (by decide) rfl
      have hz204 : ((S.1 32)).toInt = 0 → (S204.1 24).toInt ≠ 0 := hz204
      have fr206 := aw_fr_tr fr198 (aw_fr_sub (F := [24, 25]) (A := []) (by decide) (by decide) fc204)
      have hI207 : aw_I s h (aw_sm S204) S204 := ⟨hT204, aw_sm_rf⟩
      show aw_W _ _ _ _ 34 lv202 [] _ _
      refine aw_l0 aj_d256 rfl rfl hlv202_2 ?_
      refine aw_e aj_d256 rfl rfl ?_
      exact ⟨(hI207).1, fr206, _, rfl, hG204, hbb201, by first | omega | (constructor <;> decide)⟩
  · have q200 : x199.toInt < (0 : Int) := aw_t_ge (a := x199.toInt) (b := (0 : Int)) rfl rfl q200
    refine aw_n aj_d256 rfl rfl ?_
    refine aw_e aj_d256 rfl rfl ?_
    exact ⟨(hI197).1, fr198, _, rfl, hG, Or.inr rfl, by first | omega | (constructor <;> decide)⟩
end ARA8
