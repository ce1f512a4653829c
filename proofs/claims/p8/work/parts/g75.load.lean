/-! ROWS TOLD, BY HAND (printed by wip/p2/cwalk/g75.py) -/
section CW75
variable {Φ : List Nat → Option Value → aj_H → Prop} {tb : aj_T} {s : List Nat} {h h' h0 : aj_H} {d : Nat} {i j p x : Nat} {b b' b2 : Int} {o o' o2 : cw_O} {v w : Int32}
theorem cw_sr_l {d : Nat} (hd : 1 ≤ d) (htb : ak_tbOK ak_CW tb) (hB : cw_B s) (qi : s[i]? = some 58) {y : Int32} (hy : 1 ≤ y.toInt ∧ y.toInt ≤ 20000000) : ∀ (n : Nat) {h : aj_H} {lv : aj_V} {kc ks : Nat} {x2 : Int32} (hT : ak_Ty ak_CW s h) (ho : cw_o h = cw_o h0) (fi : cw_F h i 6 4 (.int y)) (hl0 : aj_lv lv 0 = some (.ref (52 + 43))) (hl1 : aj_lv lv 1 = some (.ref (52 + i))) (hl2 : aj_lv lv 2 = some (.int x2)) (h2 : 0 ≤ x2.toInt) (hn : 1024 - x2.toInt ≤ n), cw_W ak_CW (fun s' r h' => s' = s ∧ r = none ∧ cw_o h' = cw_o h0) tb d aj_m144 (cw_nW 144 none) s h kc ks 17 lv [] := by
  intro n
  induction n with
  | zero =>
    intro h lv kc ks x2 hT ho fi hl0 hl1 hl2 h2 hn
    refine cw_l0 aj_d144 rfl rfl hl2 ?_
    refine cw_l2 aj_d144 rfl rfl hl0 ?_
    obtain ⟨v1001, f1001, g1001⟩ := cw_tyF (i := 43) (t := 61) (c := 9) (k := 7) (y := (.inr (some ([59], false)))) hT (cw_s0 hB rfl) rfl rfl rfl
    obtain ⟨i1001, rfl, q1001⟩ := cw_gr g1001 (by decide)
    refine cw_g (i := 43) (v := .ref (52 + i1001)) htb.1 aj_d144 rfl rfl (by decide) f1001 ?_
    obtain ⟨v1002, f1002, g1002⟩ := cw_tyF (i := i1001) (t := 59) (c := 7) (k := 13) (y := (.inl (0, 1024))) hT q1001 rfl rfl rfl
    obtain ⟨x1002, rfl, b1002⟩ := ak_gi g1002
    dsimp only [ak_win] at b1002
    refine cw_g (i := i1001) (v := .int x1002) htb.1 aj_d144 rfl rfl (by decide) f1002 ?_
    refine cw_c (tgt := 45) aj_d144 rfl rfl (fun q1003 => ?_) (fun q1003 => ?_)
    · have q1003 : x2.toInt ≥ x1002.toInt := aw_t_ge (a := x2.toInt) (b := x1002.toInt) rfl rfl q1003
      refine cw_Wr aj_d144 rfl rfl hT ?_ ?_
      · exact ⟨rfl, rfl, ho⟩
      · trivial
    · have q1003 : x2.toInt < x1002.toInt := aw_t_ge (a := x2.toInt) (b := x1002.toInt) rfl rfl q1003
      exfalso
      omega
  | succ n ih =>
    intro h lv kc ks x2 hT ho fi hl0 hl1 hl2 h2 hn
    refine cw_l0 aj_d144 rfl rfl hl2 ?_
    refine cw_l2 aj_d144 rfl rfl hl0 ?_
    obtain ⟨v1004, f1004, g1004⟩ := cw_tyF (i := 43) (t := 61) (c := 9) (k := 7) (y := (.inr (some ([59], false)))) hT (cw_s0 hB rfl) rfl rfl rfl
    obtain ⟨i1004, rfl, q1004⟩ := cw_gr g1004 (by decide)
    refine cw_g (i := 43) (v := .ref (52 + i1004)) htb.1 aj_d144 rfl rfl (by decide) f1004 ?_
    obtain ⟨v1005, f1005, g1005⟩ := cw_tyF (i := i1004) (t := 59) (c := 7) (k := 13) (y := (.inl (0, 1024))) hT q1004 rfl rfl rfl
    obtain ⟨x1005, rfl, b1005⟩ := ak_gi g1005
    dsimp only [ak_win] at b1005
    refine cw_g (i := i1004) (v := .int x1005) htb.1 aj_d144 rfl rfl (by decide) f1005 ?_
    refine cw_c (tgt := 45) aj_d144 rfl rfl (fun q1006 => ?_) (fun q1006 => ?_)
    · have q1006 : x2.toInt ≥ x1005.toInt := aw_t_ge (a := x2.toInt) (b := x1005.toInt) rfl rfl q1006
      refine cw_Wr aj_d144 rfl rfl hT ?_ ?_
      · exact ⟨rfl, rfl, ho⟩
      · trivial
    · have q1006 : x2.toInt < x1005.toInt := aw_t_ge (a := x2.toInt) (b := x1005.toInt) rfl rfl q1006
      refine cw_l2 aj_d144 rfl rfl hl1 ?_
      refine cw_l2 aj_d144 rfl rfl hl1 ?_
      refine cw_g (i := i) (v := .int y) htb.1 aj_d144 rfl rfl (by decide) fi ?_
      refine cw_n aj_d144 rfl rfl ?_
      refine cw_sub aj_d144 rfl (a := y.toInt) (b := (1 : Int)) rfl rfl (by omega) (by omega) (fun x1007 ex1007 => ?_)
      refine cw_l0 aj_d144 rfl rfl hl2 ?_
      refine cw_k0 (i := i) (t := 58) (con' := ap_c109) aj_d144 htb hT rfl rfl [_, _] rfl rfl qi rfl (Nat.le_of_ble_eq_true rfl) ⟨by decide, by decide⟩ (cw_a1 (by omega) (ap_W_109 htb (cw_SP1c _ _ rfl rfl) cw_hK) hT hB rfl ⟨(cw_gR qi (by decide) (by decide)), (cw_gw (a := x1007.toInt) rfl (by omega) (by omega)), (cw_gw (a := x2.toInt) rfl (by omega) (by omega)), trivial⟩) ?_
      rintro ru1008 h1008 hT1008 ho1008 hRu1008
      have f1009 : cw_F h1008 i 6 4 (.int y) := cw_trF ho1008 (by decide) fi
      have f1010 : cw_F h1008 43 9 7 (.ref (52 + i1004)) := cw_trF ho1008 (by decide) f1004
      obtain rfl := cw_rN hRu1008
      show cw_W _ _ _ _ _ _ _ _ _ _ 39 lv []
      refine cw_inc aj_d144 rfl hl2 (a := x2.toInt) rfl (by omega) (by omega) (by decide) (by decide) (fun x1011 ex1011 => ?_)
      obtain ⟨lv1012, elv1012⟩ : ∃ l, l = aj_set1 lv 2 (.int x1011) := ⟨_, rfl⟩
      rw [← elv1012]
      have hlv1012_0 : aj_lv lv1012 0 = some (.ref (52 + 43)) := cw_e1 elv1012 hl0 (by decide) (Or.inl (by decide))
      have hlv1012_1 : aj_lv lv1012 1 = some (.ref (52 + i)) := cw_e1 elv1012 hl1 (by decide) (Or.inr rfl)
      have hlv1012_2 : aj_lv lv1012 2 = some (.int x1011) := by rw [elv1012]; exact ak_set1_eq _ _ _
      show cw_W _ _ _ _ _ _ _ _ _ _ 42 lv1012 []
      refine cw_n aj_d144 rfl rfl ?_
      exact ih hT1008 (ho1008.trans ho) f1009 hlv1012_0 hlv1012_1 hlv1012_2 (by omega) (by omega)
/-- a row more, in all worlds -/
theorem cw_startRow (htb : ak_tbOK ak_CW tb) (hT : ak_Ty ak_CW s h) (hI : cw_I cw_XB s h) (hd : 2 ≤ d) (qi : s[i]? = some 58) (fi : cw_F h i 6 4 (.int v)) (hv : 0 ≤ v.toInt ∧ v.toInt ≤ 19999999) : cw_K ak_CW (fun s' r h' => s' = s ∧ r = none ∧ cw_I cw_XB s h' ∧ cw_kp (cw_Eh i) cw_E0 (cw_o h) (cw_o h') ∧ ∃ y : Int32, y.toInt = v.toInt + 1 ∧ cw_F h' i 6 4 (.int y)) tb d (cw_nW 144 none) [.ref (52 + 43), .ref (52 + i)] s h := by
  obtain ⟨d, rfl⟩ : ∃ e, d = e + 1 := ⟨d - 1, by omega⟩
  have hB := hI.1
  refine cw_m (con := cw_nW 144 none) aj_m144_at (Nat.le_of_ble_eq_true rfl) ?_
  show cw_W _ _ _ _ _ _ _ _ _ _ 0 [(0, .ref (52 + 43)), (1, .ref (52 + i))] []
  obtain ⟨lv, elv⟩ : ∃ l : aj_V, l = [(0, .ref (52 + 43)), (1, .ref (52 + i))] := ⟨_, rfl⟩
  rw [← elv]
  have hl0 : aj_lv lv 0 = some (.ref (52 + 43)) := by rw [elv]; rfl
  have hl1 : aj_lv lv 1 = some (.ref (52 + i)) := by rw [elv]; rfl
  refine cw_l2 aj_d144 rfl rfl hl1 ?_
  refine cw_n aj_d144 rfl rfl ?_
  refine cw_l2 aj_d144 rfl rfl hl1 ?_
  refine cw_n aj_d144 rfl rfl ?_
  refine cw_g (i := i) (v := .int v) htb.1 aj_d144 rfl rfl (by decide) fi ?_
  refine cw_n aj_d144 rfl rfl ?_
  refine cw_add aj_d144 rfl (a := v.toInt) (b := (1 : Int)) rfl rfl (by omega) (by omega) (fun x1013 ex1013 => ?_)
  refine cw_p1 (kind := 1) (by decide) (i := i) (t := 58) (c := 6) (k := 4) (v := .int x1013) (y := (.inl (0, 20000000))) htb aj_d144 rfl rfl hT qi rfl rfl rfl (cw_gw (a := x1013.toInt) rfl (by omega) (by omega)) (by decide) rfl rfl (fun hT1014 => ?_)
  have f1015 : cw_F (cw_sf h i 4 (.int x1013)) i 6 4 (.int x1013) := cw_sf_same fi
  refine cw_n aj_d144 rfl rfl ?_
  refine cw_t0 (j := 2) aj_d144 rfl (by decide) rfl ?_
  obtain ⟨lv1016, elv1016⟩ : ∃ l, l = aj_set1 lv 2 (.int (Int32.ofInt 0)) := ⟨_, rfl⟩
  rw [← elv1016]
  have hlv1016_0 : aj_lv lv1016 0 = some (.ref (52 + 43)) := cw_e1 elv1016 hl0 (by decide) (Or.inl (by decide))
  have hlv1016_1 : aj_lv lv1016 1 = some (.ref (52 + i)) := cw_e1 elv1016 hl1 (by decide) (Or.inr rfl)
  have hlv1016_2 : aj_lv lv1016 2 = some (.int (Int32.ofInt 0)) := by rw [elv1016]; exact ak_set1_eq _ _ _
  show cw_W _ _ _ _ _ _ _ _ _ _ 17 lv1016 []
  refine cw_Wmono (fun s' r h' hh => ?_) (cw_sr_l (by omega) htb hB qi (by omega) 1024 hT1014 rfl f1015 hlv1016_0 hlv1016_1 hlv1016_2 (by decide) (by decide))
  obtain ⟨rfl, rfl, ho⟩ := hh
  exact ⟨rfl, rfl, cw_I_eq ho (cw_I_sfX hT hI fi (Or.inr rfl) (by omega)), cw_kp_tr (cw_kp_sf fi ⟨rfl, rfl, rfl⟩) (cw_kp_eq ho), _, ex1013, cw_trF ho (by decide) f1015⟩
theorem cw_startRow0 (htb : ak_tbOK ak_CW tb) (hT : ak_Ty ak_CW s h) (hI : cw_I cw_XB s h) (hd : 1 ≤ d)  : cw_K ak_CW (fun s' r h' => s' = s ∧ h' = h) tb d (cw_nW 144 none) [.ref (52 + 43), .null] s h := by
  obtain ⟨d, rfl⟩ : ∃ e, d = e + 1 := ⟨d - 1, by omega⟩
  have hB := hI.1
  refine cw_m (con := cw_nW 144 none) aj_m144_at (Nat.le_of_ble_eq_true rfl) ?_
  show cw_W _ _ _ _ _ _ _ _ _ _ 0 [(0, .ref (52 + 43)), (1, .null)] []
  refine cw_n aj_d144 rfl rfl ?_
  refine cw_n aj_d144 rfl rfl ?_
  refine cw_Wr aj_d144 rfl rfl hT ?_ ?_
  · exact ⟨rfl, rfl⟩
  · trivial
/-- an answer -/
theorem cw_endA (htb : ak_tbOK ak_CW tb) (hT : ak_Ty ak_CW s h) (hI : cw_I cw_XB s h) (hd : 4 ≤ d) (qi : s[i]? = some 58) (qj : s[j]? = some 58) (hb : 0 ≤ b ∧ b ≤ 19999999) (hok : cw_ok b (cw_o h) j) : cw_K ak_CW (fun s' r h' => s' = s ∧ r = none ∧ cw_I cw_XB s h' ∧ cw_kp cw_E6 cw_E0 (cw_o h) (cw_o h') ∧ cw_sy b b (cw_o h) (cw_o h')) tb d (cw_nW 149 none) [.ref (52 + 43), .ref (52 + i), .ref (52 + j)] s h := by
  obtain ⟨d, rfl⟩ : ∃ e, d = e + 1 := ⟨d - 1, by omega⟩
  have hB := hI.1
  refine cw_m (con := cw_nW 149 none) aj_m149_at (Nat.le_of_ble_eq_true rfl) ?_
  show cw_W _ _ _ _ _ _ _ _ _ _ 0 [(0, .ref (52 + 43)), (1, .ref (52 + i)), (2, .ref (52 + j))] []
  refine cw_n aj_d149 rfl rfl ?_
  refine cw_n aj_d149 rfl rfl ?_
  refine cw_n aj_d149 rfl rfl ?_
  refine cw_n aj_d149 rfl rfl ?_
  refine cw_k0 (i := i) (t := 58) (con' := cw_nW 101 none) aj_d149 htb hT rfl rfl [_] rfl rfl qi rfl (Nat.le_of_ble_eq_true rfl) ⟨by decide, by decide⟩ (cw_copyFrom htb hT hI (by omega) (b := b) qi qj hb hok) ?_
  rintro rc hc hTc ⟨rfl, Ic, kc, okc⟩ hRc
  show cw_W _ _ _ _ _ _ _ _ _ _ 9 [(0, .ref (52 + 43)), (1, .ref (52 + i)), (2, .ref (52 + j))] []
  refine cw_Wr aj_d149 rfl rfl hTc ?_ ?_
  · exact ⟨rfl, rfl, Ic, cw_E6i kc, cw_sy_kp kc okc⟩
  · trivial
theorem cw_endA0 (htb : ak_tbOK ak_CW tb) (hT : ak_Ty ak_CW s h) (hI : cw_I cw_XB s h) (hd : 1 ≤ d)  : cw_K ak_CW (fun s' r h' => s' = s ∧ r = none ∧ cw_I cw_XB s h' ∧ cw_kp cw_E6 cw_E0 (cw_o h) (cw_o h') ∧ cw_sy b b (cw_o h) (cw_o h')) tb d (cw_nW 149 none) [.ref (52 + 43), .null, .ref (52 + j)] s h := by
  obtain ⟨d, rfl⟩ : ∃ e, d = e + 1 := ⟨d - 1, by omega⟩
  have hB := hI.1
  refine cw_m (con := cw_nW 149 none) aj_m149_at (Nat.le_of_ble_eq_true rfl) ?_
  show cw_W _ _ _ _ _ _ _ _ _ _ 0 [(0, .ref (52 + 43)), (1, .null), (2, .ref (52 + j))] []
  refine cw_n aj_d149 rfl rfl ?_
  refine cw_n aj_d149 rfl rfl ?_
  refine cw_Wr aj_d149 rfl rfl hT ?_ ?_
  · exact ⟨rfl, rfl, hI, cw_kp_rf, fun _ q => q⟩
  · trivial
/-- a TABLE becomes a Q -/
theorem cw_load (htb : ak_tbOK ak_CW tb) (hT : ak_Ty ak_CW s h) (hI : cw_I cw_XB s h) (hd : 4 ≤ d) {dp : Int32} (qj : s[j]? = some 58) (hb : 0 ≤ b ∧ b ≤ 19999999) (hok : cw_ok b (cw_o h) j) (hdp : 0 ≤ dp.toInt ∧ dp.toInt ≤ 19) (fd : cw_F h 43 9 4 (.int dp)) : cw_K ak_CW (fun s' r h' => r = none ∧ cw_I cw_XB s' h' ∧ cw_kp (fun a c k => c = 6 ∨ (a = 43 ∧ c = 9 ∧ k = 4)) (fun a => a = 49) (cw_o h) (cw_o h') ∧ (∃ u, s' = s ++ u) ∧ cw_sy b b (cw_o h) (cw_o h') ∧ (∀ l r, cw_sk (cw_o h) l r → cw_sk (cw_o h') l r) ∧ ∃ r, cw_sk (cw_o h') dp.toInt.toNat (52 + r) ∧ cw_ok b (cw_o h') r ∧ ∃ y : Int32, y.toInt = dp.toInt + 1 ∧ cw_F h' 43 9 4 (.int y)) tb d (cw_nW 99 none) [.ref (52 + 43), .ref (52 + j)] s h := by
  obtain ⟨d, rfl⟩ : ∃ e, d = e + 1 := ⟨d - 1, by omega⟩
  have hB := hI.1
  refine cw_m (con := cw_nW 99 none) aj_m99_at (Nat.le_of_ble_eq_true rfl) ?_
  show cw_W _ _ _ _ _ _ _ _ _ _ 0 [(0, .ref (52 + 43)), (1, .ref (52 + j))] []
  refine cw_n aj_d99 rfl rfl ?_
  refine cw_n aj_d99 rfl rfl ?_
  refine cw_n aj_d99 rfl rfl ?_
  refine cw_n aj_d99 rfl rfl ?_
  refine cw_g (i := 43) (v := .int dp) htb.1 aj_d99 rfl rfl (by decide) fd ?_
  refine cw_k (i := 43) (con' := cw_nW 100 (some (.inr (some ([58], false))))) aj_d99 htb hT rfl rfl [_] rfl rfl (cw_cls hT (cw_s0 hB rfl) rfl) (Nat.le_of_ble_eq_true rfl) ⟨by decide, by decide⟩ (cw_rowsN htb hT hI (by omega) (x := dp) (by omega)) ?_
  rintro u ru hu hTu ⟨i, rfl, qi, Iu, ku, sku, -, ski⟩ hRu -
  obtain ⟨s1, es1⟩ : ∃ z, z = s ++ u := ⟨_, rfl⟩
  have qj1 : s1[j]? = some 58 := by rw [es1]; exact cw_sapp qj
  rw [← es1] at hTu qi Iu ⊢
  have hB1 := Iu.1
  have okj1 : cw_ok b (cw_o hu) j := cw_sy_n ku (fun _ _ z => z) j hok
  have fd1 : cw_F hu 43 9 4 (.int dp) := cw_kp_F ku id (by decide) fd
  show cw_W _ _ _ _ _ _ _ _ _ _ 12 [(0, .ref (52 + 43)), (1, .ref (52 + j))] [.ref (52 + i)]
  refine cw_n aj_d99 rfl rfl ?_
  refine cw_k0 (i := i) (t := 58) (con' := cw_nW 101 none) aj_d99 htb hTu rfl rfl [_] rfl rfl qi rfl (Nat.le_of_ble_eq_true rfl) ⟨by decide, by decide⟩ (cw_copyFrom htb hTu Iu (by omega) (b := b) qi qj1 hb okj1) ?_
  rintro rc hc hTc ⟨rfl, Ic, kc, okc⟩ hRc
  show cw_W _ _ _ _ _ _ _ _ _ _ 16 [(0, .ref (52 + 43)), (1, .ref (52 + j))] []
  have fd2 : cw_F hc 43 9 4 (.int dp) := cw_kp_F kc (fun z => absurd z.2 (by decide)) (by decide) fd1
  refine cw_n aj_d99 rfl rfl ?_
  refine cw_n aj_d99 rfl rfl ?_
  refine cw_g (i := 43) (v := .int dp) htb.1 aj_d99 rfl rfl (by decide) fd2 ?_
  refine cw_n aj_d99 rfl rfl ?_
  refine cw_add aj_d99 rfl (a := dp.toInt) (b := (1 : Int)) rfl rfl (by omega) (by omega) (fun x1017 ex1017 => ?_)
  refine cw_p (i := 43) (t := 61) (c := 9) (k := 4) (v := .int x1017) (y := (.inl ((-3000), 3000))) htb aj_d99 rfl rfl hTc (cw_s0 hB1 rfl) rfl rfl rfl (cw_gw (a := x1017.toInt) rfl (by omega) (by omega)) (by decide) rfl rfl (fun hT1018 => ?_)
  have f1019 : cw_F (cw_sf hc 43 4 (.int x1017)) 43 9 4 (.int x1017) := cw_sf_same fd2
  refine cw_Wr aj_d99 rfl rfl hT1018 ?_ ?_
  · have k5 : cw_kp (fun a c k => a = 43 ∧ c = 9 ∧ k = 4) (fun _ => False) (cw_o hc) (cw_o (cw_sf hc 43 4 (.int x1017))) := cw_kp_sf fd2 ⟨rfl, rfl, rfl⟩
    refine ⟨rfl, ⟨Iu.1, cw_wds_kp k5 id Ic.2.1, cw_dis_kp k5 id (by decide) Ic.2.2.1, cw_gd_kp (T := ak_CW) rfl rfl hTc hB1 k5 id ⟨by decide, by decide⟩ Ic.2.2.2.1, cw_H_sfo Ic.2.2.2.2.1 fd2 (by decide), cw_rm_kp k5 (fun _ _ z => z) ⟨by decide, by decide⟩ Ic.2.2.2.2.2⟩, cw_kp_tr (cw_kp_tr (cw_kp_sub ku (fun _ _ _ z => z.elim) (fun _ z => z)) (cw_kp_sub kc (fun _ _ _ z => Or.inl z.2) (fun _ z => z.elim))) (cw_kp_sub k5 (fun _ _ _ z => Or.inr z) (fun _ z => z.elim)), ⟨u, es1⟩, fun a q => cw_sy_n k5 (fun _ _ z => absurd z.2.1 (by decide)) a (cw_sy_kp kc okc a (cw_sy_n ku (fun _ _ z => z) a q)), fun l r q => cw_sk_kp k5 id (cw_sk_kp kc id (sku l r q)), i, cw_sk_kp k5 id (cw_sk_kp kc id ski), cw_sy_n k5 (fun _ _ z => absurd z.2.1 (by decide)) i okc, _, ex1017, f1019⟩
  · trivial
end CW75
