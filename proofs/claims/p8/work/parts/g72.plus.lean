/-! ROWS OF TWO TABLES, BY HAND (printed by wip/p2/cwalk/g72.py) -/
section CW72
variable {T : ak_TT} {Φ : List Nat → Option Value → aj_H → Prop} {tb : aj_T} {mm : aj_M} {con : ak_Con} {s : List Nat} {h h' h0 : aj_H} {kc ks pc : Nat} {lv : aj_V} {st rest : List Value} {ct : List (Nat × Instr × Nat)} {d : Nat} {i j p q k c t : Nat} {b b' b2 : Int} {o o' o2 : cw_O} {v w : Int32}
abbrev cw_E64 : Nat → Nat → Nat → Prop := fun _ c k => c = 6 ∨ (c = 4 ∧ k ≠ 4)
/-- a row of the worker's stack -/
def cw_sk (o : cw_O) (l r : Nat) : Prop := ∃ f3 : Nat → Option Nat, o.2 49 = some (5, 20, cw_q f3) ∧ f3 l = some r
theorem cw_sk_kp {EF : Nat → Nat → Nat → Prop} {EA : Nat → Prop} (hk : cw_kp EF EA o o') (hE : ¬ EA 49) {l r : Nat} (h0 : cw_sk o l r) : cw_sk o' l r := by
  obtain ⟨f, h1, h2⟩ := h0
  exact ⟨f, hk.2 _ _ hE h1, h2⟩
theorem cw_sq (htb : ak_tbOK T tb) (hct : aj_ctOK ct mm.2.1) (hd : aj_ct ct pc = some (.aastore, 1)) {N n1 n2 : Nat} {f : Nat → Option Nat} (hA : cw_A h q 5 N (cw_q f)) (hT : ak_Ty T s h) (hs : s[q]? = some t) (ht : T.1[t]? = some (.inr (5, n1, n2, .inr (some ([58], true))))) (hM : t ∈ con.2.2.2.1.1) {z : Int32} {a : Int} (hz : z.toInt = a) (h0 : 0 ≤ a) (h1 : a < N) (hi : s[i]? = some 58) (ho : ∃ fs, h[i]? = some (.inr (6, fs))) (kk : ak_Ty T s (cw_sa h q (cw_q (va_up f a.toNat (some (52 + i))))) → cw_W T Φ tb d mm con s (cw_sa h q (cw_q (va_up f a.toNat (some (52 + i))))) kc ks (pc + 1) lv rest) : cw_W T Φ tb d mm con s h kc ks pc lv (.ref (52 + i) :: .int z :: .ref (52 + q) :: rest) := by
  obtain ⟨e1, e2⟩ := cw_in (n := N) hz h0 h1
  obtain ⟨fs, ho⟩ := ho
  have e := cw_sa_eq (x' := cw_q (va_up f a.toNat (some (52 + i)))) hA
  obtain ⟨n', x, a1, -, -, a4⟩ := cw_tyA hT hs ht
  obtain ⟨-, rfl, rfl⟩ := cw_A_u a1 hA
  obtain ⟨f', e', pc'⟩ := cw_xq a4
  cases e'
  obtain ⟨g1, -, g3, -⟩ := ak_seta (T := (T.1, T.2.1, [], [])) (SP := fun _ _ => True) (M := con.2.2.2.1) (x' := cw_q (va_up f a.toNat (some (52 + i)))) (cw_Tn htb) hT trivial cw_SPt hA hs ht ⟨rfl, fun l hl => by
    unfold va_up
    split
    · exact cw_gR hi (by decide) (by decide)
    · exact pc' l hl⟩ hM (fun z => by cases z)
  have kk := kk (by rw [e]; exact g1)
  rw [e] at kk
  refine cw_Wn hct hd ?_ g3 kk
  unfold aj_step aj_qst
  try dsimp only
  have hr : ¬ (52 + q < tb.length) := by rw [htb.1]; omega
  have hv : aj_obj tb h (52 + i) = some (6, fs) := by
    unfold aj_obj
    rw [htb.1, if_neg (by omega), Nat.add_sub_cancel_left, ho]
  rw [if_pos rfl, if_neg hr, htb.1, Nat.add_sub_cancel_left, show h[q]? = _ from hA]
  try dsimp only
  rw [hv]
  try dsimp only
  rw [e2]
  exact if_pos ⟨rfl, e1⟩
theorem cw_pl_in {d : Nat} (hd : 1 ≤ d) (htb : ak_tbOK ak_CW tb) (hB : cw_B s) (qi : s[i]? = some 58) (qj : s[j]? = some 58) {x3 x4 x5 : Int32} (h4 : 0 ≤ x4.toInt ∧ x4.toInt ≤ 19999999) (h5 : 0 ≤ x5.toInt ∧ x5.toInt ≤ 19999999) : ∀ (n : Nat) {h : aj_H} {lv : aj_V} {kc ks : Nat} {x6 : Int32} (hT : ak_Ty ak_CW s h) (ho : cw_o h = cw_o h0) (hl0 : aj_lv lv 0 = some (.ref (52 + 43))) (hl1 : aj_lv lv 1 = some (.ref (52 + i))) (hl2 : aj_lv lv 2 = some (.ref (52 + j))) (hl3 : aj_lv lv 3 = some (.int x3)) (hl4 : aj_lv lv 4 = some (.int x4)) (hl5 : aj_lv lv 5 = some (.int x5)) (hl6 : aj_lv lv 6 = some (.int x6)) (h6 : 0 ≤ x6.toInt) (hn : 1024 - x6.toInt ≤ n) (kk : ∀ {h : aj_H} {lv : aj_V} {kc ks : Nat}, ak_Ty ak_CW s h → cw_o h = cw_o h0 → aj_lv lv 0 = some (.ref (52 + 43)) → aj_lv lv 1 = some (.ref (52 + i)) → aj_lv lv 2 = some (.ref (52 + j)) → aj_lv lv 3 = some (.int x3) → aj_lv lv 4 = some (.int x4) → cw_W ak_CW Φ tb d aj_m106 (cw_nW 106 none) s h kc ks 92 lv []), cw_W ak_CW Φ tb d aj_m106 (cw_nW 106 none) s h kc ks 44 lv [] := by
  intro n
  induction n with
  | zero =>
    intro h lv kc ks x6 hT ho hl0 hl1 hl2 hl3 hl4 hl5 hl6 h6 hn kk
    refine cw_l0 aj_d106 rfl rfl hl6 ?_
    refine cw_l2 aj_d106 rfl rfl hl0 ?_
    obtain ⟨v1001, f1001, g1001⟩ := cw_tyF (i := 43) (t := 61) (c := 9) (k := 7) (y := (.inr (some ([59], false)))) hT (cw_s0 hB rfl) rfl rfl rfl
    obtain ⟨i1001, rfl, q1001⟩ := cw_gr g1001 (by decide)
    refine cw_g (i := 43) (v := .ref (52 + i1001)) htb.1 aj_d106 rfl rfl (by decide) f1001 ?_
    obtain ⟨v1002, f1002, g1002⟩ := cw_tyF (i := i1001) (t := 59) (c := 7) (k := 13) (y := (.inl (0, 1024))) hT q1001 rfl rfl rfl
    obtain ⟨x1002, rfl, b1002⟩ := ak_gi g1002
    dsimp only [ak_win] at b1002
    refine cw_g (i := i1001) (v := .int x1002) htb.1 aj_d106 rfl rfl (by decide) f1002 ?_
    refine cw_c (tgt := 92) aj_d106 rfl rfl (fun q1003 => ?_) (fun q1003 => ?_)
    · have q1003 : x6.toInt ≥ x1002.toInt := aw_t_ge (a := x6.toInt) (b := x1002.toInt) rfl rfl q1003
      exact kk hT ho hl0 hl1 hl2 hl3 hl4
    · have q1003 : x6.toInt < x1002.toInt := aw_t_ge (a := x6.toInt) (b := x1002.toInt) rfl rfl q1003
      exfalso
      omega
  | succ n ih =>
    intro h lv kc ks x6 hT ho hl0 hl1 hl2 hl3 hl4 hl5 hl6 h6 hn kk
    refine cw_l0 aj_d106 rfl rfl hl6 ?_
    refine cw_l2 aj_d106 rfl rfl hl0 ?_
    obtain ⟨v1004, f1004, g1004⟩ := cw_tyF (i := 43) (t := 61) (c := 9) (k := 7) (y := (.inr (some ([59], false)))) hT (cw_s0 hB rfl) rfl rfl rfl
    obtain ⟨i1004, rfl, q1004⟩ := cw_gr g1004 (by decide)
    refine cw_g (i := 43) (v := .ref (52 + i1004)) htb.1 aj_d106 rfl rfl (by decide) f1004 ?_
    obtain ⟨v1005, f1005, g1005⟩ := cw_tyF (i := i1004) (t := 59) (c := 7) (k := 13) (y := (.inl (0, 1024))) hT q1004 rfl rfl rfl
    obtain ⟨x1005, rfl, b1005⟩ := ak_gi g1005
    dsimp only [ak_win] at b1005
    refine cw_g (i := i1004) (v := .int x1005) htb.1 aj_d106 rfl rfl (by decide) f1005 ?_
    refine cw_c (tgt := 92) aj_d106 rfl rfl (fun q1006 => ?_) (fun q1006 => ?_)
    · have q1006 : x6.toInt ≥ x1005.toInt := aw_t_ge (a := x6.toInt) (b := x1005.toInt) rfl rfl q1006
      exact kk hT ho hl0 hl1 hl2 hl3 hl4
    · have q1006 : x6.toInt < x1005.toInt := aw_t_ge (a := x6.toInt) (b := x1005.toInt) rfl rfl q1006
      refine cw_l2 aj_d106 rfl rfl hl2 ?_
      refine cw_l0 aj_d106 rfl rfl hl4 ?_
      refine cw_l0 aj_d106 rfl rfl hl6 ?_
      refine cw_k0 (i := j) (t := 58) (con' := ap_c108) aj_d106 htb hT rfl rfl [_, _] rfl rfl qj rfl (Nat.le_of_ble_eq_true rfl) ⟨by decide, by decide⟩ (cw_a1 (by omega) (ap_W_108 htb (cw_SP1c _ _ rfl rfl) cw_hK) hT hB rfl ⟨(cw_gR qj (by decide) (by decide)), (cw_gw (a := x4.toInt) rfl (by omega) (by omega)), (cw_gw (a := x6.toInt) rfl (by omega) (by omega)), trivial⟩) ?_
      rintro ru1007 h1007 hT1007 ho1007 hRu1007
      have f1008 : cw_F h1007 43 9 7 (.ref (52 + i1004)) := cw_trF ho1007 (by decide) f1004
      obtain ⟨x1009, rfl, bx1009⟩ := cw_rI hRu1007
      show cw_W _ _ _ _ _ _ _ _ _ _ 64 lv [.int x1009]
      refine cw_z (tgt := 78) aj_d106 rfl rfl (fun q1010 => ?_) (fun q1010 => ?_)
      · have q1010 : x1009.toInt = (0 : Int) := aw_t_eq (a := x1009.toInt) (b := (0 : Int)) rfl rfl q1010
        refine cw_l2 aj_d106 rfl rfl hl1 ?_
        refine cw_l0 aj_d106 rfl rfl hl5 ?_
        refine cw_l0 aj_d106 rfl rfl hl6 ?_
        refine cw_k0 (i := i) (t := 58) (con' := ap_c110) aj_d106 htb hT1007 rfl rfl [_, _] rfl rfl qi rfl (Nat.le_of_ble_eq_true rfl) ⟨by decide, by decide⟩ (cw_a1 (by omega) (ap_W_110 htb (cw_SP1c _ _ rfl rfl) cw_hK) hT1007 hB rfl ⟨(cw_gR qi (by decide) (by decide)), (cw_gw (a := x5.toInt) rfl (by omega) (by omega)), (cw_gw (a := x6.toInt) rfl (by omega) (by omega)), trivial⟩) ?_
        rintro ru1011 h1011 hT1011 ho1011 hRu1011
        have f1012 : cw_F h1011 43 9 7 (.ref (52 + i1004)) := cw_trF ho1011 (by decide) f1008
        obtain rfl := cw_rN hRu1011
        show cw_W _ _ _ _ _ _ _ _ _ _ 86 lv []
        refine cw_inc aj_d106 rfl hl6 (a := x6.toInt) rfl (by omega) (by omega) (by decide) (by decide) (fun x1013 ex1013 => ?_)
        obtain ⟨lv1014, elv1014⟩ : ∃ l, l = aj_set1 lv 6 (.int x1013) := ⟨_, rfl⟩
        rw [← elv1014]
        have hlv1014_0 : aj_lv lv1014 0 = some (.ref (52 + 43)) := cw_e1 elv1014 hl0 (by decide) (Or.inl (by decide))
        have hlv1014_1 : aj_lv lv1014 1 = some (.ref (52 + i)) := cw_e1 elv1014 hl1 (by decide) (Or.inl (by decide))
        have hlv1014_2 : aj_lv lv1014 2 = some (.ref (52 + j)) := cw_e1 elv1014 hl2 (by decide) (Or.inl (by decide))
        have hlv1014_3 : aj_lv lv1014 3 = some (.int x3) := cw_e1 elv1014 hl3 (by decide) (Or.inl (by decide))
        have hlv1014_4 : aj_lv lv1014 4 = some (.int x4) := cw_e1 elv1014 hl4 (by decide) (Or.inl (by decide))
        have hlv1014_5 : aj_lv lv1014 5 = some (.int x5) := cw_e1 elv1014 hl5 (by decide) (Or.inr rfl)
        have hlv1014_6 : aj_lv lv1014 6 = some (.int x1013) := by rw [elv1014]; exact ak_set1_eq _ _ _
        show cw_W _ _ _ _ _ _ _ _ _ _ 89 lv1014 []
        refine cw_n aj_d106 rfl rfl ?_
        exact ih hT1011 (ho1011.trans (ho1007.trans ho)) hlv1014_0 hlv1014_1 hlv1014_2 hlv1014_3 hlv1014_4 hlv1014_5 hlv1014_6 (by omega) (by omega) kk
      · have q1010 : x1009.toInt ≠ (0 : Int) := aw_t_eq (a := x1009.toInt) (b := (0 : Int)) rfl rfl q1010
        refine cw_l2 aj_d106 rfl rfl hl1 ?_
        refine cw_l0 aj_d106 rfl rfl hl5 ?_
        refine cw_l0 aj_d106 rfl rfl hl6 ?_
        refine cw_k0 (i := i) (t := 58) (con' := ap_c109) aj_d106 htb hT1007 rfl rfl [_, _] rfl rfl qi rfl (Nat.le_of_ble_eq_true rfl) ⟨by decide, by decide⟩ (cw_a1 (by omega) (ap_W_109 htb (cw_SP1c _ _ rfl rfl) cw_hK) hT1007 hB rfl ⟨(cw_gR qi (by decide) (by decide)), (cw_gw (a := x5.toInt) rfl (by omega) (by omega)), (cw_gw (a := x6.toInt) rfl (by omega) (by omega)), trivial⟩) ?_
        rintro ru1015 h1015 hT1015 ho1015 hRu1015
        have f1016 : cw_F h1015 43 9 7 (.ref (52 + i1004)) := cw_trF ho1015 (by decide) f1008
        obtain rfl := cw_rN hRu1015
        show cw_W _ _ _ _ _ _ _ _ _ _ 75 lv []
        refine cw_n aj_d106 rfl rfl ?_
        refine cw_inc aj_d106 rfl hl6 (a := x6.toInt) rfl (by omega) (by omega) (by decide) (by decide) (fun x1017 ex1017 => ?_)
        obtain ⟨lv1018, elv1018⟩ : ∃ l, l = aj_set1 lv 6 (.int x1017) := ⟨_, rfl⟩
        rw [← elv1018]
        have hlv1018_0 : aj_lv lv1018 0 = some (.ref (52 + 43)) := cw_e1 elv1018 hl0 (by decide) (Or.inl (by decide))
        have hlv1018_1 : aj_lv lv1018 1 = some (.ref (52 + i)) := cw_e1 elv1018 hl1 (by decide) (Or.inl (by decide))
        have hlv1018_2 : aj_lv lv1018 2 = some (.ref (52 + j)) := cw_e1 elv1018 hl2 (by decide) (Or.inl (by decide))
        have hlv1018_3 : aj_lv lv1018 3 = some (.int x3) := cw_e1 elv1018 hl3 (by decide) (Or.inl (by decide))
        have hlv1018_4 : aj_lv lv1018 4 = some (.int x4) := cw_e1 elv1018 hl4 (by decide) (Or.inl (by decide))
        have hlv1018_5 : aj_lv lv1018 5 = some (.int x5) := cw_e1 elv1018 hl5 (by decide) (Or.inr rfl)
        have hlv1018_6 : aj_lv lv1018 6 = some (.int x1017) := by rw [elv1018]; exact ak_set1_eq _ _ _
        show cw_W _ _ _ _ _ _ _ _ _ _ 89 lv1018 []
        refine cw_n aj_d106 rfl rfl ?_
        exact ih hT1015 (ho1015.trans (ho1007.trans ho)) hlv1018_0 hlv1018_1 hlv1018_2 hlv1018_3 hlv1018_4 hlv1018_5 hlv1018_6 (by omega) (by omega) kk
theorem cw_pl_out {d : Nat} (hd : 2 ≤ d) (htb : ak_tbOK ak_CW tb) (hne : i ≠ j) (qi : s[i]? = some 58) (qj : s[j]? = some 58) {x3 l0 hr : Int32} (h30 : 0 ≤ l0.toInt ∧ 0 ≤ hr.toInt ∧ l0.toInt + hr.toInt ≤ 30) : ∀ (n : Nat) {h : aj_H} {lv : aj_V} {kc ks : Nat} {x4 y : Int32} (hT : ak_Ty ak_CW s h) (hI : cw_I cw_XB s h) (hK : cw_kp (cw_Eh i) cw_E0 (cw_o h0) (cw_o h)) (fi : cw_F h i 6 4 (.int y)) (fj : cw_F h j 6 4 (.int hr)) (hl0 : aj_lv lv 0 = some (.ref (52 + 43))) (hl1 : aj_lv lv 1 = some (.ref (52 + i))) (hl2 : aj_lv lv 2 = some (.ref (52 + j))) (hl3 : aj_lv lv 3 = some (.int x3)) (hl4 : aj_lv lv 4 = some (.int x4)) (hy : y.toInt = l0.toInt + x4.toInt) (h4 : 0 ≤ x4.toInt ∧ x4.toInt ≤ hr.toInt) (hn : hr.toInt - x4.toInt ≤ n), cw_W ak_CW (fun s' r h' => s' = s ∧ r = none ∧ cw_I cw_XB s h' ∧ cw_kp (cw_Eh i) cw_E0 (cw_o h0) (cw_o h') ∧ ∃ y : Int32, cw_F h' i 6 4 (.int y) ∧ y.toInt ≤ 30) tb d aj_m106 (cw_nW 106 none) s h kc ks 23 lv [] := by
  intro n
  induction n with
  | zero =>
    intro h lv kc ks x4 y hT hI hK fi fj hl0 hl1 hl2 hl3 hl4 hy h4 hn
    have hB := hI.1
    refine cw_l0 aj_d106 rfl rfl hl4 ?_
    refine cw_l2 aj_d106 rfl rfl hl2 ?_
    refine cw_g (i := j) (v := .int hr) htb.1 aj_d106 rfl rfl (by decide) fj ?_
    refine cw_c (tgt := 98) aj_d106 rfl rfl (fun q1019 => ?_) (fun q1019 => ?_)
    · have q1019 : x4.toInt ≥ hr.toInt := aw_t_ge (a := x4.toInt) (b := hr.toInt) rfl rfl q1019
      refine cw_Wr aj_d106 rfl rfl hT ?_ ?_
      · exact ⟨rfl, rfl, hI, hK, y, fi, by omega⟩
      · trivial
    · have q1019 : x4.toInt < hr.toInt := aw_t_ge (a := x4.toInt) (b := hr.toInt) rfl rfl q1019
      exfalso
      omega
  | succ n ih =>
    intro h lv kc ks x4 y hT hI hK fi fj hl0 hl1 hl2 hl3 hl4 hy h4 hn
    have hB := hI.1
    refine cw_l0 aj_d106 rfl rfl hl4 ?_
    refine cw_l2 aj_d106 rfl rfl hl2 ?_
    refine cw_g (i := j) (v := .int hr) htb.1 aj_d106 rfl rfl (by decide) fj ?_
    refine cw_c (tgt := 98) aj_d106 rfl rfl (fun q1020 => ?_) (fun q1020 => ?_)
    · have q1020 : x4.toInt ≥ hr.toInt := aw_t_ge (a := x4.toInt) (b := hr.toInt) rfl rfl q1020
      refine cw_Wr aj_d106 rfl rfl hT ?_ ?_
      · exact ⟨rfl, rfl, hI, hK, y, fi, by omega⟩
      · trivial
    · have q1020 : x4.toInt < hr.toInt := aw_t_ge (a := x4.toInt) (b := hr.toInt) rfl rfl q1020
      refine cw_l2 aj_d106 rfl rfl hl1 ?_
      refine cw_l2 aj_d106 rfl rfl hl2 ?_
      refine cw_l0 aj_d106 rfl rfl hl4 ?_
      refine cw_k0 (i := i) (t := 58) (con' := cw_nW 102 (some (.inl (0, 20000000)))) aj_d106 htb hT rfl rfl [_, _] rfl rfl qi rfl (Nat.le_of_ble_eq_true rfl) ⟨by decide, by decide⟩ (cw_addFrom htb hT hI (by omega) (row := x4) qi qj fi (by omega) (by omega)) ?_
      rintro raf1021 haf1021 hTaf1021 ⟨Iaf1021, kaf1021, rfl, yaf1021, eyaf1021, faf1021⟩ hRaf1021
      have f1022 : cw_F haf1021 j 6 4 (.int hr) := cw_kp_F kaf1021 (fun z => hne z.1.symm) (by decide) fj
      show cw_W _ _ _ _ _ _ _ _ _ _ 39 lv [.int y]
      refine cw_t0 (j := 5) aj_d106 rfl (by decide) rfl ?_
      obtain ⟨lv1023, elv1023⟩ : ∃ l, l = aj_set1 lv 5 (.int y) := ⟨_, rfl⟩
      rw [← elv1023]
      have hlv1023_0 : aj_lv lv1023 0 = some (.ref (52 + 43)) := cw_e1 elv1023 hl0 (by decide) (Or.inl (by decide))
      have hlv1023_1 : aj_lv lv1023 1 = some (.ref (52 + i)) := cw_e1 elv1023 hl1 (by decide) (Or.inl (by decide))
      have hlv1023_2 : aj_lv lv1023 2 = some (.ref (52 + j)) := cw_e1 elv1023 hl2 (by decide) (Or.inl (by decide))
      have hlv1023_3 : aj_lv lv1023 3 = some (.int x3) := cw_e1 elv1023 hl3 (by decide) (Or.inl (by decide))
      have hlv1023_4 : aj_lv lv1023 4 = some (.int x4) := cw_e1 elv1023 hl4 (by decide) (Or.inr rfl)
      have hlv1023_5 : aj_lv lv1023 5 = some (.int y) := by rw [elv1023]; exact ak_set1_eq _ _ _
      show cw_W _ _ _ _ _ _ _ _ _ _ 41 lv1023 []
      refine cw_n aj_d106 rfl rfl ?_
      refine cw_t0 (j := 6) aj_d106 rfl (by decide) rfl ?_
      obtain ⟨lv1024, elv1024⟩ : ∃ l, l = aj_set1 lv1023 6 (.int (Int32.ofInt 0)) := ⟨_, rfl⟩
      rw [← elv1024]
      have hlv1024_5 : aj_lv lv1024 5 = some (.int y) := cw_e1 elv1024 hlv1023_5 (by decide) (Or.inr rfl)
      have hlv1024_0 : aj_lv lv1024 0 = some (.ref (52 + 43)) := cw_e1 elv1024 hlv1023_0 (by decide) (Or.inl (by decide))
      have hlv1024_1 : aj_lv lv1024 1 = some (.ref (52 + i)) := cw_e1 elv1024 hlv1023_1 (by decide) (Or.inl (by decide))
      have hlv1024_2 : aj_lv lv1024 2 = some (.ref (52 + j)) := cw_e1 elv1024 hlv1023_2 (by decide) (Or.inl (by decide))
      have hlv1024_3 : aj_lv lv1024 3 = some (.int x3) := cw_e1 elv1024 hlv1023_3 (by decide) (Or.inl (by decide))
      have hlv1024_4 : aj_lv lv1024 4 = some (.int x4) := cw_e1 elv1024 hlv1023_4 (by decide) (Or.inl (by decide))
      have hlv1024_6 : aj_lv lv1024 6 = some (.int (Int32.ofInt 0)) := by rw [elv1024]; exact ak_set1_eq _ _ _
      show cw_W _ _ _ _ _ _ _ _ _ _ 44 lv1024 []
      refine cw_pl_in (by omega) htb hB qi qj (by omega) (by omega) 1024 hTaf1021 rfl hlv1024_0 hlv1024_1 hlv1024_2 hlv1024_3 hlv1024_4 hlv1024_5 hlv1024_6 (by decide) (by decide) ?_
      rintro h1 lv1 kc1 ks1 hT1 ho1 g0 g1 g2 g3 g4
      refine cw_inc aj_d106 rfl g4 (a := x4.toInt) rfl (by omega) (by omega) (by decide) (by decide) (fun x4' ex4 => ?_)
      refine cw_n aj_d106 rfl rfl ?_
      show cw_W _ _ _ _ _ _ _ _ _ _ 23 _ []
      exact ih hT1 (cw_I_eq ho1 Iaf1021) (cw_kp_tr (cw_kp_tr hK kaf1021) (cw_kp_eq ho1)) (cw_trF ho1 (by decide) faf1021) (cw_trF ho1 (by decide) f1022) (cw_e1 rfl g0 (by decide) (Or.inl (by decide))) (cw_e1 rfl g1 (by decide) (Or.inl (by decide))) (cw_e1 rfl g2 (by decide) (Or.inl (by decide))) (cw_e1 rfl g3 (by decide) (Or.inr rfl)) (ak_set1_eq _ _ _) (by omega) (by omega) (by omega)
/-- + -/
theorem cw_plus (htb : ak_tbOK ak_CW tb) (hT : ak_Ty ak_CW s h) (hI : cw_I cw_XB s h) (hd : 3 ≤ d) {x3 l0 hr : Int32} (hne : i ≠ j) (qi : s[i]? = some 58) (qj : s[j]? = some 58) (hx : 0 ≤ x3.toInt ∧ x3.toInt ≤ 2499) (fi : cw_F h i 6 4 (.int l0)) (fj : cw_F h j 6 4 (.int hr)) (hl : 0 ≤ l0.toInt ∧ l0.toInt ≤ 20000000) (hh : 0 ≤ hr.toInt ∧ hr.toInt ≤ 20000000) (hb : 30 ≤ b) (hok : cw_ok b (cw_o h) i) : cw_K ak_CW (fun s' r h' => s' = s ∧ r = none ∧ cw_I cw_XB s h' ∧ cw_kp cw_E64 cw_E0 (cw_o h) (cw_o h') ∧ cw_sy b b (cw_o h) (cw_o h')) tb d (cw_nW 106 none) [.ref (52 + 43), .ref (52 + i), .ref (52 + j), .int x3] s h := by
  obtain ⟨d, rfl⟩ : ∃ e, d = e + 1 := ⟨d - 1, by omega⟩
  have hB := hI.1
  refine cw_m (con := cw_nW 106 none) aj_m106_at (Nat.le_of_ble_eq_true rfl) ?_
  show cw_W _ _ _ _ _ _ _ _ _ _ 0 [(0, .ref (52 + 43)), (1, .ref (52 + i)), (2, .ref (52 + j)), (3, .int x3)] []
  obtain ⟨lv, elv⟩ : ∃ l : aj_V, l = [(0, .ref (52 + 43)), (1, .ref (52 + i)), (2, .ref (52 + j)), (3, .int x3)] := ⟨_, rfl⟩
  rw [← elv]
  have hl0 : aj_lv lv 0 = some (.ref (52 + 43)) := by rw [elv]; rfl
  have hl1 : aj_lv lv 1 = some (.ref (52 + i)) := by rw [elv]; rfl
  have hl2 : aj_lv lv 2 = some (.ref (52 + j)) := by rw [elv]; rfl
  have hl3 : aj_lv lv 3 = some (.int x3) := by rw [elv]; rfl
  refine cw_l2 aj_d106 rfl rfl hl1 ?_
  refine cw_g (i := i) (v := .int l0) htb.1 aj_d106 rfl rfl (by decide) fi ?_
  refine cw_l2 aj_d106 rfl rfl hl2 ?_
  refine cw_g (i := j) (v := .int hr) htb.1 aj_d106 rfl rfl (by decide) fj ?_
  refine cw_add aj_d106 rfl (a := l0.toInt) (b := hr.toInt) rfl rfl (by omega) (by omega) (fun x1025 ex1025 => ?_)
  refine cw_n aj_d106 rfl rfl ?_
  refine cw_c (tgt := 20) aj_d106 rfl rfl (fun q1026 => ?_) (fun q1026 => ?_)
  · have q1026 : x1025.toInt ≤ (30 : Int) := aw_t_le (a := x1025.toInt) (b := (30 : Int)) rfl rfl q1026
    refine cw_n aj_d106 rfl rfl ?_
    refine cw_t0 (j := 4) aj_d106 rfl (by decide) rfl ?_
    obtain ⟨lv1027, elv1027⟩ : ∃ l, l = aj_set1 lv 4 (.int (Int32.ofInt 0)) := ⟨_, rfl⟩
    rw [← elv1027]
    have hlv1027_0 : aj_lv lv1027 0 = some (.ref (52 + 43)) := cw_e1 elv1027 hl0 (by decide) (Or.inl (by decide))
    have hlv1027_1 : aj_lv lv1027 1 = some (.ref (52 + i)) := cw_e1 elv1027 hl1 (by decide) (Or.inl (by decide))
    have hlv1027_2 : aj_lv lv1027 2 = some (.ref (52 + j)) := cw_e1 elv1027 hl2 (by decide) (Or.inl (by decide))
    have hlv1027_3 : aj_lv lv1027 3 = some (.int x3) := cw_e1 elv1027 hl3 (by decide) (Or.inr rfl)
    have hlv1027_4 : aj_lv lv1027 4 = some (.int (Int32.ofInt 0)) := by rw [elv1027]; exact ak_set1_eq _ _ _
    show cw_W _ _ _ _ _ _ _ _ _ _ 23 lv1027 []
    refine cw_Wmono (fun s' r h' hh => ?_) (cw_pl_out (by omega) htb hne qi qj (l0 := l0) (hr := hr) (by omega) 30 hT hI cw_kp_rf fi fj hlv1027_0 hlv1027_1 hlv1027_2 hlv1027_3 hlv1027_4 (by rw [show (Int32.ofInt 0).toInt = 0 from rfl]; omega) ⟨by decide, by rw [show (Int32.ofInt 0).toInt = 0 from rfl]; omega⟩ (by rw [show (Int32.ofInt 0).toInt = 0 from rfl]; omega))
    obtain ⟨rfl, rfl, I1, k1, y, g1, g2⟩ := hh
    obtain ⟨w', w'', -, q2, -, q4⟩ := hok
    exact ⟨rfl, rfl, I1, cw_kp_sub k1 (fun _ _ _ z => Or.inl z.2.1) (fun _ z => z), cw_sy_kp (cw_Ehi k1) (cw_ok_F g1 (cw_kp_F k1 (fun z => absurd z.2.2 (by decide)) (by decide) ((cw_fo_F (by decide)).mp q2)) (by omega) q4)⟩
  · have q1026 : x1025.toInt > (30 : Int) := aw_t_le (a := x1025.toInt) (b := (30 : Int)) rfl rfl q1026
    refine cw_l2 aj_d106 rfl rfl hl0 ?_
    refine cw_l0 aj_d106 rfl rfl hl3 ?_
    refine cw_k0 (i := 43) (t := 61) (con' := cw_nW 107 none) aj_d106 htb hT rfl rfl [_] rfl rfl (cw_s0 hB rfl) rfl (Nat.le_of_ble_eq_true rfl) ⟨by decide, by decide⟩ (cw_fullT htb hT hI (by omega) (x := x3) hx) ?_
    rintro rf hf hTf ⟨rfl, If, kf⟩ hRf
    show cw_W _ _ _ _ _ _ _ _ _ _ 19 lv []
    refine cw_Wr aj_d106 rfl rfl hTf ?_ ?_
    · exact ⟨rfl, rfl, If, cw_kp_sub kf (fun _ _ _ z => Or.inr z) (fun _ z => z), cw_sy_n kf (fun _ _ z => absurd z.1 (by decide))⟩
    · trivial
end CW72
