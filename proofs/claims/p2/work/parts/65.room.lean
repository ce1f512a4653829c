/-! LONGER LISTS OF THE CLASS BY HAND (printed by wip/p2/cwalk/g65.py) -/
section CW65
variable {tb : aj_T} {s : List Nat} {h : aj_H} {d : Nat} {X : Option Nat}
theorem cw_setL {x y : aj_E} : (h ++ [x]).set h.length y = h ++ [y] := cw_setR (X := [])
theorem cw_lastA {kd n : Nat} {x : cw_X} : cw_A (h ++ [.inl (kd, n, x)]) h.length kd n x := by
  unfold cw_A
  rw [List.getElem?_append_right (Nat.le_refl _), Nat.sub_self]
  rfl
theorem cw_lastS {T : ak_TT} {t : Nat} (hT : ak_Ty T s h) : (s ++ [t])[h.length]? = some t := by
  rw [hT.1, List.getElem?_append_right (Nat.le_refl _), Nat.sub_self]
  rfl
abbrev cw_n177 : ak_Con := (177, [.inr (some ([98], false)), .inl (65, 2147483647)], some (.inr (some ([98], false))), ([98], []), [], [], [], 0, 0, [], [], [])
theorem cw_copyOf (htb : ak_tbOK ak_C0 tb) (hT : ak_Ty ak_C0 s h) (hd : 1 ≤ d) {a N n : Nat} {fa : Nat → Int32} {x : Int32} (qa : s[a]? = some 98) (aa : cw_A h a 0 N (.inl fa)) (hx : x.toInt = n) (h64 : 64 ≤ N) (hlt : N < n) (hn : n ≤ 65536) : cw_K ak_C0 (fun s' r h' => s' = s ++ [98] ∧ r = some (.ref (52 + h.length)) ∧ ∃ f' : Nat → Int32, h' = h ++ [.inl (0, n, .inl f')]) tb d cw_n177 [.ref (52 + a), .int x] s h := by
  obtain ⟨d, rfl⟩ : ∃ e, d = e + 1 := ⟨d - 1, by omega⟩
  refine cw_m (con := cw_n177) aj_m177_at (Nat.le_of_ble_eq_true rfl) ?_
  show cw_W _ _ _ _ _ _ _ _ _ _ 0 [(0, .ref (52 + a)), (1, .int x)] []
  refine cw_n aj_d177 rfl rfl ?_
  refine cw_n aj_d177 rfl rfl ?_
  refine cw_alen (i := a) htb.1 aj_d177 rfl aa (by decide) (by omega) (fun x1 ex1 => ?_)
  refine cw_c (tgt := 14) aj_d177 rfl rfl (fun q2 => ?_) (fun q2 => ?_)
  · have q2 : (n : Int) ≠ (N : Int) := aw_t_ne (a := (n : Int)) (b := (N : Int)) hx ex1 q2
    refine cw_n aj_d177 rfl rfl ?_
    refine cw_newL htb.1 aj_d177 rfl hT rfl (n := n) hx ⟨by omega, hn⟩ (fun hT9 => ?_)
    have qa9 : (s ++ [98])[a]? = some 98 := cw_sapp qa
    have q9 : (s ++ [98])[h.length]? = some 98 := cw_lastS hT
    have aa9 : cw_A (h ++ [.inl (0, n, .inl (fun _ => 0))]) a 0 N (.inl fa) := cw_A_app aa
    have a9 : cw_A (h ++ [.inl (0, n, .inl (fun _ => 0))]) h.length 0 n (.inl (fun _ => 0)) := cw_lastA
    show cw_W _ _ _ _ _ _ _ _ _ _ 17 [(0, .ref (52 + a)), (1, .int x)] [.ref (52 + h.length)]
    refine cw_n aj_d177 rfl rfl ?_
    show cw_W _ _ _ _ _ _ _ _ _ _ 18 [(2, .ref (52 + h.length)), (0, .ref (52 + a)), (1, .int x)] []
    refine cw_n aj_d177 rfl rfl ?_
    refine cw_n aj_d177 rfl rfl ?_
    refine cw_n aj_d177 rfl rfl ?_
    refine cw_n aj_d177 rfl rfl ?_
    refine cw_n aj_d177 rfl rfl ?_
    refine cw_alen (i := a) htb.1 aj_d177 rfl aa9 (by decide) (by omega) (fun x3 ex3 => ?_)
    refine cw_n aj_d177 rfl rfl ?_
    refine cw_any aj_d177 rfl rfl (fun z9 ez9 => ?_)
    have ez8 : z9.toInt = (N : Int) := by
      rw [ez9]
      show (if x < x3 then x else x3).toInt = _
      rw [if_neg (show ¬ (x < x3) by rw [Int32.lt_iff_toInt_lt]; omega)]
      exact ex3
    show cw_W _ _ _ _ _ _ _ _ _ _ 28 [(2, .ref (52 + h.length)), (0, .ref (52 + a)), (1, .int x)] [.int z9, .int (Int32.ofInt 0), .ref (52 + h.length), .int (Int32.ofInt 0), .ref (52 + a)]
    refine cw_cpy htb aj_d177 rfl rfl aa9 a9 hT9 q9 rfl (by decide) rfl rfl ez8 (Nat.le_refl _) (by omega) (by decide) (fun g9 hT8 => ?_)
    show cw_W _ _ _ _ _ _ _ _ _ _ 31 [(2, .ref (52 + h.length)), (0, .ref (52 + a)), (1, .int x)] []
    refine cw_n aj_d177 rfl rfl ?_
    refine cw_Wr aj_d177 rfl rfl hT8 ?_ ?_
    · refine ⟨rfl, rfl, g9, ?_⟩
      rw [cw_sa_eq a9, cw_setL]
    · exact cw_gR q9 (by decide) (by decide)
  · have q2 : (n : Int) = (N : Int) := aw_t_ne (a := (n : Int)) (b := (N : Int)) hx ex1 q2
    exfalso
    omega
abbrev cw_n176 : ak_Con := (176, [.inr (some ([54], false)), .inl ((-100), 30750)], none, ([98], [(2, 5), (2, 6)]), [], [], [], 0, 0, [], [], [])
/-- longer lists: what holds goes on to hold -/
theorem cw_I_grow {L : Nat} {s : List Nat} {h : aj_H} {X : Option Nat} {n j : Nat} {f' : Nat → Int32} {a : Nat} {N : Nat} (hL : L = h.length) (hI : cw_I X s h) (hT : ak_Ty ak_C0 s h) (f5 : cw_F h 55 2 5 (.ref (52 + a))) (f6 : ∃ b, cw_F h 55 2 6 (.ref (52 + b))) (hN : (cw_o h).2 a = some (0, N, .inl (fun _ => 0)) ∨ ∃ y, (cw_o h).2 a = some (0, N, y)) (hj : 1 ≤ j) (hn : n = N * 2 ^ j) : cw_I X ((s ++ [98]) ++ [98]) (cw_sf ((cw_sf (h ++ [.inl (0, n, .inl f')]) 55 5 (.ref (52 + L))) ++ [.inl (0, n, .inl (fun _ => 0))]) 55 6 (.ref (52 + (L + 1)))) := by
  subst hL
  have hl98 := cw_B_len hI.1 hT
  obtain ⟨g1, hg1⟩ : ∃ z, z = h ++ [(.inl (0, n, .inl f') : aj_E)] := ⟨_, rfl⟩
  obtain ⟨g2, hg2⟩ : ∃ z, z = cw_sf g1 55 5 (.ref (52 + h.length)) := ⟨_, rfl⟩
  obtain ⟨g3, hg3⟩ : ∃ z, z = g2 ++ [(.inl (0, n, .inl (fun _ => 0)) : aj_E)] := ⟨_, rfl⟩
  obtain ⟨g4, hg4⟩ : ∃ z, z = cw_sf g3 55 6 (.ref (52 + (h.length + 1))) := ⟨_, rfl⟩
  rw [← hg1, ← hg2, ← hg3, ← hg4]
  have l1 : g1.length = h.length + 1 := by rw [hg1, List.length_append]; rfl
  have l2 : g2.length = h.length + 1 := by rw [hg2, cw_len_sf, l1]
  have l3 : g3.length = h.length + 2 := by rw [hg3, List.length_append, l2]; rfl
  have e1 : cw_exb [55] h g1 := by rw [hg1]; exact cw_exb_app
  have e2 : cw_exb [55] g1 g2 := by rw [hg2]; exact cw_exb_of (cw_ex_sf (by decide))
  have e3 : cw_exb [55] g2 g3 := by rw [hg3]; exact cw_exb_app
  have e4 : cw_exb [55] g3 g4 := by rw [hg4]; exact cw_exb_of (cw_ex_sf (by decide))
  have ex : cw_exb [55] h g4 := cw_exb_tr (cw_exb_tr (cw_exb_tr e1 e2 (by omega)) e3 (by omega)) e4 (by omega)
  obtain ⟨b, f6⟩ := f6
  have k5 : cw_F g4 55 2 5 (.ref (52 + h.length)) := by
    rw [hg4]
    refine cw_sf_ne ?_ (Or.inr (by decide))
    rw [hg3]
    refine cw_F_app ?_
    rw [hg2]
    refine cw_sf_same (w := .ref (52 + a)) ?_
    rw [hg1]
    exact cw_F_app f5
  have k6 : cw_F g4 55 2 6 (.ref (52 + (h.length + 1))) := by
    rw [hg4]
    refine cw_sf_same (w := .ref (52 + b)) ?_
    rw [hg3]
    refine cw_F_app ?_
    rw [hg2]
    refine cw_sf_ne ?_ (Or.inr (by decide))
    rw [hg1]
    exact cw_F_app f6
  have a1 : cw_A g4 h.length 0 n (.inl f') := by
    rw [hg4]
    refine cw_sf_A ?_
    rw [hg3]
    refine cw_A_app ?_
    rw [hg2]
    refine cw_sf_A ?_
    rw [hg1]
    exact cw_lastA
  have a2 : cw_A g4 (h.length + 1) 0 n (.inl (fun _ => 0)) := by
    rw [hg4]
    refine cw_sf_A ?_
    rw [hg3, ← l2]
    exact cw_lastA
  obtain ⟨hB, hW, hD, hG, hH, hR⟩ := hI
  have h98 : ∀ t ∈ ([98] : List Nat), t ∈ [58, 94, 95, 96, 98] := by decide
  refine ⟨cw_B_app (cw_B_app hB h98) h98, cw_wds_b ex (by decide) hW, cw_dis_b ex (by decide) hD, cw_gd_b ex (by decide) hl98 hG, cw_H_b ex (by decide) hH, ?_⟩
  obtain ⟨u, t1, t2, t3, a', b', g', xa, xb, r1, r2, r3, r4, r5, r6, r7, r8, r9, r10⟩ := hR
  have r5 := (cw_fo_F (by decide)).mp r5
  have := (cw_F_u r5 f5).2
  have haa : a' = a := by
    have h0 : 52 + a' = 52 + a := Value.ref.inj this
    exact Nat.add_left_cancel h0
  subst haa
  have hNN : N = 64 * 2 ^ g' := by
    have r8 := r8.1
    rcases hN with q | ⟨y, q⟩ <;> (rw [r8] at q; cases q; rfl)
  obtain ⟨y1, o1⟩ := cw_oa_n a1
  obtain ⟨y2, o2⟩ := cw_oa_n a2
  have hnn : n = 64 * 2 ^ (g' + j) := by rw [hn, hNN, Nat.pow_add, Nat.mul_assoc]
  have sl : ak_slo ak_C0 [98] = 65536 := by decide
  refine ⟨(u ++ [98]) ++ [98], t1, t2, t3, h.length, h.length + 1, g' + j, y1, y2, by rw [r1, List.append_assoc, List.append_assoc, List.append_assoc], cw_oa_b ex (by decide) r2, cw_oa_b ex (by decide) r3, cw_oa_b ex (by decide) r4, (cw_fo_F (by decide)).mpr k5, (cw_fo_F (by decide)).mpr k6, ⟨by omega, by omega⟩, ⟨by rw [← hnn]; exact o1, by rw [← hnn]; exact o2⟩, ?_, ?_⟩
  · rw [List.length_append, List.length_append]
    show u.length + 1 + 1 ≤ _
    omega
  · rw [ak_slo_app, ak_slo_app, sl]
    omega
theorem cw_mkr_x (htb : ak_tbOK ak_C0 tb) (hT : ak_Ty ak_C0 s h) (hI : cw_I X s h) {a b N : Nat} {fa : Nat → Int32} (qa : s[a]? = some 98) (qb : s[b]? = some 98) (fr : cw_F h 55 2 5 (.ref (52 + a))) (fm : cw_F h 55 2 6 (.ref (52 + b))) (aa : cw_A h a 0 N (.inl fa)) (hN : 64 ≤ N ∧ N ≤ 65536) {d kc ks n j : Nat} (hd : 2 ≤ d + 1) {x1 x2 x3 : Int32} (hx : x2.toInt = (n : Int)) (hn : N < n → n = N * 2 ^ j) (hj : N < n → 1 ≤ j) (hn2 : N < n → n ≤ 65536) : cw_W ak_C0 (fun s' _ h' => cw_I X s' h') tb d aj_m176 cw_n176 s h kc ks 29 [(3, .int x3), (2, .int x2), (0, .ref (52 + 55)), (1, .int x1)] [] := by
  have hB := hI.1
  refine cw_n aj_d176 rfl rfl ?_
  refine cw_n aj_d176 rfl rfl ?_
  refine cw_g (i := 55) (v := .ref (52 + a)) htb.1 aj_d176 rfl rfl (by decide) fr ?_
  refine cw_alen (i := a) htb.1 aj_d176 rfl aa (by decide) (by omega) (fun x4 ex4 => ?_)
  refine cw_c (tgt := 57) aj_d176 rfl rfl (fun q5 => ?_) (fun q5 => ?_)
  · have q5 : (n : Int) ≤ (N : Int) := aw_t_le (a := (n : Int)) (b := (N : Int)) hx ex4 q5
    refine cw_Wr aj_d176 rfl rfl hT ?_ ?_
    · exact hI
    · trivial
  · have q5 : (n : Int) > (N : Int) := aw_t_le (a := (n : Int)) (b := (N : Int)) hx ex4 q5
    refine cw_n aj_d176 rfl rfl ?_
    refine cw_n aj_d176 rfl rfl ?_
    refine cw_g (i := 55) (v := .ref (52 + a)) htb.1 aj_d176 rfl rfl (by decide) fr ?_
    refine cw_n aj_d176 rfl rfl ?_
    refine cw_ks (con' := cw_n177) aj_d176 hT rfl rfl rfl [_, _] rfl rfl (Nat.le_of_ble_eq_true rfl) ⟨by decide, by decide⟩ (cw_copyOf (n := n) htb hT (by omega) qa aa hx hN.1 (by omega) (hn2 (by omega))) ?_
    rintro u r h1 hT1 ⟨hs1, rfl, f', rfl⟩ _ _
    have hu : u = [98] := List.append_cancel_left hs1
    subst hu
    have q1 : (s ++ [98])[h.length]? = some 98 := cw_lastS hT
    have fr1 : cw_F (h ++ [.inl (0, n, .inl f')]) 55 2 5 (.ref (52 + a)) := cw_F_app fr
    have fm1 : cw_F (h ++ [.inl (0, n, .inl f')]) 55 2 6 (.ref (52 + b)) := cw_F_app fm
    have hB1 : cw_B (s ++ [98]) := cw_B_app hI.1 (by decide)
    have qb1 : (s ++ [98])[b]? = some 98 := cw_sapp qb
    have qa1 : (s ++ [98])[a]? = some 98 := cw_sapp qa
    show cw_W _ _ _ _ _ _ _ _ _ _ 47 [(3, .int x3), (2, .int x2), (0, .ref (52 + 55)), (1, .int x1)] [.ref (52 + h.length), .ref (52 + 55)]
    refine cw_p (i := 55) (t := 54) (c := 2) (k := 5) (v := .ref (52 + h.length)) (y := (.inr (some ([98], false)))) htb aj_d176 rfl rfl hT1 (cw_s0 hB1 rfl) rfl rfl rfl (cw_gR q1 (by decide) (by decide)) (by decide) rfl rfl (fun hT6 => ?_)
    have f7 : cw_F (cw_sf (h ++ [.inl (0, n, .inl f')]) 55 5 (.ref (52 + h.length))) 55 2 6 (.ref (52 + b)) := cw_sf_ne fm1 (Or.inr (by decide))
    have f8 : cw_F (cw_sf (h ++ [.inl (0, n, .inl f')]) 55 5 (.ref (52 + h.length))) 55 2 5 (.ref (52 + h.length)) := cw_sf_same fr1
    refine cw_n aj_d176 rfl rfl ?_
    refine cw_n aj_d176 rfl rfl ?_
    have hlen : (cw_sf (h ++ [.inl (0, n, .inl f')]) 55 5 (.ref (52 + h.length))).length = h.length + 1 := by rw [cw_len_sf, List.length_append]; rfl
    refine cw_newL htb.1 aj_d176 rfl hT6 rfl (n := n) hx ⟨by omega, hn2 (by omega)⟩ (fun hT5 => ?_)
    rw [hlen]
    have q5 : ((s ++ [98]) ++ [98])[h.length + 1]? = some 98 := by
      have := cw_lastS (t := 98) hT6
      rw [hlen] at this
      exact this
    have hB5 : cw_B ((s ++ [98]) ++ [98]) := cw_B_app hB1 (by decide)
    have fm5 : cw_F ((cw_sf (h ++ [.inl (0, n, .inl f')]) 55 5 (.ref (52 + h.length))) ++ [.inl (0, n, .inl (fun _ => 0))]) 55 2 6 (.ref (52 + b)) := cw_F_app f7
    have qb5 : ((s ++ [98]) ++ [98])[b]? = some 98 := cw_sapp qb1
    show cw_W _ _ _ _ _ _ _ _ _ _ 54 [(3, .int x3), (2, .int x2), (0, .ref (52 + 55)), (1, .int x1)] [.ref (52 + (h.length + 1)), .ref (52 + 55)]
    refine cw_p (i := 55) (t := 54) (c := 2) (k := 6) (v := .ref (52 + (h.length + 1))) (y := (.inr (some ([98], false)))) htb aj_d176 rfl rfl hT5 (cw_s0 hB5 rfl) rfl rfl rfl (cw_gR q5 (by decide) (by decide)) (by decide) rfl rfl (fun hT9 => ?_)
    have f10 : cw_F (cw_sf ((cw_sf (h ++ [.inl (0, n, .inl f')]) 55 5 (.ref (52 + h.length))) ++ [.inl (0, n, .inl (fun _ => 0))]) 55 6 (.ref (52 + (h.length + 1)))) 55 2 6 (.ref (52 + (h.length + 1))) := cw_sf_same fm5
    refine cw_Wr aj_d176 rfl rfl hT9 ?_ ?_
    · exact cw_I_grow rfl hI hT fr ⟨b, fm⟩ (Or.inr (cw_oa_n aa)) (hj (by omega)) (hn (by omega))
    · trivial
theorem cw_mkr_l {d : Nat} (hd : 2 ≤ d + 1) {x1 : Int32} : ∀ (m : Nat) (j : Nat) (htb : ak_tbOK ak_C0 tb) (hT : ak_Ty ak_C0 s h) (hI : cw_I X s h) {a b N : Nat} {fa : Nat → Int32} (qa : s[a]? = some 98) (qb : s[b]? = some 98) (fr : cw_F h 55 2 5 (.ref (52 + a))) (fm : cw_F h 55 2 6 (.ref (52 + b))) (aa : cw_A h a 0 N (.inl fa)) (hN : 64 ≤ N ∧ N ≤ 65536) {x2 x3 : Int32} {kc ks : Nat} (hx : x2.toInt = ((N * 2 ^ j : Nat) : Int)) (hb : j = 0 ∨ N * 2 ^ j ≤ 61500) (h1 : x1.toInt ≤ 30750), 16 - x3.toInt ≤ m → cw_W ak_C0 (fun s' _ h' => cw_I X s' h') tb d aj_m176 cw_n176 s h kc ks 8 [(3, .int x3), (2, .int x2), (0, .ref (52 + 55)), (1, .int x1)] [] := by
  intro m
  induction m with
  | zero =>
    intro j htb hT hI a b N fa qa qb fr fm aa hN x2 x3 kc ks hx hb h1 hm
    have hB := hI.1
    have b3 := cw_full x3
    refine cw_n aj_d176 rfl rfl ?_
    refine cw_n aj_d176 rfl rfl ?_
    refine cw_c (tgt := 29) aj_d176 rfl rfl (fun q11 => ?_) (fun q11 => ?_)
    · have q11 : x3.toInt ≥ (16 : Int) := aw_t_ge (a := x3.toInt) (b := (16 : Int)) rfl rfl q11
      exact cw_mkr_x htb hT hI qa qb fr fm aa hN hd (n := N * 2 ^ j) (j := j) hx (fun _ => rfl) (fun hlt => by
        rcases j with _ | j
        · rw [Nat.pow_zero] at hlt; omega
        · omega) (fun hlt => by
        rcases hb with rfl | hb
        · rw [Nat.pow_zero] at hlt; omega
        · omega)
    · have q11 : x3.toInt < (16 : Int) := aw_t_ge (a := x3.toInt) (b := (16 : Int)) rfl rfl q11
      exfalso
      omega
  | succ m ih =>
    intro j htb hT hI a b N fa qa qb fr fm aa hN x2 x3 kc ks hx hb h1 hm
    have hB := hI.1
    have b3 := cw_full x3
    refine cw_n aj_d176 rfl rfl ?_
    refine cw_n aj_d176 rfl rfl ?_
    refine cw_c (tgt := 29) aj_d176 rfl rfl (fun q12 => ?_) (fun q12 => ?_)
    · have q12 : x3.toInt ≥ (16 : Int) := aw_t_ge (a := x3.toInt) (b := (16 : Int)) rfl rfl q12
      exact cw_mkr_x htb hT hI qa qb fr fm aa hN hd (n := N * 2 ^ j) (j := j) hx (fun _ => rfl) (fun hlt => by
        rcases j with _ | j
        · rw [Nat.pow_zero] at hlt; omega
        · omega) (fun hlt => by
        rcases hb with rfl | hb
        · rw [Nat.pow_zero] at hlt; omega
        · omega)
    · have q12 : x3.toInt < (16 : Int) := aw_t_ge (a := x3.toInt) (b := (16 : Int)) rfl rfl q12
      refine cw_n aj_d176 rfl rfl ?_
      refine cw_n aj_d176 rfl rfl ?_
      refine cw_c (tgt := 29) aj_d176 rfl rfl (fun q13 => ?_) (fun q13 => ?_)
      · have q13 : ((N * 2 ^ j : Nat) : Int) ≥ x1.toInt := aw_t_ge (a := ((N * 2 ^ j : Nat) : Int)) (b := x1.toInt) hx rfl q13
        exact cw_mkr_x htb hT hI qa qb fr fm aa hN hd (n := N * 2 ^ j) (j := j) hx (fun _ => rfl) (fun hlt => by
          rcases j with _ | j
          · rw [Nat.pow_zero] at hlt; omega
          · omega) (fun hlt => by
          rcases hb with rfl | hb
          · rw [Nat.pow_zero] at hlt; omega
          · omega)
      · have q13 : ((N * 2 ^ j : Nat) : Int) < x1.toInt := aw_t_ge (a := ((N * 2 ^ j : Nat) : Int)) (b := x1.toInt) hx rfl q13
        refine cw_n aj_d176 rfl rfl ?_
        refine cw_n aj_d176 rfl rfl ?_
        refine cw_mul aj_d176 rfl (a := ((N * 2 ^ j : Nat) : Int)) (b := (2 : Int)) hx rfl (by omega) (by omega) (fun x14 ex14 => ?_)
        refine cw_n aj_d176 rfl rfl ?_
        show cw_W _ _ _ _ _ _ _ _ _ _ 23 [(2, .int x14), (3, .int x3), (0, .ref (52 + 55)), (1, .int x1)] []
        refine cw_inc aj_d176 rfl rfl (a := x3.toInt) rfl (by omega) (by omega) (by decide) (by decide) (fun x15 ex15 => ?_)
        show cw_W _ _ _ _ _ _ _ _ _ _ 26 [(3, .int x15), (2, .int x14), (0, .ref (52 + 55)), (1, .int x1)] []
        refine cw_n aj_d176 rfl rfl ?_
        refine ih (j + 1) htb hT hI qa qb fr fm aa hN (by rw [ex14, Nat.pow_succ, ← Nat.mul_assoc]; omega) (Or.inr (by rw [Nat.pow_succ, ← Nat.mul_assoc]; omega)) h1 (by omega)
theorem cw_mkr (htb : ak_tbOK ak_C0 tb) (hT : ak_Ty ak_C0 s h) (hI : cw_I X s h) {a b N : Nat} {fa : Nat → Int32} (qa : s[a]? = some 98) (qb : s[b]? = some 98) (fr : cw_F h 55 2 5 (.ref (52 + a))) (fm : cw_F h 55 2 6 (.ref (52 + b))) (aa : cw_A h a 0 N (.inl fa)) (hN : 64 ≤ N ∧ N ≤ 65536) (hd : 2 ≤ d) {x1 : Int32} (h1 : x1.toInt ≤ 30750) : cw_K ak_C0 (fun s' _ h' => cw_I X s' h') tb d cw_n176 [.ref (52 + 55), .int x1] s h := by
  obtain ⟨d, rfl⟩ : ∃ e, d = e + 1 := ⟨d - 1, by omega⟩
  have hB := hI.1
  refine cw_m (con := cw_n176) aj_m176_at (Nat.le_of_ble_eq_true rfl) ?_
  show cw_W _ _ _ _ _ _ _ _ _ _ 0 [(0, .ref (52 + 55)), (1, .int x1)] []
  refine cw_n aj_d176 rfl rfl ?_
  refine cw_g (i := 55) (v := .ref (52 + a)) htb.1 aj_d176 rfl rfl (by decide) fr ?_
  refine cw_alen (i := a) htb.1 aj_d176 rfl aa (by decide) (by omega) (fun x16 ex16 => ?_)
  refine cw_n aj_d176 rfl rfl ?_
  show cw_W _ _ _ _ _ _ _ _ _ _ 6 [(2, .int x16), (0, .ref (52 + 55)), (1, .int x1)] []
  refine cw_n aj_d176 rfl rfl ?_
  refine cw_n aj_d176 rfl rfl ?_
  show cw_W _ _ _ _ _ _ _ _ _ _ 8 [(3, .int (Int32.ofInt 0)), (2, .int x16), (0, .ref (52 + 55)), (1, .int x1)] []
  refine cw_mkr_l (by omega) 16 0 htb hT hI qa qb fr fm aa hN ?_ (Or.inl rfl) h1 (by decide)
  rw [Nat.pow_zero, Nat.mul_one]
  exact ex16
end CW65
