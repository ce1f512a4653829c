/-! LONGER LISTS OF THE CLASS BY HAND (printed by wip/p2/cwalk/g65.py) -/
section CW65
variable {tb : aj_T} {s : List Nat} {h : aj_H} {d : Nat} {X : Option Nat}
theorem cw_setL {x y : aj_E} : (h ++ [x]).set h.length y = h ++ [y] := cw_setR (X := [])
theorem cw_lastA {kd n : Nat} {x : cw_X} : cw_A (h ++ [.inl (kd, n, x)]) h.length kd n x := by
  unfold cw_A
  rw [List.getElem?_append_right (Nat.le_refl _), Nat.sub_self]
  rfl
theorem cw_lastS {T : ak_TT} {t : Nat} (hT : ak_Ty T s h) : (s ++ [t])[h.length]? = some t := by
  rw [hT.1, List.getElem?_append_right (Nat.le_refl _), Nat.sub_self]
  rfl
abbrev cw_n177 : ak_Con := (177, [.inr (some ([98], false)), .inl (65, 2147483647)], some (.inr (some ([98], false))), ([98], []), [], [], [], 0, 0, [], [], [])
theorem cw_copyOf (htb : ak_tbOK ak_C0 tb) (hT : ak_Ty ak_C0 s h) (hd : 1 ≤ d) {a N n : Nat} {fa : Nat → Int32} {x : Int32} (qa : s[a]? = some 98) (aa : cw_A h a 0 N (.inl fa)) (hx : x.toInt = n) (h64 : 64 ≤ N) (hlt : N < n) (hn : n ≤ 65536) : cw_K ak_C0 (fun s' r h' => s' = s ++ [98] ∧ r = some (.ref (52 + h.length)) ∧ ∃ f' : Nat → Int32, h' = h ++ [.inl (0, n, .inl f')]) tb d cw_n177 [.ref (52 + a), .int x] s h := by
  obtain ⟨d, rfl⟩ : ∃ e, d = e + 1 := ⟨d - 1, by omega⟩
  refine cw_m (con := cw_n177) aj_m177_at (Nat.le_of_ble_eq_true rfl) ?_
  show cw_W _ _ _ _ _ _ _ _ _ _ 0 [(0, .ref (52 + a)), (1, .int x)] []
  refine cw_n aj_d177 rfl rfl ?_
  refine cw_n aj_d177 rfl rfl ?_
  refine cw_alen (i := a) htb.1 aj_d177 rfl aa (by decide) (by omega) (fun x1 ex1 => ?_)
  refine cw_c (tgt := 14) aj_d177 rfl rfl (fun q2 => ?_) (fun q2 => ?_)
  · have q2 : (n : Int) ≠ (N : Int) := aw_t_ne (a := (n : Int)) (b := (N : Int)) hx ex1 q2
    refine cw_n aj_d177 rfl rfl ?_
    refine cw_newL htb.1 aj_d177 rfl hT rfl (n := n) hx ⟨by omega, hn⟩ (fun hT9 => ?_)
    have qa9 : (s ++ [98])[a]? = some 98 := cw_sapp qa
    have q9 : (s ++ [98])[h.length]? = some 98 := cw_lastS hT
    have aa9 : cw_A (h ++ [.inl (0, n, .inl (fun _ => 0))]) a 0 N (.inl fa) := cw_A_app aa
    have a9 : cw_A (h ++ [.inl (0, n, .inl (fun _ => 0))]) h.length 0 n (.inl (fun _ => 0)) := cw_lastA
    show cw_W _ _ _ _ _ _ _ _ _ _ 17 [(0, .ref (52 + a)), (1, .int x)] [.ref (52 + h.length)]
    refine cw_n aj_d177 rfl rfl ?_
    show cw_W _ _ _ _ _ _ _ _ _ _ 18 [(2, .ref (52 + h.length)), (0, .ref (52 + a)), (1, .int x)] []
    refine cw_n aj_d177 rfl rfl ?_
    refine cw_n aj_d177 rfl rfl ?_
    refine cw_n aj_d177 rfl rfl ?_
    refine cw_n aj_d177 rfl rfl ?_
    refine cw_n aj_d177 rfl rfl ?_
    refine cw_alen (i := a) htb.1 aj_d177 rfl aa9 (by decide) (by omega) (fun x3 ex3 => ?_)
    refine cw_n aj_d177 rfl rfl ?_
    refine cw_any aj_d177 rfl rfl (fun z9 ez9 => ?_)
    have ez8 : z9.toInt = (N : Int) := by
      rw [ez9]
      show (if x < x3 then x else x3).toInt = _
      rw [if_neg (show ¬ (x < x3) by rw [Int32.lt_iff_toInt_lt]; omega)]
      exact ex3
    show cw_W _ _ _ _ _ _ _ _ _ _ 28 [(2, .ref (52 + h.length)), (0, .ref (52 + a)), (1, .int x)] [.int z9, .int (Int32.ofInt 0), .ref (52 + h.length), .int (Int32.ofInt 0), .ref (52 + a)]
    refine cw_cpy htb aj_d177 rfl rfl aa9 a9 hT9 q9 rfl (by decide) rfl rfl ez8 (Nat.le_refl _) (by omega) (by decide) (fun g9 hT8 => ?_)
    show cw_W _ _ _ _ _ _ _ _ _ _ 31 [(2, .ref (52 + h.length)), (0, .ref (52 + a)), (1, .int x)] []
    refine cw_n aj_d177 rfl rfl ?_
    refine cw_Wr aj_d177 rfl rfl hT8 ?_ ?_
    · refine ⟨rfl, rfl, g9, ?_⟩
      rw [cw_sa_eq a9, cw_setL]
    · exact cw_gR q9 (by decide) (by decide)
  · have q2 : (n : Int) = (N : Int) := aw_t_ne (a := (n : Int)) (b := (N : Int)) hx ex1 q2
    exfalso
    omega
abbrev cw_n176 : ak_Con := (176, [.inr (some ([54], false)), .inl ((-100), 30750)], none, ([98], [(2, 5), (2, 6)]), [], [], [], 0, 0, [], [], [])
/-- longer lists: what holds goes on to hold -/
theorem cw_I_grow {L : Nat} {s : List Nat} {h : aj_H} {X : Option Nat} {n j : Nat} {f' : Nat → Int32} {a : Nat} {N : Nat} (hL : L = h.length) (hI : cw_I X s h) (hT : ak_Ty ak_C0 s h) (f5 : cw_F h 55 2 5 (.ref (52 + a))) (f6 : ∃ b, cw_F h 55 2 6 (.ref (52 + b))) (hN : (cw_o h).2 a = some (0, N, .inl (fun _ => 0)) ∨ ∃ y, (cw_o h).2 a = some (0, N, y)) (hj : 1 ≤ j) (hn : n = N * 2 ^ j) : cw_I X ((s ++ [98]) ++ [98]) (cw_sf ((cw_sf (h ++ [.inl (0, n, .inl f')]) 55 5 (.ref (52 + L))) ++ [.inl (0, n, .inl (fun _ => 0))]) 55 6 (.ref (52 + (L + 1)))) := by
  subst hL
  have hl98 := cw_B_len hI.1 hT
  obtain ⟨g1, hg1⟩ : ∃ z, z = h ++ [(.inl (0, n, .inl f') : aj_E)] := ⟨_, rfl⟩
  obtain ⟨g2, hg2⟩ : ∃ z, z = cw_sf g1 55 5 (.ref (52 + h.length)) := ⟨_, rfl⟩
  obtain ⟨g3, hg3⟩ : ∃ z, z = g2 ++ [(.inl (0, n, .inl (fun _ => 0)) : aj_E)] := ⟨_, rfl⟩
  obtain ⟨g4, hg4⟩ : ∃ z, z = cw_sf g3 55 6 (.ref (52 + (h.length + 1))) := ⟨_, rfl⟩
  rw [← hg1, ← hg2, ← hg3, ← hg4]
  have l1 : g1.length = h.length + 1 := by rw [hg1, List.length_append]; rfl
  have l2 : g2.length = h.length + 1 := by rw [hg2, cw_len_sf, l1]
  have l3 : g3.length = h.length + 2 := by rw [hg3, List.length_append, l2]; rfl
  have e1 : cw_exb [55] h g1 := by rw [hg1]; exact cw_exb_app
  have e2 : cw_exb [55] g1 g2 := by rw [hg2]; exact cw_exb_of (cw_ex_sf (by decide))
  have e3 : cw_exb [55] g2 g3 := by rw [hg3]; exact cw_exb_app
  have e4 : cw_exb [55] g3 g4 := by rw [hg4]; exact cw_exb_of (cw_ex_sf (by decide))
  have ex : cw_exb [55] h g4 := cw_exb_tr (cw_exb_tr (cw_exb_tr e1 e2 (by omega)) e3 (by omega)) e4 (by omega)
  obtain ⟨b, f6⟩ := f6
  have k5 : cw_F g4 55 2 5 (.ref (52 + h.length)) := by
    rw [hg4]
    refine cw_sf_ne ?_ (Or.inr (by decide))
    rw [hg3]
    refine cw_F_app ?_
    rw [hg2]
    refine cw_sf_same (w := .ref (52 + a)) ?_
    rw [hg1]
    exact cw_F_app f5
  have k6 : cw_F g4 55 2 6 (.ref (52 + (h.length + 1))) := by
    rw [hg4]
    refine cw_sf_same (w := .ref (52 + b)) ?_
    rw [hg3]
    refine cw_F_app ?_
    rw [hg2]
    refine cw_sf_ne ?_ (Or.inr (by decide))
    rw [hg1]
    exact cw_F_app f6
  have a1 : cw_A g4 h.length 0 n (.inl f') := by
    rw [hg4]
    refine cw_sf_A ?_
    rw [hg3]
    refine cw_A_app ?_
    rw [hg2]
    refine cw_sf_A ?_
    rw [hg1]
    exact cw_lastA
  have a2 : cw_A g4 (h.length + 1) 0 n (.inl (fun _ => 0)) := by
    rw [hg4]
    refine cw_sf_A ?_
    rw [hg3, ← l2]
    exact cw_lastA
  have hnew : ∀ i, h.length ≤ i → ∀ q, (cw_o g4).1 i ≠ some (6, q) := by
    intro i hi q hq
    have hlt := cw_ob_lt hq
    rw [hg4, cw_len_sf, l3] at hlt
    have hi2 : i = h.length ∨ i = h.length + 1 := by omega
    have hq : cw_ob g4 i = some (6, q) := hq
    unfold cw_ob at hq
    rcases hi2 with rfl | rfl
    · rw [show g4[h.length]? = _ from a1] at hq
      cases hq
    · rw [show g4[h.length + 1]? = _ from a2] at hq
      cases hq
  obtain ⟨hB, hW, hD, hG, hH, hR⟩ := hI
  have h98 : ∀ t ∈ ([98] : List Nat), t ∈ [58, 94, 95, 96, 98] := by decide
  refine ⟨cw_B_app (cw_B_app hB h98) h98, cw_wds_b ex (by decide) hW, cw_dis_b ex (by decide) hD, cw_gd_b ex (by decide) hl98 hG, cw_H_b ex hnew (by decide) hH, ?_⟩
  obtain ⟨u, t1, t2, t3, a', b', g', xa, xb, r1, r2, r3, r4, r5, r6, r7, r8, r9, r10⟩ := hR
  have r5 := (cw_fo_F (by decide)).mp r5
  have := (cw_F_u r5 f5).2
  have haa : a' = a := by
    have h0 : 52 + a' = 52 + a := Value.ref.inj this
    exact Nat.add_left_cancel h0
  subst haa
  have hNN : N = 64 * 2 ^ g' := by
    have r8 := r8.1
    rcases hN with q | ⟨y, q⟩ <;> (rw [r8] at q; cases q; rfl)
  obtain ⟨y1, o1⟩ := cw_oa_n a1
  obtain ⟨y2, o2⟩ := cw_oa_n a2
  have hnn : n = 64 * 2 ^ (g' + j) := by rw [hn, hNN, Nat.pow_add, Nat.mul_assoc]
  have sl : ak_slo ak_C0 [98] = 65536 := by decide
  refine ⟨(u ++ [98]) ++ [98], t1, t2, t3, h.length, h.length + 1, g' + j, y1, y2, by rw [r1, List.append_assoc, List.append_assoc, List.append_assoc], cw_oa_b ex (by decide) r2, cw_oa_b ex (by decide) r3, cw_oa_b ex (by decide) r4, (cw_fo_F (by decide)).mpr k5, (cw_fo_F (by decide)).mpr k6, ⟨by omega, by omega⟩, ⟨by rw [← hnn]; exact o1, by rw [← hnn]; exact o2⟩, ?_, ?_⟩
  · rw [List.length_append, List.length_append]
    show u.length + 1 + 1 ≤ _
    omega
  · rw [ak_slo_app, ak_slo_app, sl]
    omega
theorem cw_mkr_x (htb : ak_tbOK ak_C0 tb) (hT : ak_Ty ak_C0 s h) (hI : cw_I X s h) {a b N : Nat} {fa : Nat → Int32} (qa : s[a]? = some 98) (qb : s[b]? = some 98) (fr : cw_F h 55 2 5 (.ref (52 + a))) (fm : cw_F h 55 2 6 (.ref (52 + b))) (aa : cw_A h a 0 N (.inl fa)) (hN : 64 ≤ N ∧ N ≤ 65536) {d kc ks n j : Nat} (hd : 2 ≤ d + 1) {x1 x2 x3 : Int32} (hx : x2.toInt = (n : Int)) (hn : N < n → n = N * 2 ^ j) (hj : N < n → 1 ≤ j) (hn2 : N < n → n ≤ 65536) : cw_W ak_C0 (fun s' _ h' => cw_I X s' h') tb d aj_m176 cw_n176 s h kc ks 29 [(3, .int x3), (2, .int x2), (0, .ref (52 + 55)), (1, .int x1)] [] := by
  have hB := hI.1
  refine cw_n aj_d176 rfl rfl ?_
  refine cw_n aj_d176 rfl rfl ?_
  refine cw_g (i := 55) (v := .ref (52 + a)) htb.1 aj_d176 rfl rfl (by decide) fr ?_
  refine cw_alen (i := a) htb.1 aj_d176 rfl aa (by decide) (by omega) (fun x4 ex4 => ?_)
  refine cw_c (tgt := 57) aj_d176 rfl rfl (fun q5 => ?_) (fun q5 => ?_)
  · have q5 : (n : Int) ≤ (N : Int) := aw_t_le (a := (n : Int)) (b := (N : Int)) hx ex4 q5
    refine cw_Wr aj_d176 rfl rfl hT ?_ ?_
    · exact hI
    · trivial
  · have q5 : (n : Int) > (N : Int) := aw_t_le (a := (n : Int)) (b := (N : Int)) hx ex4 q5
    refine cw_n aj_d176 rfl rfl ?_
    refine cw_n aj_d176 rfl rfl ?_
    refine cw_g (i := 55) (v := .ref (52 + a)) htb.1 aj_d176 rfl rfl (by decide) fr ?_
    refine cw_n aj_d176 rfl rfl ?_
    refine cw_ks (con' := cw_n177) aj_d176 hT rfl rfl rfl [_, _] rfl rfl (Nat.le_of_ble_eq_true rfl) ⟨by decide, by decide⟩ (cw_copyOf (n := n) htb hT (by omega) qa aa hx hN.1 (by omega) (hn2 (by omega))) ?_
    rintro u r h1 hT1 ⟨hs1, rfl, f', rfl⟩ _ _
    have hu : u = [98] := List.append_cancel_left hs1
    subst hu
    have q1 : (s ++ [98])[h.length]? = some 98 := cw_lastS hT
    have fr1 : cw_F (h ++ [.inl (0, n, .inl f')]) 55 2 5 (.ref (52 + a)) := cw_F_app fr
    have fm1 : cw_F (h ++ [.inl (0, n, .inl f')]) 55 2 6 (.ref (52 + b)) := cw_F_app fm
    have hB1 : cw_B (s ++ [98]) := cw_B_app hI.1 (by decide)
    have qb1 : (s ++ [98])[b]? = some 98 := cw_sapp qb
    have qa1 : (s ++ [98])[a]? = some 98 := cw_sapp qa
    show cw_W _ _ _ _ _ _ _ _ _ _ 47 [(3, .int x3), (2, .int x2), (0, .ref (52 + 55)), (1, .int x1)] [.ref (52 + h.length), .ref (52 + 55)]
    refine cw_p (i := 55) (t := 54) (c := 2) (k := 5) (v := .ref (52 + h.length)) (y := (.inr (some ([98], false)))) htb aj_d176 rfl rfl hT1 (cw_s0 hB1 rfl) rfl rfl rfl (cw_gR q1 (by decide) (by decide)) (by decide) rfl rfl (fun hT6 => ?_)
    have f7 : cw_F (cw_sf (h ++ [.inl (0, n, .inl f')]) 55 5 (.ref (52 + h.length))) 55 2 6 (.ref (52 + b)) := cw_sf_ne fm1 (Or.inr (by decide))
    have f8 : cw_F (cw_sf (h ++ [.inl (0, n, .inl f')]) 55 5 (.ref (52 + h.length))) 55 2 5 (.ref (52 + h.length)) := cw_sf_same fr1
    refine cw_n aj_d176 rfl rfl ?_
    refine cw_n aj_d176 rfl rfl ?_
    have hlen : (cw_sf (h ++ [.inl (0, n, .inl f')]) 55 5 (.ref (52 + h.length))).length = h.length + 1 := by rw [cw_len_sf, List.length_append]; rfl
    refine cw_newL htb.1 aj_d176 rfl hT6 rfl (n := n) hx ⟨by omega, hn2 (by omega)⟩ (fun hT5 => ?_)
    rw [hlen]
    have q5 : ((s ++ [98]) ++ [98])[h.length + 1]? = some 98 := by
      have := cw_lastS (t := 98) hT6
      rw [hlen] at this
      exact this
    have hB5 : cw_B ((s ++ [98]) ++ [98]) := cw_B_app hB1 (by decide)
    have fm5 : cw_F ((cw_sf (h ++ [.inl (0, n, .inl f')]) 55 5 (.ref (52 + h.length))) ++ [.inl (0, n, .inl (fun _ => 0))]) 55 2 6 (.ref (52 + b)) := cw_F_app f7
    have qb5 : ((s ++ [98]) ++ [98])[b]? = some 98 := cw_sapp qb1
    show cw_W _ _ _ _ _ _ _ _ _ _ 54 [(3, .int x3), (2, .int x2), (0, .ref (52 + 55)), (1, .int x1)] [.ref (52 + (h.length + 1)), .ref (52 + 55)]
    refine cw_p (i := 55) (t := 54) (c := 2) (k := 6) (v := .ref (52 + (h.length + 1))) (y := (.inr (some ([98], false)))) htb aj_d176 rfl rfl hT5 (cw_s0 hB5 rfl) rfl rfl rfl (cw_gR q5 (by decide) (by decide)) (by decide) rfl rfl (fun hT9 => ?_)
    have f10 : cw_F (cw_sf ((cw_sf (h ++ [.inl (0, n, .inl f')]) 55 5 (.ref (52 + h.length))) ++ [.inl (0, n, .inl (fun _ => 0))]) 55 6 (.ref (52 + (h.length + 1)))) 55 2 6 (.ref (52 + (h.length + 1))) := cw_sf_same fm5
    refine cw_Wr aj_d176 rfl rfl hT9 ?_ ?_
    · exact cw_I_grow rfl hI hT fr ⟨b, fm⟩ (Or.inr (cw_oa_n aa)) (hj (by omega)) (hn (by omega))
    · trivial
theorem cw_mkr_l {d : Nat} (hd : 2 ≤ d + 1) {x1 : Int32} : ∀ (m : Nat) (j : Nat) (htb : ak_tbOK ak_C0 tb) (hT : ak_Ty ak_C0 s h) (hI : cw_I X s h) {a b N : Nat} {fa : Nat → Int32} (qa : s[a]? = some 98) (qb : s[b]? = some 98) (fr : cw_F h 55 2 5 (.ref (52 + a))) (fm : cw_F h 55 2 6 (.ref (52 + b))) (aa : cw_A h a 0 N (.inl fa)) (hN : 64 ≤ N ∧ N ≤ 65536) {x2 x3 : Int32} {kc ks : Nat} (hx : x2.toInt = ((N * 2 ^ j : Nat) : Int)) (hb : j = 0 ∨ N * 2 ^ j ≤ 61500) (h1 : x1.toInt ≤ 30750), 16 - x3.toInt ≤ m → cw_W ak_C0 (fun s' _ h' => cw_I X s' h') tb d aj_m176 cw_n176 s h kc ks 8 [(3, .int x3), (2, .int x2), (0, .ref (52 + 55)), (1, .int x1)] [] := by
  intro m
  induction m with
  | zero =>
    intro j htb hT hI a b N fa qa qb fr fm aa hN x2 x3 kc ks hx hb h1 hm
    have hB := hI.1
    have b3 := cw_full x3
    refine cw_n aj_d176 rfl rfl ?_
    refine cw_n aj_d176 rfl rfl ?_
    refine cw_c (tgt := 29) aj_d176 rfl rfl (fun q11 => ?_) (fun q11 => ?_)
    · have q11 : x3.toInt ≥ (16 : Int) := aw_t_ge (a := x3.toInt) (b := (16 : Int)) rfl rfl q11
      exact cw_mkr_x htb hT hI qa qb fr fm aa hN hd (n := N * 2 ^ j) (j := j) hx (fun _ => rfl) (fun hlt => by
        rcases j with _ | j
        · rw [Nat.pow_zero] at hlt; omega
        · omega) (fun hlt => by
        rcases hb with rfl | hb
        · rw [Nat.pow_zero] at hlt; omega
        · omega)
    · have q11 : x3.toInt < (16 : Int) := aw_t_ge (a := x3.toInt) (b := (16 : Int)) rfl rfl q11
      exfalso
      omega
  | succ m ih =>
    intro j htb hT hI a b N fa qa qb fr fm aa hN x2 x3 kc ks hx hb h1 hm
    have hB := hI.1
    have b3 := cw_full x3
    refine cw_n aj_d176 rfl rfl ?_
    refine cw_n aj_d176 rfl rfl ?_
    refine cw_c (tgt := 29) aj_d176 rfl rfl (fun q12 => ?_) (fun q12 => ?_)
    · have q12 : x3.toInt ≥ (16 : Int) := aw_t_ge (a := x3.toInt) (b := (16 : Int)) rfl rfl q12
      exact cw_mkr_x htb hT hI qa qb fr fm aa hN hd (n := N * 2 ^ j) (j := j) hx (fun _ => rfl) (fun hlt => by
        rcases j with _ | j
        · rw [Nat.pow_zero] at hlt; omega
        · omega) (fun hlt => by
        rcases hb with rfl | hb
        · rw [Nat.pow_zero] at hlt; omega
        · omega)
    · have q12 : x3.toInt < (16 : Int) := aw_t_ge (a := x3.toInt) (b := (16 : Int)) rfl rfl q12
      refine cw_n aj_d176 rfl rfl ?_
      refine cw_n aj_d176 rfl rfl ?_
      refine cw_c (tgt := 29) aj_d176 rfl rfl (fun q13 => ?_) (fun q13 => ?_)
      · have q13 : ((N * 2 ^ j : Nat) : Int) ≥ x1.toInt := aw_t_ge (a := ((N * 2 ^ j : Nat) : Int)) (b := x1.toInt) hx rfl q13
        exact cw_mkr_x htb hT hI qa qb fr fm aa hN hd (n := N * 2 ^ j) (j := j) hx (fun _ => rfl) (fun hlt => by
          rcases j with _ | j
          · rw [Nat.pow_zero] at hlt; omega
          · omega) (fun hlt => by
          rcases hb with rfl | hb
          · rw [Nat.pow_zero] at hlt; omega
          · omega)
      · have q13 : ((N * 2 ^ j : Nat) : Int) < x1.toInt := aw_t_ge (a := ((N * 2 ^ j : Nat) : Int)) (b := x1.toInt) hx rfl q13
        refine cw_n aj_d176 rfl rfl ?_
        refine cw_n aj_d176 rfl rfl ?_
        refine cw_mul aj_d176 rfl (a := ((N * 2 ^ j : Nat) : Int)) (b := (2 : Int)) hx rfl (by omega) (by omega) (fun x14 ex14 => ?_)
        refine cw_n aj_d176 rfl rfl ?_
        show cw_W _ _ _ _ _ _ _ _ _ _ 23 [(2, .int x14), (3, .int x3), (0, .ref (52 + 55)), (1, .int x1)] []
        refine cw_inc aj_d176 rfl rfl (a := x3.toInt) rfl (by omega) (by omega) (by decide) (by decide) (fun x15 ex15 => ?_)
        show cw_W _ _ _ _ _ _ _ _ _ _ 26 [(3, .int x15), (2, .int x14), (0, .ref (52 + 55)), (1, .int x1)] []
        refine cw_n aj_d176 rfl rfl ?_
        refine ih (j + 1) htb hT hI qa qb fr fm aa hN (by rw [ex14, Nat.pow_succ, ← Nat.mul_assoc]; omega) (Or.inr (by rw [Nat.pow_succ, ← Nat.mul_assoc]; omega)) h1 (by omega)
theorem cw_mkr (htb : ak_tbOK ak_C0 tb) (hT : ak_Ty ak_C0 s h) (hI : cw_I X s h) {a b N : Nat} {fa : Nat → Int32} (qa : s[a]? = some 98) (qb : s[b]? = some 98) (fr : cw_F h 55 2 5 (.ref (52 + a))) (fm : cw_F h 55 2 6 (.ref (52 + b))) (aa : cw_A h a 0 N (.inl fa)) (hN : 64 ≤ N ∧ N ≤ 65536) (hd : 2 ≤ d) {x1 : Int32} (h1 : x1.toInt ≤ 30750) : cw_K ak_C0 (fun s' _ h' => cw_I X s' h') tb d cw_n176 [.ref (52 + 55), .int x1] s h := by
  obtain ⟨d, rfl⟩ : ∃ e, d = e + 1 := ⟨d - 1, by omega⟩
  have hB := hI.1
  refine cw_m (con := cw_n176) aj_m176_at (Nat.le_of_ble_eq_true rfl) ?_
  show cw_W _ _ _ _ _ _ _ _ _ _ 0 [(0, .ref (52 + 55)), (1, .int x1)] []
  refine cw_n aj_d176 rfl rfl ?_
  refine cw_g (i := 55) (v := .ref (52 + a)) htb.1 aj_d176 rfl rfl (by decide) fr ?_
  refine cw_alen (i := a) htb.1 aj_d176 rfl aa (by decide) (by omega) (fun x16 ex16 => ?_)
  refine cw_n aj_d176 rfl rfl ?_
  show cw_W _ _ _ _ _ _ _ _ _ _ 6 [(2, .int x16), (0, .ref (52 + 55)), (1, .int x1)] []
  refine cw_n aj_d176 rfl rfl ?_
  refine cw_n aj_d176 rfl rfl ?_
  show cw_W _ _ _ _ _ _ _ _ _ _ 8 [(3, .int (Int32.ofInt 0)), (2, .int x16), (0, .ref (52 + 55)), (1, .int x1)] []
  refine cw_mkr_l (by omega) 16 0 htb hT hI qa qb fr fm aa hN ?_ (Or.inl rfl) h1 (by decide)
  rw [Nat.pow_zero, Nat.mul_one]
  exact ex16
theorem cw_mkrC (htb : ak_tbOK ak_C0 tb) : ak_CT ak_C0 (cw_I X) cw_kap tb 2 ap_c176 := by
  refine cw_CT rfl (fun d hd s h as hT hI hA _ => ?_)
  obtain ⟨v0, as, rfl, g0, hA⟩ := cw_gAc hA
  obtain ⟨v1, as, rfl, g1, hA⟩ := cw_gAc hA
  cases cw_gAn hA
  obtain rfl := cw_gu (i := 55) hI.1 g0 (by decide) (by decide) (by decide)
  obtain ⟨x1, rfl, h1⟩ := ak_gi g1
  obtain ⟨w1, f1, k1⟩ := cw_tyF (i := 55) (t := 54) (c := 2) (k := 5) (y := .inr (some ([98], false))) hT (cw_s0 hI.1 rfl) rfl rfl rfl
  obtain ⟨a, rfl, qa⟩ := cw_gr k1 (by decide)
  obtain ⟨w2, f2, k2⟩ := cw_tyF (i := 55) (t := 54) (c := 2) (k := 6) (y := .inr (some ([98], false))) hT (cw_s0 hI.1 rfl) rfl rfl rfl
  obtain ⟨b, rfl, qb⟩ := cw_gr k2 (by decide)
  obtain ⟨N, x, aa, n1, n2, p⟩ := cw_tyA (t := 98) (kd := 0) (n1 := 64) (n2 := 65536) (y := .inl (-2147483648, 2147483647)) hT qa rfl
  obtain ⟨fa, rfl, -⟩ := cw_xi p
  exact cw_mkr htb hT hI qa qb f1 f2 aa ⟨n1, n2⟩ hd h1.2
theorem cw_I_swap {s : List Nat} {h : aj_H} {a b : Nat} (hI : cw_I X s h) (f5 : cw_F h 55 2 5 (.ref (52 + a))) (f6 : cw_F h 55 2 6 (.ref (52 + b))) : cw_I X s (cw_sf (cw_sf h 55 5 (.ref (52 + b))) 55 6 (.ref (52 + a))) := by
  have ex : cw_ex [55] (cw_o h) (cw_o (cw_sf (cw_sf h 55 5 (.ref (52 + b))) 55 6 (.ref (52 + a)))) := cw_ex_tr (cw_ex_sf (by decide)) (cw_ex_sf (by decide))
  obtain ⟨hB, hW, hD, hG, hH, hR⟩ := hI
  refine ⟨hB, cw_wds_ex ex (by decide) hW, cw_dis_ex ex (by decide) hD, cw_gd_ex ex (by decide) hG, cw_H_ex ex (by decide) hH, ?_⟩
  obtain ⟨u, t1, t2, t3, a', b', g', xa, xb, r1, r2, r3, r4, r5, r6, r7, r8, r9⟩ := hR
  have haa : a' = a := by
    have h0 : 52 + a' = 52 + a := Value.ref.inj (cw_F_u ((cw_fo_F (by decide)).mp r5) f5).2
    exact Nat.add_left_cancel h0
  have hbb : b' = b := by
    have h0 : 52 + b' = 52 + b := Value.ref.inj (cw_F_u ((cw_fo_F (by decide)).mp r6) f6).2
    exact Nat.add_left_cancel h0
  subst haa
  subst hbb
  have na : a' ∉ [55] := by
    intro z
    cases List.mem_singleton.mp z
    omega
  have nb : b' ∉ [55] := by
    intro z
    cases List.mem_singleton.mp z
    omega
  refine ⟨u, t1, t2, t3, b', a', g', xb, xa, r1, by rw [(ex 10 (by decide)).2]; exact r2, by rw [(ex 22 (by decide)).2]; exact r3, by rw [(ex 49 (by decide)).2]; exact r4, (cw_fo_F (by decide)).mpr (cw_sf_ne (cw_sf_same f5) (Or.inr (by decide))), (cw_fo_F (by decide)).mpr (cw_sf_same (cw_sf_ne f6 (Or.inr (by decide)))), ⟨r7.2, r7.1⟩, ⟨by rw [(ex b' nb).2]; exact r8.2, by rw [(ex a' na).2]; exact r8.1⟩, r9⟩
abbrev cw_n179 : ak_Con := ap_c179
theorem cw_mr_x (htb : ak_tbOK ak_C0 tb) {h0 : aj_H} (hI : cw_I X s h0) (hT : ak_Ty ak_C0 s h) (hE : cw_o h = cw_o h0) {lv : aj_V} {kc ks : Nat} {x4 x5 : Int32} (hl0 : aj_lv lv 0 = some (.ref (52 + 55))) (hl4 : aj_lv lv 4 = some (.int x4)) (hl5 : aj_lv lv 5 = some (.int x5)) (h5 : 0 ≤ x5.toInt ∧ x5.toInt ≤ 1024) : cw_W ak_C0 (fun s' _ h' => cw_I X s' h') tb d aj_m179 ap_c179 s h kc ks 114 lv [] := by
  have hB := hI.1
  refine cw_l2 aj_d179 rfl rfl hl0 ?_
  refine cw_l0 aj_d179 rfl rfl hl5 ?_
  refine cw_p (i := 55) (t := 54) (c := 2) (k := 8) (v := .int x5) (y := (.inl (0, 1024))) htb aj_d179 rfl rfl hT (cw_s0 hB rfl) rfl rfl rfl (cw_gw (a := x5.toInt) rfl (by omega) (by omega)) (by decide) rfl rfl (fun hT17 => ?_)
  obtain ⟨v18, f18, g18⟩ := cw_tyF (i := 55) (t := 54) (c := 2) (k := 8) (y := (.inl (0, 1024))) hT (cw_s0 hB rfl) rfl rfl rfl
  obtain ⟨x18, rfl, b18⟩ := ak_gi g18
  dsimp only [ak_win] at b18
  have f19 : cw_F (cw_sf h 55 8 (.int x5)) 55 2 8 (.int x5) := cw_sf_same f18
  refine cw_l2 aj_d179 rfl rfl hl0 ?_
  refine cw_l0 aj_d179 rfl rfl hl4 ?_
  refine cw_p (i := 55) (t := 54) (c := 2) (k := 3) (v := .int x4) (y := (.inl ((-2147483648), 2147483647))) htb aj_d179 rfl rfl hT17 (cw_s0 hB rfl) rfl rfl rfl (cw_full _) (by decide) rfl rfl (fun hT20 => ?_)
  obtain ⟨v21, f21, g21⟩ := cw_tyF (i := 55) (t := 54) (c := 2) (k := 3) (y := (.inl ((-2147483648), 2147483647))) hT17 (cw_s0 hB rfl) rfl rfl rfl
  obtain ⟨x21, rfl, b21⟩ := ak_gi g21
  dsimp only [ak_win] at b21
  have f22 : cw_F (cw_sf (cw_sf h 55 8 (.int x5)) 55 3 (.int x4)) 55 2 8 (.int x5) := cw_sf_ne f19 (Or.inr (by decide))
  have f23 : cw_F (cw_sf (cw_sf h 55 8 (.int x5)) 55 3 (.int x4)) 55 2 3 (.int x4) := cw_sf_same f21
  obtain ⟨v24, f24, g24⟩ := cw_tyF (i := 55) (t := 54) (c := 2) (k := 5) (y := (.inr (some ([98], false)))) hT20 (cw_s0 hB rfl) rfl rfl rfl
  obtain ⟨i24, rfl, q24⟩ := cw_gr g24 (by decide)
  obtain ⟨v25, f25, g25⟩ := cw_tyF (i := 55) (t := 54) (c := 2) (k := 6) (y := (.inr (some ([98], false)))) hT20 (cw_s0 hB rfl) rfl rfl rfl
  obtain ⟨i25, rfl, q25⟩ := cw_gr g25 (by decide)
  refine cw_l2 aj_d179 rfl rfl hl0 ?_
  refine cw_g (i := 55) (v := .ref (52 + i24)) htb.1 aj_d179 rfl rfl (by decide) f24 ?_
  refine cw_t2 (j := 6) aj_d179 rfl (by decide) rfl ?_
  obtain ⟨lv26, elv26⟩ : ∃ l, l = aj_set1 lv 6 (.ref (52 + i24)) := ⟨_, rfl⟩
  rw [← elv26]
  have hlv26_0 : aj_lv lv26 0 = some (.ref (52 + 55)) := cw_e1 elv26 hl0 (by decide) (Or.inl (by decide))
  have hlv26_4 : aj_lv lv26 4 = some (.int x4) := cw_e1 elv26 hl4 (by decide) (Or.inl (by decide))
  have hlv26_5 : aj_lv lv26 5 = some (.int x5) := cw_e1 elv26 hl5 (by decide) (Or.inr rfl)
  have hlv26_6 : aj_lv lv26 6 = some (.ref (52 + i24)) := by rw [elv26]; exact ak_set1_eq _ _ _
  show cw_W _ _ _ _ _ _ _ _ _ _ 132 lv26 []
  refine cw_l2 aj_d179 rfl rfl hlv26_0 ?_
  refine cw_l2 aj_d179 rfl rfl hlv26_0 ?_
  refine cw_g (i := 55) (v := .ref (52 + i25)) htb.1 aj_d179 rfl rfl (by decide) f25 ?_
  refine cw_p (i := 55) (t := 54) (c := 2) (k := 5) (v := .ref (52 + i25)) (y := (.inr (some ([98], false)))) htb aj_d179 rfl rfl hT20 (cw_s0 hB rfl) rfl rfl rfl (cw_gR q25 (by decide) (by decide)) (by decide) rfl rfl (fun hT27 => ?_)
  have f28 : cw_F (cw_sf (cw_sf (cw_sf h 55 8 (.int x5)) 55 3 (.int x4)) 55 5 (.ref (52 + i25))) 55 2 8 (.int x5) := cw_sf_ne f22 (Or.inr (by decide))
  have f29 : cw_F (cw_sf (cw_sf (cw_sf h 55 8 (.int x5)) 55 3 (.int x4)) 55 5 (.ref (52 + i25))) 55 2 3 (.int x4) := cw_sf_ne f23 (Or.inr (by decide))
  have f30 : cw_F (cw_sf (cw_sf (cw_sf h 55 8 (.int x5)) 55 3 (.int x4)) 55 5 (.ref (52 + i25))) 55 2 6 (.ref (52 + i25)) := cw_sf_ne f25 (Or.inr (by decide))
  have f31 : cw_F (cw_sf (cw_sf (cw_sf h 55 8 (.int x5)) 55 3 (.int x4)) 55 5 (.ref (52 + i25))) 55 2 5 (.ref (52 + i25)) := cw_sf_same f24
  refine cw_l2 aj_d179 rfl rfl hlv26_0 ?_
  refine cw_l2 aj_d179 rfl rfl hlv26_6 ?_
  refine cw_p (i := 55) (t := 54) (c := 2) (k := 6) (v := .ref (52 + i24)) (y := (.inr (some ([98], false)))) htb aj_d179 rfl rfl hT27 (cw_s0 hB rfl) rfl rfl rfl (cw_gR q24 (by decide) (by decide)) (by decide) rfl rfl (fun hT32 => ?_)
  have f33 : cw_F (cw_sf (cw_sf (cw_sf (cw_sf h 55 8 (.int x5)) 55 3 (.int x4)) 55 5 (.ref (52 + i25))) 55 6 (.ref (52 + i24))) 55 2 8 (.int x5) := cw_sf_ne f28 (Or.inr (by decide))
  have f34 : cw_F (cw_sf (cw_sf (cw_sf (cw_sf h 55 8 (.int x5)) 55 3 (.int x4)) 55 5 (.ref (52 + i25))) 55 6 (.ref (52 + i24))) 55 2 3 (.int x4) := cw_sf_ne f29 (Or.inr (by decide))
  have f35 : cw_F (cw_sf (cw_sf (cw_sf (cw_sf h 55 8 (.int x5)) 55 3 (.int x4)) 55 5 (.ref (52 + i25))) 55 6 (.ref (52 + i24))) 55 2 5 (.ref (52 + i25)) := cw_sf_ne f31 (Or.inr (by decide))
  have f36 : cw_F (cw_sf (cw_sf (cw_sf (cw_sf h 55 8 (.int x5)) 55 3 (.int x4)) 55 5 (.ref (52 + i25))) 55 6 (.ref (52 + i24))) 55 2 6 (.ref (52 + i24)) := cw_sf_same f30
  refine cw_Wr aj_d179 rfl rfl hT32 ?_ ?_
  · exact cw_I_swap (cw_I_eq ((cw_o_sf f21 (by decide)).trans ((cw_o_sf f18 (by decide)).trans hE)) hI) f24 f25
  · trivial
theorem cw_mr_l {d : Nat} (hd : 6 ≤ d + 1) : ∀ (n : Nat) (htb : ak_tbOK ak_C0 tb) {h0 : aj_H} (hI : cw_I X s h0) {i1 i2 : Nat} (q1 : s[i1]? = some 59) (q2 : s[i2]? = some 58) {h : aj_H} (hT : ak_Ty ak_C0 s h) (hE : cw_o h = cw_o h0) {lv : aj_V} {kc ks : Nat} {x3 x4 x5 x6 : Int32} (hl0 : aj_lv lv 0 = some (.ref (52 + 55))) (hl1 : aj_lv lv 1 = some (.ref (52 + i1))) (hl2 : aj_lv lv 2 = some (.ref (52 + i2))) (hl3 : aj_lv lv 3 = some (.int x3)) (hl4 : aj_lv lv 4 = some (.int x4)) (hl5 : aj_lv lv 5 = some (.int x5)) (hl6 : aj_lv lv 6 = some (.int x6)) (h5 : 0 ≤ x5.toInt) (h56 : x6.toInt = 2 * x5.toInt) (h6 : x6.toInt ≤ 1025), 1026 - x6.toInt ≤ n → cw_W ak_C0 (fun s' _ h' => cw_I X s' h') tb d aj_m179 ap_c179 s h kc ks 11 lv [] := by
  intro n
  induction n with
  | zero =>
    intro htb h0 hI i1 i2 q1 q2 h hT hE lv kc ks x3 x4 x5 x6 hl0 hl1 hl2 hl3 hl4 hl5 hl6 h5 h56 h6 hn
    exfalso
    omega
  | succ n ih =>
    intro htb h0 hI i1 i2 q1 q2 h hT hE lv kc ks x3 x4 x5 x6 hl0 hl1 hl2 hl3 hl4 hl5 hl6 h5 h56 h6 hn
    have hB := hI.1
    refine cw_l0 aj_d179 rfl rfl hl6 ?_
    refine cw_l2 aj_d179 rfl rfl hl0 ?_
    obtain ⟨v37, f37, g37⟩ := cw_tyF (i := 55) (t := 54) (c := 2) (k := 8) (y := (.inl (0, 1024))) hT (cw_s0 hB rfl) rfl rfl rfl
    obtain ⟨x37, rfl, b37⟩ := ak_gi g37
    dsimp only [ak_win] at b37
    refine cw_g (i := 55) (v := .int x37) htb.1 aj_d179 rfl rfl (by decide) f37 ?_
    refine cw_c (tgt := 114) aj_d179 rfl rfl (fun q38 => ?_) (fun q38 => ?_)
    · have q38 : x6.toInt ≥ x37.toInt := aw_t_ge (a := x6.toInt) (b := x37.toInt) rfl rfl q38
      exact cw_mr_x htb hI hT hE hl0 hl4 hl5 (by omega)
    · have q38 : x6.toInt < x37.toInt := aw_t_ge (a := x6.toInt) (b := x37.toInt) rfl rfl q38
      refine cw_l0 aj_d179 rfl rfl hl6 ?_
      refine cw_l2 aj_d179 rfl rfl hl0 ?_
      obtain ⟨v39, f39, g39⟩ := cw_tyF (i := 55) (t := 54) (c := 2) (k := 7) (y := (.inr (some ([99], false)))) hT (cw_s0 hB rfl) rfl rfl rfl
      obtain rfl := cw_gu (i := 58) hB g39 (by decide) (by decide) (by decide)
      refine cw_g (i := 55) (v := .ref (52 + 58)) htb.1 aj_d179 rfl rfl (by decide) f39 ?_
      obtain ⟨n41, z41, a41, p41l, p41r, p41⟩ := cw_tyA (i := 58) (t := 99) (kd := 0) (n1 := 1024) (n2 := 1024) (y := (.inl ((-2147483648), 2147483647))) hT (cw_s0 hB rfl) rfl
      obtain rfl : n41 = 1024 := Nat.le_antisymm p41r p41l
      obtain ⟨fn41, rfl, p41c⟩ := cw_xi p41
      refine cw_alen (i := 58) htb.1 aj_d179 rfl a41 (by decide) (by omega) (fun x40 ex40 => ?_)
      refine cw_c (tgt := 114) aj_d179 rfl rfl (fun q42 => ?_) (fun q42 => ?_)
      · have q42 : x6.toInt ≥ (1024 : Int) := aw_t_ge (a := x6.toInt) (b := (1024 : Int)) rfl ex40 q42
        exact cw_mr_x htb hI hT hE hl0 hl4 hl5 (by omega)
      · have q42 : x6.toInt < (1024 : Int) := aw_t_ge (a := x6.toInt) (b := (1024 : Int)) rfl ex40 q42
        refine cw_l2 aj_d179 rfl rfl hl0 ?_
        refine cw_g (i := 55) (v := .ref (52 + 58)) htb.1 aj_d179 rfl rfl (by decide) f39 ?_
        refine cw_l0 aj_d179 rfl rfl hl6 ?_
        refine cw_ld (i := 58) htb.1 aj_d179 (Or.inl ⟨rfl, rfl⟩) rfl a41 (a := x6.toInt) rfl (by omega) (by omega) (fun x43 ex43 => ?_)
        refine cw_t0 (j := 7) aj_d179 rfl (by decide) rfl ?_
        obtain ⟨lv44, elv44⟩ : ∃ l, l = aj_set1 lv 7 (.int x43) := ⟨_, rfl⟩
        rw [← elv44]
        have hlv44_0 : aj_lv lv44 0 = some (.ref (52 + 55)) := cw_e1 elv44 hl0 (by decide) (Or.inl (by decide))
        have hlv44_1 : aj_lv lv44 1 = some (.ref (52 + i1)) := cw_e1 elv44 hl1 (by decide) (Or.inl (by decide))
        have hlv44_2 : aj_lv lv44 2 = some (.ref (52 + i2)) := cw_e1 elv44 hl2 (by decide) (Or.inl (by decide))
        have hlv44_3 : aj_lv lv44 3 = some (.int x3) := cw_e1 elv44 hl3 (by decide) (Or.inl (by decide))
        have hlv44_4 : aj_lv lv44 4 = some (.int x4) := cw_e1 elv44 hl4 (by decide) (Or.inl (by decide))
        have hlv44_5 : aj_lv lv44 5 = some (.int x5) := cw_e1 elv44 hl5 (by decide) (Or.inl (by decide))
        have hlv44_6 : aj_lv lv44 6 = some (.int x6) := cw_e1 elv44 hl6 (by decide) (Or.inr rfl)
        have hlv44_7 : aj_lv lv44 7 = some (.int x43) := by rw [elv44]; exact ak_set1_eq _ _ _
        show cw_W _ _ _ _ _ _ _ _ _ _ 39 lv44 []
        refine cw_l0 aj_d179 rfl rfl hlv44_6 ?_
        refine cw_n aj_d179 rfl rfl ?_
        refine cw_add aj_d179 rfl (a := x6.toInt) (b := (1 : Int)) rfl rfl (by omega) (by omega) (fun x45 ex45 => ?_)
        refine cw_l2 aj_d179 rfl rfl hlv44_0 ?_
        refine cw_g (i := 55) (v := .int x37) htb.1 aj_d179 rfl rfl (by decide) f37 ?_
        refine cw_c (tgt := 74) aj_d179 rfl rfl (fun q46 => ?_) (fun q46 => ?_)
        · have q46 : x45.toInt ≥ x37.toInt := aw_t_ge (a := x45.toInt) (b := x37.toInt) rfl rfl q46
          refine cw_l0 aj_d179 rfl rfl hlv44_7 ?_
          refine cw_t0 (j := 8) aj_d179 rfl (by decide) rfl ?_
          obtain ⟨lv47, elv47⟩ : ∃ l, l = aj_set1 lv44 8 (.int x43) := ⟨_, rfl⟩
          rw [← elv47]
          have hlv47_7 : aj_lv lv47 7 = some (.int x43) := cw_e1 elv47 hlv44_7 (by decide) (Or.inr rfl)
          have hlv47_0 : aj_lv lv47 0 = some (.ref (52 + 55)) := cw_e1 elv47 hlv44_0 (by decide) (Or.inl (by decide))
          have hlv47_1 : aj_lv lv47 1 = some (.ref (52 + i1)) := cw_e1 elv47 hlv44_1 (by decide) (Or.inl (by decide))
          have hlv47_2 : aj_lv lv47 2 = some (.ref (52 + i2)) := cw_e1 elv47 hlv44_2 (by decide) (Or.inl (by decide))
          have hlv47_3 : aj_lv lv47 3 = some (.int x3) := cw_e1 elv47 hlv44_3 (by decide) (Or.inl (by decide))
          have hlv47_4 : aj_lv lv47 4 = some (.int x4) := cw_e1 elv47 hlv44_4 (by decide) (Or.inl (by decide))
          have hlv47_5 : aj_lv lv47 5 = some (.int x5) := cw_e1 elv47 hlv44_5 (by decide) (Or.inl (by decide))
          have hlv47_6 : aj_lv lv47 6 = some (.int x6) := cw_e1 elv47 hlv44_6 (by decide) (Or.inl (by decide))
          have hlv47_8 : aj_lv lv47 8 = some (.int x43) := by rw [elv47]; exact ak_set1_eq _ _ _
          show cw_W _ _ _ _ _ _ _ _ _ _ 78 lv47 []
          refine cw_l2 aj_d179 rfl rfl hlv47_0 ?_
          refine cw_l2 aj_d179 rfl rfl hlv47_1 ?_
          refine cw_l2 aj_d179 rfl rfl hlv47_2 ?_
          refine cw_l0 aj_d179 rfl rfl hlv47_3 ?_
          refine cw_l0 aj_d179 rfl rfl hlv47_7 ?_
          refine cw_l0 aj_d179 rfl rfl hlv47_8 ?_
          refine cw_l0 aj_d179 rfl rfl hlv47_4 ?_
          refine cw_k0 (i := 55) (t := 54) (con' := ap_c180) aj_d179 htb hT rfl rfl [_, _, _, _, _, _] rfl rfl (cw_s0 hB rfl) rfl (Nat.le_of_ble_eq_true rfl) ⟨by decide, by decide⟩ (cw_merge htb hT hB (by omega) q1 q2 x3 x43 x43 x4) ?_
          rintro rh48 h48 hT49 hoh48 hRh48
          obtain ⟨xh48, rfl, bh48⟩ := cw_rI hRh48
          show cw_W _ _ _ _ _ _ _ _ _ _ 91 lv47 [.int xh48]
          refine cw_t0 (j := 4) aj_d179 rfl (by decide) rfl ?_
          obtain ⟨lv50, elv50⟩ : ∃ l, l = aj_set1 lv47 4 (.int xh48) := ⟨_, rfl⟩
          rw [← elv50]
          have hlv50_8 : aj_lv lv50 8 = some (.int x43) := cw_e1 elv50 hlv47_8 (by decide) (Or.inl (by decide))
          have hlv50_7 : aj_lv lv50 7 = some (.int x43) := cw_e1 elv50 hlv47_7 (by decide) (Or.inl (by decide))
          have hlv50_0 : aj_lv lv50 0 = some (.ref (52 + 55)) := cw_e1 elv50 hlv47_0 (by decide) (Or.inl (by decide))
          have hlv50_1 : aj_lv lv50 1 = some (.ref (52 + i1)) := cw_e1 elv50 hlv47_1 (by decide) (Or.inl (by decide))
          have hlv50_2 : aj_lv lv50 2 = some (.ref (52 + i2)) := cw_e1 elv50 hlv47_2 (by decide) (Or.inl (by decide))
          have hlv50_3 : aj_lv lv50 3 = some (.int x3) := cw_e1 elv50 hlv47_3 (by decide) (Or.inr rfl)
          have hlv50_5 : aj_lv lv50 5 = some (.int x5) := cw_e1 elv50 hlv47_5 (by decide) (Or.inl (by decide))
          have hlv50_6 : aj_lv lv50 6 = some (.int x6) := cw_e1 elv50 hlv47_6 (by decide) (Or.inl (by decide))
          have hlv50_4 : aj_lv lv50 4 = some (.int xh48) := by rw [elv50]; exact ak_set1_eq _ _ _
          show cw_W _ _ _ _ _ _ _ _ _ _ 93 lv50 []
          refine cw_l0 aj_d179 rfl rfl hlv50_8 ?_
          refine cw_t0 (j := 3) aj_d179 rfl (by decide) rfl ?_
          obtain ⟨lv51, elv51⟩ : ∃ l, l = aj_set1 lv50 3 (.int x43) := ⟨_, rfl⟩
          rw [← elv51]
          have hlv51_4 : aj_lv lv51 4 = some (.int xh48) := cw_e1 elv51 hlv50_4 (by decide) (Or.inl (by decide))
          have hlv51_8 : aj_lv lv51 8 = some (.int x43) := cw_e1 elv51 hlv50_8 (by decide) (Or.inl (by decide))
          have hlv51_7 : aj_lv lv51 7 = some (.int x43) := cw_e1 elv51 hlv50_7 (by decide) (Or.inl (by decide))
          have hlv51_0 : aj_lv lv51 0 = some (.ref (52 + 55)) := cw_e1 elv51 hlv50_0 (by decide) (Or.inl (by decide))
          have hlv51_1 : aj_lv lv51 1 = some (.ref (52 + i1)) := cw_e1 elv51 hlv50_1 (by decide) (Or.inl (by decide))
          have hlv51_2 : aj_lv lv51 2 = some (.ref (52 + i2)) := cw_e1 elv51 hlv50_2 (by decide) (Or.inr rfl)
          have hlv51_5 : aj_lv lv51 5 = some (.int x5) := cw_e1 elv51 hlv50_5 (by decide) (Or.inl (by decide))
          have hlv51_6 : aj_lv lv51 6 = some (.int x6) := cw_e1 elv51 hlv50_6 (by decide) (Or.inl (by decide))
          have hlv51_3 : aj_lv lv51 3 = some (.int x43) := by rw [elv51]; exact ak_set1_eq _ _ _
          show cw_W _ _ _ _ _ _ _ _ _ _ 96 lv51 []
          refine cw_l2 aj_d179 rfl rfl hlv51_0 ?_
          obtain ⟨v52, f52, g52⟩ := cw_tyF (i := 55) (t := 54) (c := 2) (k := 7) (y := (.inr (some ([99], false)))) hT49 (cw_s0 hB rfl) rfl rfl rfl
          obtain rfl := cw_gu (i := 58) hB g52 (by decide) (by decide) (by decide)
          refine cw_g (i := 55) (v := .ref (52 + 58)) htb.1 aj_d179 rfl rfl (by decide) f52 ?_
          refine cw_l0 aj_d179 rfl rfl hlv51_5 ?_
          refine cw_l0 aj_d179 rfl rfl hlv51_4 ?_
          obtain ⟨n53, z53, a53, p53l, p53r, p53⟩ := cw_tyA (i := 58) (t := 99) (kd := 0) (n1 := 1024) (n2 := 1024) (y := (.inl ((-2147483648), 2147483647))) hT49 (cw_s0 hB rfl) rfl
          obtain rfl : n53 = 1024 := Nat.le_antisymm p53r p53l
          obtain ⟨fn53, rfl, p53c⟩ := cw_xi p53
          refine cw_st (i := 58) htb aj_d179 (Or.inl ⟨rfl, rfl⟩) rfl a53 hT49 (cw_s0 hB rfl) rfl (by decide) (a := x5.toInt) rfl (by omega) (by omega) (cw_full _) (fun hT54 => ?_)
          have f55 : cw_F (cw_sa h48 58 (.inl (upd fn53 (x5.toInt).toNat (aj_nar 0 xh48)))) 55 2 7 (.ref (52 + 58)) := cw_sa_F f52
          have a56 : cw_A (cw_sa h48 58 (.inl (upd fn53 (x5.toInt).toNat (aj_nar 0 xh48)))) 58 0 1024 (.inl (upd fn53 (x5.toInt).toNat (aj_nar 0 xh48))) := cw_sa_same a53
          refine cw_inc aj_d179 rfl hlv51_5 (a := x5.toInt) rfl (by omega) (by omega) (by decide) (by decide) (fun x57 ex57 => ?_)
          obtain ⟨lv58, elv58⟩ : ∃ l, l = aj_set1 lv51 5 (.int x57) := ⟨_, rfl⟩
          rw [← elv58]
          have hlv58_3 : aj_lv lv58 3 = some (.int x43) := cw_e1 elv58 hlv51_3 (by decide) (Or.inl (by decide))
          have hlv58_4 : aj_lv lv58 4 = some (.int xh48) := cw_e1 elv58 hlv51_4 (by decide) (Or.inr rfl)
          have hlv58_8 : aj_lv lv58 8 = some (.int x43) := cw_e1 elv58 hlv51_8 (by decide) (Or.inl (by decide))
          have hlv58_7 : aj_lv lv58 7 = some (.int x43) := cw_e1 elv58 hlv51_7 (by decide) (Or.inl (by decide))
          have hlv58_0 : aj_lv lv58 0 = some (.ref (52 + 55)) := cw_e1 elv58 hlv51_0 (by decide) (Or.inl (by decide))
          have hlv58_1 : aj_lv lv58 1 = some (.ref (52 + i1)) := cw_e1 elv58 hlv51_1 (by decide) (Or.inl (by decide))
          have hlv58_2 : aj_lv lv58 2 = some (.ref (52 + i2)) := cw_e1 elv58 hlv51_2 (by decide) (Or.inl (by decide))
          have hlv58_6 : aj_lv lv58 6 = some (.int x6) := cw_e1 elv58 hlv51_6 (by decide) (Or.inl (by decide))
          have hlv58_5 : aj_lv lv58 5 = some (.int x57) := by rw [elv58]; exact ak_set1_eq _ _ _
          show cw_W _ _ _ _ _ _ _ _ _ _ 108 lv58 []
          refine cw_inc aj_d179 rfl hlv58_6 (a := x6.toInt) rfl (by omega) (by omega) (by decide) (by decide) (fun x59 ex59 => ?_)
          obtain ⟨lv60, elv60⟩ : ∃ l, l = aj_set1 lv58 6 (.int x59) := ⟨_, rfl⟩
          rw [← elv60]
          have hlv60_5 : aj_lv lv60 5 = some (.int x57) := cw_e1 elv60 hlv58_5 (by decide) (Or.inr rfl)
          have hlv60_3 : aj_lv lv60 3 = some (.int x43) := cw_e1 elv60 hlv58_3 (by decide) (Or.inl (by decide))
          have hlv60_4 : aj_lv lv60 4 = some (.int xh48) := cw_e1 elv60 hlv58_4 (by decide) (Or.inl (by decide))
          have hlv60_8 : aj_lv lv60 8 = some (.int x43) := cw_e1 elv60 hlv58_8 (by decide) (Or.inl (by decide))
          have hlv60_7 : aj_lv lv60 7 = some (.int x43) := cw_e1 elv60 hlv58_7 (by decide) (Or.inl (by decide))
          have hlv60_0 : aj_lv lv60 0 = some (.ref (52 + 55)) := cw_e1 elv60 hlv58_0 (by decide) (Or.inl (by decide))
          have hlv60_1 : aj_lv lv60 1 = some (.ref (52 + i1)) := cw_e1 elv60 hlv58_1 (by decide) (Or.inl (by decide))
          have hlv60_2 : aj_lv lv60 2 = some (.ref (52 + i2)) := cw_e1 elv60 hlv58_2 (by decide) (Or.inl (by decide))
          have hlv60_6 : aj_lv lv60 6 = some (.int x59) := by rw [elv60]; exact ak_set1_eq _ _ _
          show cw_W _ _ _ _ _ _ _ _ _ _ 111 lv60 []
          refine cw_n aj_d179 rfl rfl ?_
          exact ih htb hI q1 q2 hT54 ((cw_o_sa a53 (by decide)).trans (hoh48.trans hE)) hlv60_0 hlv60_1 hlv60_2 hlv60_3 hlv60_4 hlv60_5 hlv60_6 (by omega) (by omega) (by omega) (by omega)
        · have q46 : x45.toInt < x37.toInt := aw_t_ge (a := x45.toInt) (b := x37.toInt) rfl rfl q46
          refine cw_l0 aj_d179 rfl rfl hlv44_6 ?_
          refine cw_n aj_d179 rfl rfl ?_
          refine cw_add aj_d179 rfl (a := x6.toInt) (b := (1 : Int)) rfl rfl (by omega) (by omega) (fun x61 ex61 => ?_)
          refine cw_l2 aj_d179 rfl rfl hlv44_0 ?_
          refine cw_g (i := 55) (v := .ref (52 + 58)) htb.1 aj_d179 rfl rfl (by decide) f39 ?_
          refine cw_alen (i := 58) htb.1 aj_d179 rfl a41 (by decide) (by omega) (fun x62 ex62 => ?_)
          refine cw_c (tgt := 74) aj_d179 rfl rfl (fun q63 => ?_) (fun q63 => ?_)
          · have q63 : x61.toInt ≥ (1024 : Int) := aw_t_ge (a := x61.toInt) (b := (1024 : Int)) rfl ex62 q63
            refine cw_l0 aj_d179 rfl rfl hlv44_7 ?_
            refine cw_t0 (j := 8) aj_d179 rfl (by decide) rfl ?_
            obtain ⟨lv64, elv64⟩ : ∃ l, l = aj_set1 lv44 8 (.int x43) := ⟨_, rfl⟩
            rw [← elv64]
            have hlv64_7 : aj_lv lv64 7 = some (.int x43) := cw_e1 elv64 hlv44_7 (by decide) (Or.inr rfl)
            have hlv64_0 : aj_lv lv64 0 = some (.ref (52 + 55)) := cw_e1 elv64 hlv44_0 (by decide) (Or.inl (by decide))
            have hlv64_1 : aj_lv lv64 1 = some (.ref (52 + i1)) := cw_e1 elv64 hlv44_1 (by decide) (Or.inl (by decide))
            have hlv64_2 : aj_lv lv64 2 = some (.ref (52 + i2)) := cw_e1 elv64 hlv44_2 (by decide) (Or.inl (by decide))
            have hlv64_3 : aj_lv lv64 3 = some (.int x3) := cw_e1 elv64 hlv44_3 (by decide) (Or.inl (by decide))
            have hlv64_4 : aj_lv lv64 4 = some (.int x4) := cw_e1 elv64 hlv44_4 (by decide) (Or.inl (by decide))
            have hlv64_5 : aj_lv lv64 5 = some (.int x5) := cw_e1 elv64 hlv44_5 (by decide) (Or.inl (by decide))
            have hlv64_6 : aj_lv lv64 6 = some (.int x6) := cw_e1 elv64 hlv44_6 (by decide) (Or.inl (by decide))
            have hlv64_8 : aj_lv lv64 8 = some (.int x43) := by rw [elv64]; exact ak_set1_eq _ _ _
            show cw_W _ _ _ _ _ _ _ _ _ _ 78 lv64 []
            refine cw_l2 aj_d179 rfl rfl hlv64_0 ?_
            refine cw_l2 aj_d179 rfl rfl hlv64_1 ?_
            refine cw_l2 aj_d179 rfl rfl hlv64_2 ?_
            refine cw_l0 aj_d179 rfl rfl hlv64_3 ?_
            refine cw_l0 aj_d179 rfl rfl hlv64_7 ?_
            refine cw_l0 aj_d179 rfl rfl hlv64_8 ?_
            refine cw_l0 aj_d179 rfl rfl hlv64_4 ?_
            refine cw_k0 (i := 55) (t := 54) (con' := ap_c180) aj_d179 htb hT rfl rfl [_, _, _, _, _, _] rfl rfl (cw_s0 hB rfl) rfl (Nat.le_of_ble_eq_true rfl) ⟨by decide, by decide⟩ (cw_merge htb hT hB (by omega) q1 q2 x3 x43 x43 x4) ?_
            rintro rh65 h65 hT66 hoh65 hRh65
            obtain ⟨xh65, rfl, bh65⟩ := cw_rI hRh65
            show cw_W _ _ _ _ _ _ _ _ _ _ 91 lv64 [.int xh65]
            refine cw_t0 (j := 4) aj_d179 rfl (by decide) rfl ?_
            obtain ⟨lv67, elv67⟩ : ∃ l, l = aj_set1 lv64 4 (.int xh65) := ⟨_, rfl⟩
            rw [← elv67]
            have hlv67_8 : aj_lv lv67 8 = some (.int x43) := cw_e1 elv67 hlv64_8 (by decide) (Or.inl (by decide))
            have hlv67_7 : aj_lv lv67 7 = some (.int x43) := cw_e1 elv67 hlv64_7 (by decide) (Or.inl (by decide))
            have hlv67_0 : aj_lv lv67 0 = some (.ref (52 + 55)) := cw_e1 elv67 hlv64_0 (by decide) (Or.inl (by decide))
            have hlv67_1 : aj_lv lv67 1 = some (.ref (52 + i1)) := cw_e1 elv67 hlv64_1 (by decide) (Or.inl (by decide))
            have hlv67_2 : aj_lv lv67 2 = some (.ref (52 + i2)) := cw_e1 elv67 hlv64_2 (by decide) (Or.inl (by decide))
            have hlv67_3 : aj_lv lv67 3 = some (.int x3) := cw_e1 elv67 hlv64_3 (by decide) (Or.inr rfl)
            have hlv67_5 : aj_lv lv67 5 = some (.int x5) := cw_e1 elv67 hlv64_5 (by decide) (Or.inl (by decide))
            have hlv67_6 : aj_lv lv67 6 = some (.int x6) := cw_e1 elv67 hlv64_6 (by decide) (Or.inl (by decide))
            have hlv67_4 : aj_lv lv67 4 = some (.int xh65) := by rw [elv67]; exact ak_set1_eq _ _ _
            show cw_W _ _ _ _ _ _ _ _ _ _ 93 lv67 []
            refine cw_l0 aj_d179 rfl rfl hlv67_8 ?_
            refine cw_t0 (j := 3) aj_d179 rfl (by decide) rfl ?_
            obtain ⟨lv68, elv68⟩ : ∃ l, l = aj_set1 lv67 3 (.int x43) := ⟨_, rfl⟩
            rw [← elv68]
            have hlv68_4 : aj_lv lv68 4 = some (.int xh65) := cw_e1 elv68 hlv67_4 (by decide) (Or.inl (by decide))
            have hlv68_8 : aj_lv lv68 8 = some (.int x43) := cw_e1 elv68 hlv67_8 (by decide) (Or.inl (by decide))
            have hlv68_7 : aj_lv lv68 7 = some (.int x43) := cw_e1 elv68 hlv67_7 (by decide) (Or.inl (by decide))
            have hlv68_0 : aj_lv lv68 0 = some (.ref (52 + 55)) := cw_e1 elv68 hlv67_0 (by decide) (Or.inl (by decide))
            have hlv68_1 : aj_lv lv68 1 = some (.ref (52 + i1)) := cw_e1 elv68 hlv67_1 (by decide) (Or.inl (by decide))
            have hlv68_2 : aj_lv lv68 2 = some (.ref (52 + i2)) := cw_e1 elv68 hlv67_2 (by decide) (Or.inr rfl)
            have hlv68_5 : aj_lv lv68 5 = some (.int x5) := cw_e1 elv68 hlv67_5 (by decide) (Or.inl (by decide))
            have hlv68_6 : aj_lv lv68 6 = some (.int x6) := cw_e1 elv68 hlv67_6 (by decide) (Or.inl (by decide))
            have hlv68_3 : aj_lv lv68 3 = some (.int x43) := by rw [elv68]; exact ak_set1_eq _ _ _
            show cw_W _ _ _ _ _ _ _ _ _ _ 96 lv68 []
            refine cw_l2 aj_d179 rfl rfl hlv68_0 ?_
            obtain ⟨v69, f69, g69⟩ := cw_tyF (i := 55) (t := 54) (c := 2) (k := 7) (y := (.inr (some ([99], false)))) hT66 (cw_s0 hB rfl) rfl rfl rfl
            obtain rfl := cw_gu (i := 58) hB g69 (by decide) (by decide) (by decide)
            refine cw_g (i := 55) (v := .ref (52 + 58)) htb.1 aj_d179 rfl rfl (by decide) f69 ?_
            refine cw_l0 aj_d179 rfl rfl hlv68_5 ?_
            refine cw_l0 aj_d179 rfl rfl hlv68_4 ?_
            obtain ⟨n70, z70, a70, p70l, p70r, p70⟩ := cw_tyA (i := 58) (t := 99) (kd := 0) (n1 := 1024) (n2 := 1024) (y := (.inl ((-2147483648), 2147483647))) hT66 (cw_s0 hB rfl) rfl
            obtain rfl : n70 = 1024 := Nat.le_antisymm p70r p70l
            obtain ⟨fn70, rfl, p70c⟩ := cw_xi p70
            refine cw_st (i := 58) htb aj_d179 (Or.inl ⟨rfl, rfl⟩) rfl a70 hT66 (cw_s0 hB rfl) rfl (by decide) (a := x5.toInt) rfl (by omega) (by omega) (cw_full _) (fun hT71 => ?_)
            have f72 : cw_F (cw_sa h65 58 (.inl (upd fn70 (x5.toInt).toNat (aj_nar 0 xh65)))) 55 2 7 (.ref (52 + 58)) := cw_sa_F f69
            have a73 : cw_A (cw_sa h65 58 (.inl (upd fn70 (x5.toInt).toNat (aj_nar 0 xh65)))) 58 0 1024 (.inl (upd fn70 (x5.toInt).toNat (aj_nar 0 xh65))) := cw_sa_same a70
            refine cw_inc aj_d179 rfl hlv68_5 (a := x5.toInt) rfl (by omega) (by omega) (by decide) (by decide) (fun x74 ex74 => ?_)
            obtain ⟨lv75, elv75⟩ : ∃ l, l = aj_set1 lv68 5 (.int x74) := ⟨_, rfl⟩
            rw [← elv75]
            have hlv75_3 : aj_lv lv75 3 = some (.int x43) := cw_e1 elv75 hlv68_3 (by decide) (Or.inl (by decide))
            have hlv75_4 : aj_lv lv75 4 = some (.int xh65) := cw_e1 elv75 hlv68_4 (by decide) (Or.inr rfl)
            have hlv75_8 : aj_lv lv75 8 = some (.int x43) := cw_e1 elv75 hlv68_8 (by decide) (Or.inl (by decide))
            have hlv75_7 : aj_lv lv75 7 = some (.int x43) := cw_e1 elv75 hlv68_7 (by decide) (Or.inl (by decide))
            have hlv75_0 : aj_lv lv75 0 = some (.ref (52 + 55)) := cw_e1 elv75 hlv68_0 (by decide) (Or.inl (by decide))
            have hlv75_1 : aj_lv lv75 1 = some (.ref (52 + i1)) := cw_e1 elv75 hlv68_1 (by decide) (Or.inl (by decide))
            have hlv75_2 : aj_lv lv75 2 = some (.ref (52 + i2)) := cw_e1 elv75 hlv68_2 (by decide) (Or.inl (by decide))
            have hlv75_6 : aj_lv lv75 6 = some (.int x6) := cw_e1 elv75 hlv68_6 (by decide) (Or.inl (by decide))
            have hlv75_5 : aj_lv lv75 5 = some (.int x74) := by rw [elv75]; exact ak_set1_eq _ _ _
            show cw_W _ _ _ _ _ _ _ _ _ _ 108 lv75 []
            refine cw_inc aj_d179 rfl hlv75_6 (a := x6.toInt) rfl (by omega) (by omega) (by decide) (by decide) (fun x76 ex76 => ?_)
            obtain ⟨lv77, elv77⟩ : ∃ l, l = aj_set1 lv75 6 (.int x76) := ⟨_, rfl⟩
            rw [← elv77]
            have hlv77_5 : aj_lv lv77 5 = some (.int x74) := cw_e1 elv77 hlv75_5 (by decide) (Or.inr rfl)
            have hlv77_3 : aj_lv lv77 3 = some (.int x43) := cw_e1 elv77 hlv75_3 (by decide) (Or.inl (by decide))
            have hlv77_4 : aj_lv lv77 4 = some (.int xh65) := cw_e1 elv77 hlv75_4 (by decide) (Or.inl (by decide))
            have hlv77_8 : aj_lv lv77 8 = some (.int x43) := cw_e1 elv77 hlv75_8 (by decide) (Or.inl (by decide))
            have hlv77_7 : aj_lv lv77 7 = some (.int x43) := cw_e1 elv77 hlv75_7 (by decide) (Or.inl (by decide))
            have hlv77_0 : aj_lv lv77 0 = some (.ref (52 + 55)) := cw_e1 elv77 hlv75_0 (by decide) (Or.inl (by decide))
            have hlv77_1 : aj_lv lv77 1 = some (.ref (52 + i1)) := cw_e1 elv77 hlv75_1 (by decide) (Or.inl (by decide))
            have hlv77_2 : aj_lv lv77 2 = some (.ref (52 + i2)) := cw_e1 elv77 hlv75_2 (by decide) (Or.inl (by decide))
            have hlv77_6 : aj_lv lv77 6 = some (.int x76) := by rw [elv77]; exact ak_set1_eq _ _ _
            show cw_W _ _ _ _ _ _ _ _ _ _ 111 lv77 []
            refine cw_n aj_d179 rfl rfl ?_
            exact ih htb hI q1 q2 hT71 ((cw_o_sa a70 (by decide)).trans (hoh65.trans hE)) hlv77_0 hlv77_1 hlv77_2 hlv77_3 hlv77_4 hlv77_5 hlv77_6 (by omega) (by omega) (by omega) (by omega)
          · have q63 : x61.toInt < (1024 : Int) := aw_t_ge (a := x61.toInt) (b := (1024 : Int)) rfl ex62 q63
            refine cw_l2 aj_d179 rfl rfl hlv44_0 ?_
            refine cw_g (i := 55) (v := .ref (52 + 58)) htb.1 aj_d179 rfl rfl (by decide) f39 ?_
            refine cw_l0 aj_d179 rfl rfl hlv44_6 ?_
            refine cw_n aj_d179 rfl rfl ?_
            refine cw_add aj_d179 rfl (a := x6.toInt) (b := (1 : Int)) rfl rfl (by omega) (by omega) (fun x78 ex78 => ?_)
            refine cw_ld (i := 58) htb.1 aj_d179 (Or.inl ⟨rfl, rfl⟩) rfl a41 (a := x78.toInt) rfl (by omega) (by omega) (fun x79 ex79 => ?_)
            refine cw_n aj_d179 rfl rfl ?_
            refine cw_t0 (j := 8) aj_d179 rfl (by decide) rfl ?_
            obtain ⟨lv80, elv80⟩ : ∃ l, l = aj_set1 lv44 8 (.int x79) := ⟨_, rfl⟩
            rw [← elv80]
            have hlv80_7 : aj_lv lv80 7 = some (.int x43) := cw_e1 elv80 hlv44_7 (by decide) (Or.inr rfl)
            have hlv80_0 : aj_lv lv80 0 = some (.ref (52 + 55)) := cw_e1 elv80 hlv44_0 (by decide) (Or.inl (by decide))
            have hlv80_1 : aj_lv lv80 1 = some (.ref (52 + i1)) := cw_e1 elv80 hlv44_1 (by decide) (Or.inl (by decide))
            have hlv80_2 : aj_lv lv80 2 = some (.ref (52 + i2)) := cw_e1 elv80 hlv44_2 (by decide) (Or.inl (by decide))
            have hlv80_3 : aj_lv lv80 3 = some (.int x3) := cw_e1 elv80 hlv44_3 (by decide) (Or.inl (by decide))
            have hlv80_4 : aj_lv lv80 4 = some (.int x4) := cw_e1 elv80 hlv44_4 (by decide) (Or.inl (by decide))
            have hlv80_5 : aj_lv lv80 5 = some (.int x5) := cw_e1 elv80 hlv44_5 (by decide) (Or.inl (by decide))
            have hlv80_6 : aj_lv lv80 6 = some (.int x6) := cw_e1 elv80 hlv44_6 (by decide) (Or.inl (by decide))
            have hlv80_8 : aj_lv lv80 8 = some (.int x79) := by rw [elv80]; exact ak_set1_eq _ _ _
            show cw_W _ _ _ _ _ _ _ _ _ _ 78 lv80 []
            refine cw_l2 aj_d179 rfl rfl hlv80_0 ?_
            refine cw_l2 aj_d179 rfl rfl hlv80_1 ?_
            refine cw_l2 aj_d179 rfl rfl hlv80_2 ?_
            refine cw_l0 aj_d179 rfl rfl hlv80_3 ?_
            refine cw_l0 aj_d179 rfl rfl hlv80_7 ?_
            refine cw_l0 aj_d179 rfl rfl hlv80_8 ?_
            refine cw_l0 aj_d179 rfl rfl hlv80_4 ?_
            refine cw_k0 (i := 55) (t := 54) (con' := ap_c180) aj_d179 htb hT rfl rfl [_, _, _, _, _, _] rfl rfl (cw_s0 hB rfl) rfl (Nat.le_of_ble_eq_true rfl) ⟨by decide, by decide⟩ (cw_merge htb hT hB (by omega) q1 q2 x3 x43 x79 x4) ?_
            rintro rh81 h81 hT82 hoh81 hRh81
            obtain ⟨xh81, rfl, bh81⟩ := cw_rI hRh81
            show cw_W _ _ _ _ _ _ _ _ _ _ 91 lv80 [.int xh81]
            refine cw_t0 (j := 4) aj_d179 rfl (by decide) rfl ?_
            obtain ⟨lv83, elv83⟩ : ∃ l, l = aj_set1 lv80 4 (.int xh81) := ⟨_, rfl⟩
            rw [← elv83]
            have hlv83_8 : aj_lv lv83 8 = some (.int x79) := cw_e1 elv83 hlv80_8 (by decide) (Or.inl (by decide))
            have hlv83_7 : aj_lv lv83 7 = some (.int x43) := cw_e1 elv83 hlv80_7 (by decide) (Or.inl (by decide))
            have hlv83_0 : aj_lv lv83 0 = some (.ref (52 + 55)) := cw_e1 elv83 hlv80_0 (by decide) (Or.inl (by decide))
            have hlv83_1 : aj_lv lv83 1 = some (.ref (52 + i1)) := cw_e1 elv83 hlv80_1 (by decide) (Or.inl (by decide))
            have hlv83_2 : aj_lv lv83 2 = some (.ref (52 + i2)) := cw_e1 elv83 hlv80_2 (by decide) (Or.inl (by decide))
            have hlv83_3 : aj_lv lv83 3 = some (.int x3) := cw_e1 elv83 hlv80_3 (by decide) (Or.inr rfl)
            have hlv83_5 : aj_lv lv83 5 = some (.int x5) := cw_e1 elv83 hlv80_5 (by decide) (Or.inl (by decide))
            have hlv83_6 : aj_lv lv83 6 = some (.int x6) := cw_e1 elv83 hlv80_6 (by decide) (Or.inl (by decide))
            have hlv83_4 : aj_lv lv83 4 = some (.int xh81) := by rw [elv83]; exact ak_set1_eq _ _ _
            show cw_W _ _ _ _ _ _ _ _ _ _ 93 lv83 []
            refine cw_l0 aj_d179 rfl rfl hlv83_8 ?_
            refine cw_t0 (j := 3) aj_d179 rfl (by decide) rfl ?_
            obtain ⟨lv84, elv84⟩ : ∃ l, l = aj_set1 lv83 3 (.int x79) := ⟨_, rfl⟩
            rw [← elv84]
            have hlv84_4 : aj_lv lv84 4 = some (.int xh81) := cw_e1 elv84 hlv83_4 (by decide) (Or.inl (by decide))
            have hlv84_8 : aj_lv lv84 8 = some (.int x79) := cw_e1 elv84 hlv83_8 (by decide) (Or.inl (by decide))
            have hlv84_7 : aj_lv lv84 7 = some (.int x43) := cw_e1 elv84 hlv83_7 (by decide) (Or.inl (by decide))
            have hlv84_0 : aj_lv lv84 0 = some (.ref (52 + 55)) := cw_e1 elv84 hlv83_0 (by decide) (Or.inl (by decide))
            have hlv84_1 : aj_lv lv84 1 = some (.ref (52 + i1)) := cw_e1 elv84 hlv83_1 (by decide) (Or.inl (by decide))
            have hlv84_2 : aj_lv lv84 2 = some (.ref (52 + i2)) := cw_e1 elv84 hlv83_2 (by decide) (Or.inr rfl)
            have hlv84_5 : aj_lv lv84 5 = some (.int x5) := cw_e1 elv84 hlv83_5 (by decide) (Or.inl (by decide))
            have hlv84_6 : aj_lv lv84 6 = some (.int x6) := cw_e1 elv84 hlv83_6 (by decide) (Or.inl (by decide))
            have hlv84_3 : aj_lv lv84 3 = some (.int x79) := by rw [elv84]; exact ak_set1_eq _ _ _
            show cw_W _ _ _ _ _ _ _ _ _ _ 96 lv84 []
            refine cw_l2 aj_d179 rfl rfl hlv84_0 ?_
            obtain ⟨v85, f85, g85⟩ := cw_tyF (i := 55) (t := 54) (c := 2) (k := 7) (y := (.inr (some ([99], false)))) hT82 (cw_s0 hB rfl) rfl rfl rfl
            obtain rfl := cw_gu (i := 58) hB g85 (by decide) (by decide) (by decide)
            refine cw_g (i := 55) (v := .ref (52 + 58)) htb.1 aj_d179 rfl rfl (by decide) f85 ?_
            refine cw_l0 aj_d179 rfl rfl hlv84_5 ?_
            refine cw_l0 aj_d179 rfl rfl hlv84_4 ?_
            obtain ⟨n86, z86, a86, p86l, p86r, p86⟩ := cw_tyA (i := 58) (t := 99) (kd := 0) (n1 := 1024) (n2 := 1024) (y := (.inl ((-2147483648), 2147483647))) hT82 (cw_s0 hB rfl) rfl
            obtain rfl : n86 = 1024 := Nat.le_antisymm p86r p86l
            obtain ⟨fn86, rfl, p86c⟩ := cw_xi p86
            refine cw_st (i := 58) htb aj_d179 (Or.inl ⟨rfl, rfl⟩) rfl a86 hT82 (cw_s0 hB rfl) rfl (by decide) (a := x5.toInt) rfl (by omega) (by omega) (cw_full _) (fun hT87 => ?_)
            have f88 : cw_F (cw_sa h81 58 (.inl (upd fn86 (x5.toInt).toNat (aj_nar 0 xh81)))) 55 2 7 (.ref (52 + 58)) := cw_sa_F f85
            have a89 : cw_A (cw_sa h81 58 (.inl (upd fn86 (x5.toInt).toNat (aj_nar 0 xh81)))) 58 0 1024 (.inl (upd fn86 (x5.toInt).toNat (aj_nar 0 xh81))) := cw_sa_same a86
            refine cw_inc aj_d179 rfl hlv84_5 (a := x5.toInt) rfl (by omega) (by omega) (by decide) (by decide) (fun x90 ex90 => ?_)
            obtain ⟨lv91, elv91⟩ : ∃ l, l = aj_set1 lv84 5 (.int x90) := ⟨_, rfl⟩
            rw [← elv91]
            have hlv91_3 : aj_lv lv91 3 = some (.int x79) := cw_e1 elv91 hlv84_3 (by decide) (Or.inl (by decide))
            have hlv91_4 : aj_lv lv91 4 = some (.int xh81) := cw_e1 elv91 hlv84_4 (by decide) (Or.inr rfl)
            have hlv91_8 : aj_lv lv91 8 = some (.int x79) := cw_e1 elv91 hlv84_8 (by decide) (Or.inl (by decide))
            have hlv91_7 : aj_lv lv91 7 = some (.int x43) := cw_e1 elv91 hlv84_7 (by decide) (Or.inl (by decide))
            have hlv91_0 : aj_lv lv91 0 = some (.ref (52 + 55)) := cw_e1 elv91 hlv84_0 (by decide) (Or.inl (by decide))
            have hlv91_1 : aj_lv lv91 1 = some (.ref (52 + i1)) := cw_e1 elv91 hlv84_1 (by decide) (Or.inl (by decide))
            have hlv91_2 : aj_lv lv91 2 = some (.ref (52 + i2)) := cw_e1 elv91 hlv84_2 (by decide) (Or.inl (by decide))
            have hlv91_6 : aj_lv lv91 6 = some (.int x6) := cw_e1 elv91 hlv84_6 (by decide) (Or.inl (by decide))
            have hlv91_5 : aj_lv lv91 5 = some (.int x90) := by rw [elv91]; exact ak_set1_eq _ _ _
            show cw_W _ _ _ _ _ _ _ _ _ _ 108 lv91 []
            refine cw_inc aj_d179 rfl hlv91_6 (a := x6.toInt) rfl (by omega) (by omega) (by decide) (by decide) (fun x92 ex92 => ?_)
            obtain ⟨lv93, elv93⟩ : ∃ l, l = aj_set1 lv91 6 (.int x92) := ⟨_, rfl⟩
            rw [← elv93]
            have hlv93_5 : aj_lv lv93 5 = some (.int x90) := cw_e1 elv93 hlv91_5 (by decide) (Or.inr rfl)
            have hlv93_3 : aj_lv lv93 3 = some (.int x79) := cw_e1 elv93 hlv91_3 (by decide) (Or.inl (by decide))
            have hlv93_4 : aj_lv lv93 4 = some (.int xh81) := cw_e1 elv93 hlv91_4 (by decide) (Or.inl (by decide))
            have hlv93_8 : aj_lv lv93 8 = some (.int x79) := cw_e1 elv93 hlv91_8 (by decide) (Or.inl (by decide))
            have hlv93_7 : aj_lv lv93 7 = some (.int x43) := cw_e1 elv93 hlv91_7 (by decide) (Or.inl (by decide))
            have hlv93_0 : aj_lv lv93 0 = some (.ref (52 + 55)) := cw_e1 elv93 hlv91_0 (by decide) (Or.inl (by decide))
            have hlv93_1 : aj_lv lv93 1 = some (.ref (52 + i1)) := cw_e1 elv93 hlv91_1 (by decide) (Or.inl (by decide))
            have hlv93_2 : aj_lv lv93 2 = some (.ref (52 + i2)) := cw_e1 elv93 hlv91_2 (by decide) (Or.inl (by decide))
            have hlv93_6 : aj_lv lv93 6 = some (.int x92) := by rw [elv93]; exact ak_set1_eq _ _ _
            show cw_W _ _ _ _ _ _ _ _ _ _ 111 lv93 []
            refine cw_n aj_d179 rfl rfl ?_
            exact ih htb hI q1 q2 hT87 ((cw_o_sa a86 (by decide)).trans (hoh81.trans hE)) hlv93_0 hlv93_1 hlv93_2 hlv93_3 hlv93_4 hlv93_5 hlv93_6 (by omega) (by omega) (by omega) (by omega)
theorem cw_mrC (htb : ak_tbOK ak_C0 tb) : ak_CT ak_C0 (cw_I X) cw_kap tb 6 ap_c179 := by
  refine cw_CT rfl (fun d hd s h as hT hI hA _ => ?_)
  obtain ⟨v0, as, rfl, g0, hA⟩ := cw_gAc hA
  obtain ⟨v1, as, rfl, g1, hA⟩ := cw_gAc hA
  obtain ⟨v2, as, rfl, g2, hA⟩ := cw_gAc hA
  cases cw_gAn hA
  obtain rfl := cw_gu (i := 55) hI.1 g0 (by decide) (by decide) (by decide)
  obtain ⟨i1, rfl, q1⟩ := cw_gr g1 (by decide)
  obtain ⟨i2, rfl, q2⟩ := cw_gr g2 (by decide)
  obtain ⟨d, rfl⟩ : ∃ e, d = e + 1 := ⟨d - 1, by omega⟩
  refine cw_m (con := ap_c179) aj_m179_at (Nat.le_of_ble_eq_true rfl) ?_
  obtain ⟨lv, elv⟩ : ∃ l, l = lv_args 0 [.ref (52 + 55), .ref (52 + i1), .ref (52 + i2)] := ⟨_, rfl⟩
  have hl0 : aj_lv lv 0 = some (.ref (52 + 55)) := by rw [elv]; rfl
  have hl1 : aj_lv lv 1 = some (.ref (52 + i1)) := by rw [elv]; rfl
  have hl2 : aj_lv lv 2 = some (.ref (52 + i2)) := by rw [elv]; rfl
  rw [← elv]
  refine cw_n aj_d179 rfl rfl ?_
  refine cw_t0 (j := 3) aj_d179 rfl (by decide) rfl ?_
  obtain ⟨lv94, elv94⟩ : ∃ l, l = aj_set1 lv 3 (.int (Int32.ofInt 0)) := ⟨_, rfl⟩
  rw [← elv94]
  have hlv94_0 : aj_lv lv94 0 = some (.ref (52 + 55)) := cw_e1 elv94 hl0 (by decide) (Or.inl (by decide))
  have hlv94_1 : aj_lv lv94 1 = some (.ref (52 + i1)) := cw_e1 elv94 hl1 (by decide) (Or.inl (by decide))
  have hlv94_2 : aj_lv lv94 2 = some (.ref (52 + i2)) := cw_e1 elv94 hl2 (by decide) (Or.inr rfl)
  have hlv94_3 : aj_lv lv94 3 = some (.int (Int32.ofInt 0)) := by rw [elv94]; exact ak_set1_eq _ _ _
  show cw_W _ _ _ _ _ _ _ _ _ _ 2 lv94 []
  refine cw_n aj_d179 rfl rfl ?_
  refine cw_t0 (j := 4) aj_d179 rfl (by decide) rfl ?_
  obtain ⟨lv95, elv95⟩ : ∃ l, l = aj_set1 lv94 4 (.int (Int32.ofInt 0)) := ⟨_, rfl⟩
  rw [← elv95]
  have hlv95_3 : aj_lv lv95 3 = some (.int (Int32.ofInt 0)) := cw_e1 elv95 hlv94_3 (by decide) (Or.inr rfl)
  have hlv95_0 : aj_lv lv95 0 = some (.ref (52 + 55)) := cw_e1 elv95 hlv94_0 (by decide) (Or.inl (by decide))
  have hlv95_1 : aj_lv lv95 1 = some (.ref (52 + i1)) := cw_e1 elv95 hlv94_1 (by decide) (Or.inl (by decide))
  have hlv95_2 : aj_lv lv95 2 = some (.ref (52 + i2)) := cw_e1 elv95 hlv94_2 (by decide) (Or.inl (by decide))
  have hlv95_4 : aj_lv lv95 4 = some (.int (Int32.ofInt 0)) := by rw [elv95]; exact ak_set1_eq _ _ _
  show cw_W _ _ _ _ _ _ _ _ _ _ 5 lv95 []
  refine cw_n aj_d179 rfl rfl ?_
  refine cw_t0 (j := 5) aj_d179 rfl (by decide) rfl ?_
  obtain ⟨lv96, elv96⟩ : ∃ l, l = aj_set1 lv95 5 (.int (Int32.ofInt 0)) := ⟨_, rfl⟩
  rw [← elv96]
  have hlv96_4 : aj_lv lv96 4 = some (.int (Int32.ofInt 0)) := cw_e1 elv96 hlv95_4 (by decide) (Or.inr rfl)
  have hlv96_3 : aj_lv lv96 3 = some (.int (Int32.ofInt 0)) := cw_e1 elv96 hlv95_3 (by decide) (Or.inl (by decide))
  have hlv96_0 : aj_lv lv96 0 = some (.ref (52 + 55)) := cw_e1 elv96 hlv95_0 (by decide) (Or.inl (by decide))
  have hlv96_1 : aj_lv lv96 1 = some (.ref (52 + i1)) := cw_e1 elv96 hlv95_1 (by decide) (Or.inl (by decide))
  have hlv96_2 : aj_lv lv96 2 = some (.ref (52 + i2)) := cw_e1 elv96 hlv95_2 (by decide) (Or.inl (by decide))
  have hlv96_5 : aj_lv lv96 5 = some (.int (Int32.ofInt 0)) := by rw [elv96]; exact ak_set1_eq _ _ _
  show cw_W _ _ _ _ _ _ _ _ _ _ 8 lv96 []
  refine cw_n aj_d179 rfl rfl ?_
  refine cw_t0 (j := 6) aj_d179 rfl (by decide) rfl ?_
  obtain ⟨lv97, elv97⟩ : ∃ l, l = aj_set1 lv96 6 (.int (Int32.ofInt 0)) := ⟨_, rfl⟩
  rw [← elv97]
  have hlv97_5 : aj_lv lv97 5 = some (.int (Int32.ofInt 0)) := cw_e1 elv97 hlv96_5 (by decide) (Or.inr rfl)
  have hlv97_4 : aj_lv lv97 4 = some (.int (Int32.ofInt 0)) := cw_e1 elv97 hlv96_4 (by decide) (Or.inl (by decide))
  have hlv97_3 : aj_lv lv97 3 = some (.int (Int32.ofInt 0)) := cw_e1 elv97 hlv96_3 (by decide) (Or.inl (by decide))
  have hlv97_0 : aj_lv lv97 0 = some (.ref (52 + 55)) := cw_e1 elv97 hlv96_0 (by decide) (Or.inl (by decide))
  have hlv97_1 : aj_lv lv97 1 = some (.ref (52 + i1)) := cw_e1 elv97 hlv96_1 (by decide) (Or.inl (by decide))
  have hlv97_2 : aj_lv lv97 2 = some (.ref (52 + i2)) := cw_e1 elv97 hlv96_2 (by decide) (Or.inl (by decide))
  have hlv97_6 : aj_lv lv97 6 = some (.int (Int32.ofInt 0)) := by rw [elv97]; exact ak_set1_eq _ _ _
  show cw_W _ _ _ _ _ _ _ _ _ _ 11 lv97 []
  exact cw_mr_l (by omega) 1026 htb hI q1 q2 hT rfl hlv97_0 hlv97_1 hlv97_2 hlv97_3 hlv97_4 hlv97_5 hlv97_6 (by decide) (by decide) (by decide) (by decide)
end CW65
