/-! THE LAW'S LOOP (printed by wip/p7/gen_h07.py) -/
def lw_at (xs : Nat → Int32) (i : Int32) (j : Int) : Int32 := xs (i + Int32.ofInt j).toNatClampNeg
abbrev lw_lv (i : Int32) : aj_V := [(3, .int i), (2, .ref 117), (1, .ref 52), (0, .ref 51)]
section LWA37
variable {L : Nat} {xs : Nat → Int32} {pc kc ks : Nat} {lv : aj_V} {st rest : List Value} {h : aj_H} {i x1 c : Int32} {u : List Nat}
theorem lw_len : (cw_tb L xs).length = 52 := by
  unfold cw_tb
  rw [List.length_append, cw_tbS51]
  rfl
theorem lw_n {ins : Instr} {len pc' : Nat} {lv' : aj_V} {st' : List Value} (hd : aj_ct aj_cL pc = some (ins, len)) (hs : aj_step aj_rc aj_cls (cw_tb L xs) aj_lawM.2.2.2.2.2.1 aj_lawM.2.2.1 aj_lawM.2.2.2.1 false ins len pc lv st h = some (.inl ((pc', lv', st'), h, 0, 0))) (k : lw_TF L xs pc' lv' st' h kc ks) : lw_TF L xs pc lv st h kc ks := by
  obtain ⟨mc, hF, hk, m1, m2, k⟩ := k
  exact ⟨mc, hF, hk, m1, m2, aj_tn aj_ctL hk hd hs k⟩
theorem lw_c {cd : ClassFile.Cond} {off : Int} {tgt : Nat} (hd : aj_ct aj_cL pc = some (.if_icmp cd off, 3)) (ht : (pc : Int) + off = (tgt : Int)) {x y : Int32} (k1 : aj_test cd x y = true → lw_TF L xs tgt lv rest h kc ks) (k2 : aj_test cd x y = false → lw_TF L xs (pc + 3) lv rest h kc ks) : lw_TF L xs pc lv (.int y :: .int x :: rest) h kc ks := by
  cases hb : aj_test cd x y with
  | true =>
    obtain ⟨mc, hF, hk, m1, m2, k⟩ := k1 hb
    exact ⟨mc, hF, hk, m1, m2, aj_tc aj_ctL hk hd ht (fun _ => k) (fun z => by rw [hb] at z; cases z)⟩
  | false =>
    obtain ⟨mc, hF, hk, m1, m2, k⟩ := k2 hb
    exact ⟨mc, hF, hk, m1, m2, aj_tc aj_ctL hk hd ht (fun z => by rw [hb] at z; cases z) (fun _ => k)⟩
theorem lw_arr : aj_arr (cw_tb L xs) h 51 = some (0, L, .inl xs) := by
  unfold aj_arr
  rw [if_pos (by rw [lw_len]; decide)]
  unfold cw_tb
  rw [List.getElem?_append_right (by rw [cw_tbS51]; decide), cw_tbS51]
  rfl
theorem lw_al (hd : aj_ct aj_cL pc = some (.arraylength, 1)) (k : lw_TF L xs (pc + 1) lv (.int (Int32.ofNat L) :: rest) h kc ks) : lw_TF L xs pc lv (.ref 51 :: rest) h kc ks := by
  obtain ⟨mc, hF, hk, m1, m2, k⟩ := k
  exact ⟨mc, hF, hk, m1, m2, aj_tl aj_ctL hk hd lw_arr (by decide) k⟩
theorem lw_ld {x : Int32} {a : Int} (hd : aj_ct aj_cL pc = some (.iaload, 1)) (hx : x.toInt = a) (h0 : 0 ≤ a) (h1 : a < L) (k : lw_TF L xs (pc + 1) lv (.int (xs x.toNatClampNeg) :: rest) h kc ks) : lw_TF L xs pc lv (.int x :: .ref 51 :: rest) h kc ks := by
  obtain ⟨mc, hF, hk, m1, m2, k⟩ := k
  exact ⟨mc, hF, hk, m1, m2, aj_ta aj_ctL hk (Or.inl ⟨rfl, rfl⟩) hd lw_arr (aw_in hx h0 h1).1 k⟩
/-- one argument: the script at i + j -/
theorem lw_arg {j : Int} (e0 : aj_ct aj_cL pc = some (.aload_n 0, 1)) (e1 : aj_ct aj_cL (pc + 1) = some (.iload_n 3, 1)) (e2 : aj_ct aj_cL (pc + 1 + 1) = some (.iconst j, 1)) (e3 : aj_ct aj_cL (pc + 1 + 1 + 1) = some (.iadd, 1)) (e4 : aj_ct aj_cL (pc + 1 + 1 + 1 + 1) = some (.iaload, 1)) (hi : 0 ≤ i.toInt ∧ i.toInt + 6 ≤ L) (hL : L ≤ 3072) (hj : 0 ≤ j ∧ j ≤ 5) (k : lw_TF L xs (pc + 5) (lw_lv i) (.int (lw_at xs i j) :: st) h kc ks) : lw_TF L xs pc (lw_lv i) st h kc ks := by
  refine lw_n e0 rfl ?_
  refine lw_n e1 rfl ?_
  refine lw_n e2 rfl ?_
  refine lw_n e3 rfl ?_
  have ej : (Int32.ofInt j).toInt = j := by
    rw [Int32.toInt_ofInt]
    exact ak_bm (by omega) (by omega)
  have es : ((fun x y : Int32 => x + y) i (Int32.ofInt j)).toInt = i.toInt + j := by
    show (i + Int32.ofInt j).toInt = _
    rw [Int32.toInt_add, ej]
    exact ak_bm (by omega) (by omega)
  exact lw_ld e4 es (by omega) (by omega) k
theorem lw_rs_sm {h' : aj_H} (h0 : cw_rs h h') : aw_sm (aw_xS h) (aw_xS h') := by
  refine ⟨fun k _ => ?_, fun k hk => ?_, fun k hk => ?_⟩
  · show aw_xf h' k = aw_xf h k
    unfold aw_xf
    rw [h0 65 (by decide) (by decide)]
  · show aw_xa h' k = aw_xa h k
    have hk : k < 33 := by
      simp only [ar_sa, List.mem_cons, List.not_mem_nil, or_false] at hk
      omega
    unfold aw_xa
    rw [h0 (65 + k) (by omega) (by omega)]
  · show aw_xb h' k = aw_xb h k
    have hk : k < 33 := by
      simp only [ar_sl, List.mem_cons, List.not_mem_nil, or_false] at hk
      omega
    unfold aw_xb
    rw [h0 (65 + k) (by omega) (by omega)]
/-- what holds at the loop -/
def lw_J (u : List Nat) (h : aj_H) (x1 c : Int32) : Prop := ak_Ty ak_C0 (ak_s0 ++ u) h ∧ cw_I cw_XB (ak_s0 ++ u) h ∧ aw_B (aw_xS h) ∧ cw_F h 0 10 1 (.int x1) ∧ aw_xf h 23 = c
abbrev lw_T (L : Nat) (xs : Nat → Int32) (pc : Nat) (lv : aj_V) (st : List Value) (h : aj_H) (u : List Nat) : Prop := lw_TF L xs pc lv st h (98 + u.length) (aj_k0 + ak_slo ak_C0 u)
/-- a call of the class -/
theorem lw_cc2 {idx mi n : Nat} (hJ : lw_J u h x1 c) (hd : aj_ct aj_cL pc = some (.invokevirtual idx, 3)) (hl : aj_link aj_lawM.2.2.2.2.2.1 idx = some (2, mi, n, 10)) (args : List Value) (hst : st = args ++ .ref 52 :: rest) (hn : args.length = n) (hsum : aj_sum rest ≤ 8) {R : Int32 → Int32 → Prop} {E : aj_H → aj_H → Prop} (hc : lw_PC (cw_tb L xs) 30 mi (.ref (52 + 0) :: args.reverse) (ak_s0 ++ u) h R E) (kk : ∀ (u' : List Nat) (h' : aj_H) (z x2 : Int32) (q1 q2 : Nat), lw_J u' h' x2 c → R z x2 → E h h' → cw_rs h h' → aj_runs aj_rc aj_cls (cw_tb L xs) aj_mt 30 mi (.ref (52 + 0) :: args.reverse) h q1 q2 (some (.int z)) h' → lw_T L xs (pc + 3) lv (.int z :: rest) h' u') : lw_T L xs pc lv st h u := by
  obtain ⟨hT, hI, hB, hF, hx⟩ := hJ
  obtain ⟨u2, z, x2, h', k1, k2, k3, k4, k5, k6, k7⟩ := hc
  rw [List.append_assoc] at k2 k3
  have sm := lw_rs_sm k4
  obtain ⟨mc, hE, hk, m1, m2, k⟩ := kk (u ++ u2) h' z x2 _ _ ⟨k2, k3, aw_B_sm sm hB, k5, (sm.1 23 (by decide)).trans hx⟩ k6 k7 k4 k1
  rw [List.length_append, ak_slo_app, ← Nat.add_assoc, ← Nat.add_assoc] at hk k
  obtain ⟨fs, e0, -⟩ := hF
  have ho : aj_obj (cw_tb L xs) h 52 = some (10, fs) := by
    unfold aj_obj
    rw [if_neg (by rw [lw_len]; decide), lw_len]
    show (match h[0]? with | some (.inr a) => some a | _ => none) = _
    rw [e0]
  have hlen : h'.length = h.length + u2.length := by
    rw [k2.1, hT.1, ← List.append_assoc, List.length_append]
  exact ⟨mc, hE, ⟨by omega, by omega⟩, m1, m2, aj_tiv aj_ctL hd hl args hst hn ho rfl hsum rfl k1 hlen hk k⟩
/-- a call of the reference -/
theorem lw_rc2 {idx mi n : Nat} (hJ : lw_J u h x1 c) (hd : aj_ct aj_cL pc = some (.invokevirtual idx, 3)) (hl : aj_link aj_lawM.2.2.2.2.2.1 idx = some (2, mi, n, 11)) (args : List Value) (hst : st = args ++ .ref 117 :: rest) (hn : args.length = n) (hsum : aj_sum rest ≤ 8) {R : Int32 → Int32 → Prop} (hc : ar_PB2 (cw_tb L xs) 30 mi (.ref 117 :: args.reverse) (ak_s0 ++ u) h R) (kk : ∀ (h' : aj_H) (z x2 : Int32) (q1 q2 : Nat), lw_J u h' x1 x2 → R z x2 → (∀ i, i < 65 ∨ 98 ≤ i → h'[i]? = h[i]?) → aj_runs aj_rc aj_cls (cw_tb L xs) aj_mt 30 mi (.ref 117 :: args.reverse) h q1 q2 (some (.int z)) h' → lw_T L xs (pc + 3) lv (.int z :: rest) h' u) : lw_T L xs pc lv st h u := by
  obtain ⟨hT, hI, hB, hF, hx⟩ := hJ
  obtain ⟨z, x2, h', k1, k2, k3, k4, k5, k6, k7⟩ := hc
  obtain ⟨fs, e0, e1⟩ := hF
  obtain ⟨mc, hE, hk, m1, m2, k⟩ := kk h' z x2 _ _ ⟨k2, k3, k4, ⟨fs, by rw [k5 0 (Or.inl (by decide))]; exact e0, e1⟩, k6⟩ k7 k5 k1
  obtain ⟨-, e, he, hcx⟩ := hT.2 65 63 (cw_s0 hI.1 (by decide))
  have ho : ∃ fs', aj_obj (cw_tb L xs) h 117 = some (11, fs') := by
    unfold ak_cOK at hcx
    have q2 : ak_C0.1[63]? = some (.inl 11) := rfl
    rw [q2] at hcx
    obtain ⟨fs', rfl, -⟩ := hcx
    refine ⟨fs', ?_⟩
    unfold aj_obj
    rw [if_neg (by rw [lw_len]; decide), lw_len]
    show (match h[65]? with | some (.inr a) => some a | _ => none) = _
    rw [he]
  obtain ⟨fs', ho⟩ := ho
  have hlen : h'.length = h.length + 0 := by
    rw [k2.1, hT.1]
    rfl
  show lw_TF L xs pc lv st h (98 + u.length) (aj_k0 + ak_slo ak_C0 u)
  generalize 98 + u.length = p at hk k ⊢
  generalize aj_k0 + ak_slo ak_C0 u = q at hk k ⊢
  exact ⟨mc, hE, hk, m1, m2, aj_tiv aj_ctL hd hl args hst hn ho rfl hsum rfl k1 hlen hk k⟩
set_option maxRecDepth 20000 in
theorem lw_case0 (hL : L ≤ 3072) (hi : 0 ≤ i.toInt ∧ i.toInt + 6 ≤ L) (hJ : lw_J u h x1 c) (hx : x1.toInt = c.toInt) (hK0 : lw_K (cw_tb L xs) h x1.toInt.toNat) (hK : ∀ (u' : List Nat) (h' : aj_H) (x' c' : Int32), lw_J u' h' x' c' → x'.toInt = c'.toInt → lw_K (cw_tb L xs) h' x'.toInt.toNat → lw_T L xs 758 (lw_lv i) [] h' u') : lw_T L xs 128 (lw_lv i) [] h u := by
  have htb : ak_tbOK ak_C0 (cw_tb L xs) := cw_tbOK hL
  have htG : cw_tbG (cw_tb L xs) := cw_tbGok
  refine lw_n (pc := 128) rfl rfl ?_
  refine lw_arg (pc := 129) (j := 1) rfl rfl rfl rfl rfl hi hL (by decide) ?_
  refine lw_arg (pc := 134) (j := 2) rfl rfl rfl rfl rfl hi hL (by decide) ?_
  refine lw_arg (pc := 139) (j := 3) rfl rfl rfl rfl rfl hi hL (by decide) ?_
  refine lw_arg (pc := 144) (j := 4) rfl rfl rfl rfl rfl hi hL (by decide) ?_
  refine lw_arg (pc := 149) (j := 5) rfl rfl rfl rfl rfl hi hL (by decide) ?_
  refine lw_cc2 (pc := 154) (idx := 13) (mi := 16) (n := 5) hJ rfl rfl [.int (lw_at xs i 5), .int (lw_at xs i 4), .int (lw_at xs i 3), .int (lw_at xs i 2), .int (lw_at xs i 1)] rfl rfl (by decide) (lw_PC0 (cw_feed htb htG hJ.1 hJ.2.1 (by decide) (lw_at xs i 1) (lw_at xs i 2) (lw_at xs i 3) (lw_at xs i 4) (lw_at xs i 5) hJ.2.2.2.1)) (fun u1 h1 z1 x2 q1 q2 hJ1 hR1 hE1 hr1 hg1 => ?_)
  refine lw_n (pc := 157) rfl rfl ?_
  refine lw_n (pc := 158) rfl rfl ?_
  refine lw_arg (pc := 159) (j := 1) rfl rfl rfl rfl rfl hi hL (by decide) ?_
  refine lw_arg (pc := 164) (j := 2) rfl rfl rfl rfl rfl hi hL (by decide) ?_
  refine lw_arg (pc := 169) (j := 3) rfl rfl rfl rfl rfl hi hL (by decide) ?_
  refine lw_arg (pc := 174) (j := 4) rfl rfl rfl rfl rfl hi hL (by decide) ?_
  refine lw_arg (pc := 179) (j := 5) rfl rfl rfl rfl rfl hi hL (by decide) ?_
  refine lw_rc2 (pc := 184) (idx := 17) (mi := 200) (n := 5) hJ1 rfl rfl [.int (lw_at xs i 5), .int (lw_at xs i 4), .int (lw_at xs i 3), .int (lw_at xs i 2), .int (lw_at xs i 1)] rfl rfl (Nat.le_of_ble_eq_true rfl) (ar_Q200 htb hJ1.1 hJ1.2.1 hJ1.2.2.1 (by decide) (lw_at xs i 1) (lw_at xs i 2) (lw_at xs i 3) (lw_at xs i 4) (lw_at xs i 5)) (fun h2 z2 c2 q3 q4 hJ2 hR2 same hg2 => ?_)
  have hR1 : (4000 < (x1).toInt + 20 ∧ z1.toInt = -1 ∧ x2.toInt = (x1).toInt) ∨ ((x1).toInt + 20 ≤ 4000 ∧ z1.toInt = (x1).toInt + 20 ∧ x2.toInt = (x1).toInt + 20) := hR1
  have hR2 : (4000 < (aw_xf h1 23).toInt + 20 ∧ z2.toInt = -1 ∧ c2.toInt = (aw_xf h1 23).toInt) ∨ ((aw_xf h1 23).toInt + 20 ≤ 4000 ∧ z2.toInt = (aw_xf h1 23).toInt + 20 ∧ c2.toInt = (aw_xf h1 23).toInt + 20) := hR2
  rw [hJ1.2.2.2.2] at hR2
  have hK2 := lw_Kfeed lw_len hJ.1 hJ.2.1.1 hJ.2.2.2.1 (by rw [hJ.2.2.2.2]; exact hx) hK0 hg1 hr1 hJ1.2.2.2.1 hg2 same
  refine lw_n (pc := 187) rfl rfl ?_
  refine lw_n (pc := 188) rfl rfl ?_
  exact hK _ _ _ _ hJ2 (by omega) hK2
set_option maxRecDepth 20000 in
theorem lw_case1 (hL : L ≤ 3072) (hi : 0 ≤ i.toInt ∧ i.toInt + 6 ≤ L) (hJ : lw_J u h x1 c) (hx : x1.toInt = c.toInt) (hK0 : lw_K (cw_tb L xs) h x1.toInt.toNat) (hK : ∀ (u' : List Nat) (h' : aj_H) (x' c' : Int32), lw_J u' h' x' c' → x'.toInt = c'.toInt → lw_K (cw_tb L xs) h' x'.toInt.toNat → lw_T L xs 758 (lw_lv i) [] h' u') : lw_T L xs 191 (lw_lv i) [] h u := by
  have htb : ak_tbOK ak_C0 (cw_tb L xs) := cw_tbOK hL
  have htG : cw_tbG (cw_tb L xs) := cw_tbGok
  refine lw_n (pc := 191) rfl rfl ?_
  refine lw_arg (pc := 192) (j := 1) rfl rfl rfl rfl rfl hi hL (by decide) ?_
  refine lw_cc2 (pc := 197) (idx := 18) (mi := 18) (n := 1) hJ rfl rfl [.int (lw_at xs i 1)] rfl rfl (by decide) (lw_PC0 (cw_back htb htG hJ.1 hJ.2.1 (by decide) (lw_at xs i 1) hJ.2.2.2.1)) (fun u1 h1 z1 x2 q1 q2 hJ1 hR1 hE1 hr1 hg1 => ?_)
  refine lw_n (pc := 200) rfl rfl ?_
  refine lw_n (pc := 201) rfl rfl ?_
  refine lw_arg (pc := 202) (j := 1) rfl rfl rfl rfl rfl hi hL (by decide) ?_
  refine lw_rc2 (pc := 207) (idx := 22) (mi := 202) (n := 1) hJ1 rfl rfl [.int (lw_at xs i 1)] rfl rfl (Nat.le_of_ble_eq_true rfl) (ar_Q202 htb hJ1.1 hJ1.2.1 hJ1.2.2.1 (by decide) (lw_at xs i 1)) (fun h2 z2 c2 q3 q4 hJ2 hR2 same hg2 => ?_)
  have hR1 : (((lw_at xs i 1).toInt < 0 ∨ (x1).toInt < (lw_at xs i 1).toInt) ∧ z1.toInt = -1 ∧ x2.toInt = (x1).toInt) ∨ ((0 ≤ (lw_at xs i 1).toInt ∧ (lw_at xs i 1).toInt ≤ (x1).toInt) ∧ z1.toInt = (x1).toInt - (lw_at xs i 1).toInt ∧ x2.toInt = (x1).toInt - (lw_at xs i 1).toInt) := hR1
  have hR2 : (((lw_at xs i 1).toInt < 0 ∨ (aw_xf h1 23).toInt < (lw_at xs i 1).toInt) ∧ z2.toInt = -1 ∧ c2.toInt = (aw_xf h1 23).toInt) ∨ ((0 ≤ (lw_at xs i 1).toInt ∧ (lw_at xs i 1).toInt ≤ (aw_xf h1 23).toInt) ∧ z2.toInt = (aw_xf h1 23).toInt - (lw_at xs i 1).toInt ∧ c2.toInt = (aw_xf h1 23).toInt - (lw_at xs i 1).toInt) := hR2
  rw [hJ1.2.2.2.2] at hR2
  have hK2 := lw_Kback lw_len hJ.1 hJ.2.1.1 hJ.2.2.2.1 (by rw [hJ.2.2.2.2]; exact hx) hK0 hg1 hr1 hJ1.2.2.2.1 hg2 same
  refine lw_n (pc := 210) rfl rfl ?_
  refine lw_n (pc := 211) rfl rfl ?_
  exact hK _ _ _ _ hJ2 (by omega) hK2
set_option maxRecDepth 20000 in
theorem lw_case2 (hL : L ≤ 3072) (hi : 0 ≤ i.toInt ∧ i.toInt + 6 ≤ L) (hJ : lw_J u h x1 c) (hx : x1.toInt = c.toInt) (hK0 : lw_K (cw_tb L xs) h x1.toInt.toNat) (hK : ∀ (u' : List Nat) (h' : aj_H) (x' c' : Int32), lw_J u' h' x' c' → x'.toInt = c'.toInt → lw_K (cw_tb L xs) h' x'.toInt.toNat → lw_T L xs 758 (lw_lv i) [] h' u') : lw_T L xs 214 (lw_lv i) [] h u := by
  have htb : ak_tbOK ak_C0 (cw_tb L xs) := cw_tbOK hL
  have htG : cw_tbG (cw_tb L xs) := cw_tbGok
  refine lw_n (pc := 214) rfl rfl ?_
  refine lw_cc2 (pc := 215) (idx := 23) (mi := 19) (n := 0) hJ rfl rfl [] rfl rfl (by decide) (lw_PC0 (cw_Q19 htb htG hJ.1 hJ.2.1 (by decide) hJ.2.2.2.1)) (fun u1 h1 z1 x2 q1 q2 hJ1 hR1 hE1 hr1 hg1 => ?_)
  refine lw_n (pc := 218) rfl rfl ?_
  refine lw_n (pc := 219) rfl rfl ?_
  refine lw_rc2 (pc := 220) (idx := 27) (mi := 203) (n := 0) hJ1 rfl rfl [] rfl rfl (Nat.le_of_ble_eq_true rfl) (ar_Q203 htb hJ1.1 hJ1.2.1 hJ1.2.2.1 (by decide)) (fun h2 z2 c2 q3 q4 hJ2 hR2 same hg2 => ?_)
  have hR1 : x2.toInt = 0 := hR1
  have hR2 : c2.toInt = 0 := hR2
  have hK2 := lw_Kread lw_len hJ.1 hJ.2.1.1 hJ.2.2.2.1 (by rw [hJ.2.2.2.2]; exact hx) hK0 hg1 hr1 hg2 same
  have e0 : x2.toInt.toNat = 0 := by rw [hR1]; rfl
  rw [← e0] at hK2
  refine lw_n (pc := 223) rfl rfl ?_
  refine lw_n (pc := 224) rfl rfl ?_
  exact hK _ _ _ _ hJ2 (by omega) hK2
set_option maxRecDepth 20000 in
theorem lw_case3 (hL : L ≤ 3072) (hi : 0 ≤ i.toInt ∧ i.toInt + 6 ≤ L) (hJ : lw_J u h x1 c) (hx : x1.toInt = c.toInt) (hK0 : lw_K (cw_tb L xs) h x1.toInt.toNat) (hK : ∀ (u' : List Nat) (h' : aj_H) (x' c' : Int32), lw_J u' h' x' c' → x'.toInt = c'.toInt → lw_K (cw_tb L xs) h' x'.toInt.toNat → lw_T L xs 758 (lw_lv i) [] h' u') : lw_T L xs 227 (lw_lv i) [] h u := by
  have htb : ak_tbOK ak_C0 (cw_tb L xs) := cw_tbOK hL
  have htG : cw_tbG (cw_tb L xs) := cw_tbGok
  refine lw_n (pc := 227) rfl rfl ?_
  refine lw_cc2 (pc := 228) (idx := 28) (mi := 153) (n := 0) hJ rfl rfl [] rfl rfl (by decide) (lw_C153 htb htG hJ.1 hJ.2.1 (by decide) hJ.2.2.2.1) (fun u1 h1 z1 x2 q1 q2 hJ1 hR1 hE1 hr1 hg1 => ?_)
  refine lw_n (pc := 231) rfl rfl ?_
  refine lw_n (pc := 232) rfl rfl ?_
  refine lw_rc2 (pc := 233) (idx := 31) (mi := 280) (n := 0) hJ1 rfl rfl [] rfl rfl (Nat.le_of_ble_eq_true rfl) (ar_Q280 htb hJ1.1 hJ1.2.1 hJ1.2.2.1 (by decide)) (fun h2 z2 c2 q3 q4 hJ2 hR2 same hg2 => ?_)
  have hR1 : x2 = x1 := hR1
  have hR2 : c2 = aw_xf h1 23 := hR2
  rw [hJ1.2.2.2.2] at hR2
  have hK2 := lw_Kq lw_len hJ.1 hJ.2.1.1 hK0 (gx_153_ok) hg1 hE1 hr1 (lw_rk280) hg2 same
  rw [← hR1] at hK2
  refine lw_n (pc := 236) rfl rfl ?_
  refine lw_n (pc := 237) rfl rfl ?_
  exact hK _ _ _ _ hJ2 (by rw [hR1, hR2]; exact hx) hK2
set_option maxRecDepth 20000 in
theorem lw_case4 (hL : L ≤ 3072) (hi : 0 ≤ i.toInt ∧ i.toInt + 6 ≤ L) (hJ : lw_J u h x1 c) (hx : x1.toInt = c.toInt) (hK0 : lw_K (cw_tb L xs) h x1.toInt.toNat) (hK : ∀ (u' : List Nat) (h' : aj_H) (x' c' : Int32), lw_J u' h' x' c' → x'.toInt = c'.toInt → lw_K (cw_tb L xs) h' x'.toInt.toNat → lw_T L xs 758 (lw_lv i) [] h' u') : lw_T L xs 240 (lw_lv i) [] h u := by
  have htb : ak_tbOK ak_C0 (cw_tb L xs) := cw_tbOK hL
  have htG : cw_tbG (cw_tb L xs) := cw_tbGok
  refine lw_n (pc := 240) rfl rfl ?_
  refine lw_cc2 (pc := 241) (idx := 32) (mi := 154) (n := 0) hJ rfl rfl [] rfl rfl (by decide) (lw_C154 htb htG hJ.1 hJ.2.1 (by decide) hJ.2.2.2.1) (fun u1 h1 z1 x2 q1 q2 hJ1 hR1 hE1 hr1 hg1 => ?_)
  refine lw_n (pc := 244) rfl rfl ?_
  refine lw_n (pc := 245) rfl rfl ?_
  refine lw_rc2 (pc := 246) (idx := 35) (mi := 281) (n := 0) hJ1 rfl rfl [] rfl rfl (Nat.le_of_ble_eq_true rfl) (ar_Q281 htb hJ1.1 hJ1.2.1 hJ1.2.2.1 (by decide)) (fun h2 z2 c2 q3 q4 hJ2 hR2 same hg2 => ?_)
  have hR1 : x2.toInt = 0 := hR1
  have hR2 : c2.toInt = 0 := hR2
  obtain ⟨hK2, ez⟩ := lw_Klearn lw_len hJ.1 hJ.2.1.1 hJ.2.2.2.1 (by rw [hJ.2.2.2.2]; exact hx) hK0 hg1 hE1 hr1 hg2 same
  have e0 : x2.toInt.toNat = 0 := by rw [hR1]; rfl
  rw [← e0] at hK2
  refine lw_n (pc := 249) rfl rfl ?_
  refine lw_n (pc := 250) rfl rfl ?_
  exact hK _ _ _ _ hJ2 (by omega) hK2
set_option maxRecDepth 20000 in
theorem lw_case5 (hL : L ≤ 3072) (hi : 0 ≤ i.toInt ∧ i.toInt + 6 ≤ L) (hJ : lw_J u h x1 c) (hx : x1.toInt = c.toInt) (hK0 : lw_K (cw_tb L xs) h x1.toInt.toNat) (hK : ∀ (u' : List Nat) (h' : aj_H) (x' c' : Int32), lw_J u' h' x' c' → x'.toInt = c'.toInt → lw_K (cw_tb L xs) h' x'.toInt.toNat → lw_T L xs 758 (lw_lv i) [] h' u') : lw_T L xs 253 (lw_lv i) [] h u := by
  have htb : ak_tbOK ak_C0 (cw_tb L xs) := cw_tbOK hL
  have htG : cw_tbG (cw_tb L xs) := cw_tbGok
  refine lw_n (pc := 253) rfl rfl ?_
  refine lw_cc2 (pc := 254) (idx := 36) (mi := 159) (n := 0) hJ rfl rfl [] rfl rfl (by decide) (lw_C159 htb htG hJ.1 hJ.2.1 (by decide) hJ.2.2.2.1) (fun u1 h1 z1 x2 q1 q2 hJ1 hR1 hE1 hr1 hg1 => ?_)
  refine lw_n (pc := 257) rfl rfl ?_
  refine lw_n (pc := 258) rfl rfl ?_
  refine lw_rc2 (pc := 259) (idx := 40) (mi := 283) (n := 0) hJ1 rfl rfl [] rfl rfl (Nat.le_of_ble_eq_true rfl) (ar_Q283 htb hJ1.1 hJ1.2.1 hJ1.2.2.1 (by decide)) (fun h2 z2 c2 q3 q4 hJ2 hR2 same hg2 => ?_)
  have hR1 : x2 = x1 := hR1
  have hR2 : c2 = aw_xf h1 23 := hR2
  rw [hJ1.2.2.2.2] at hR2
  obtain ⟨hK2, ez⟩ := lw_Kundo lw_len hJ.1 hJ.2.1.1 hK0 hg1 hE1 hr1 hg2 same
  rw [← hR1] at hK2
  refine lw_n (pc := 262) rfl rfl ?_
  refine lw_n (pc := 263) rfl rfl ?_
  exact hK _ _ _ _ hJ2 (by rw [hR1, hR2]; exact hx) hK2
set_option maxRecDepth 20000 in
theorem lw_case6 (hL : L ≤ 3072) (hi : 0 ≤ i.toInt ∧ i.toInt + 6 ≤ L) (hJ : lw_J u h x1 c) (hx : x1.toInt = c.toInt) (hK0 : lw_K (cw_tb L xs) h x1.toInt.toNat) (hK : ∀ (u' : List Nat) (h' : aj_H) (x' c' : Int32), lw_J u' h' x' c' → x'.toInt = c'.toInt → lw_K (cw_tb L xs) h' x'.toInt.toNat → lw_T L xs 758 (lw_lv i) [] h' u') : lw_T L xs 266 (lw_lv i) [] h u := by
  have htb : ak_tbOK ak_C0 (cw_tb L xs) := cw_tbOK hL
  have htG : cw_tbG (cw_tb L xs) := cw_tbGok
  refine lw_n (pc := 266) rfl rfl ?_
  refine lw_cc2 (pc := 267) (idx := 41) (mi := 161) (n := 0) hJ rfl rfl [] rfl rfl (by decide) (lw_C161 htb htG hJ.1 hJ.2.1 (by decide) hJ.2.2.2.1) (fun u1 h1 z1 x2 q1 q2 hJ1 hR1 hE1 hr1 hg1 => ?_)
  refine lw_n (pc := 270) rfl rfl ?_
  refine lw_rc2 (pc := 271) (idx := 44) (mi := 284) (n := 0) hJ1 rfl rfl [] rfl rfl (Nat.le_of_ble_eq_true rfl) (ar_Q284 htb hJ1.1 hJ1.2.1 hJ1.2.2.1 (by decide)) (fun h2 z2 c2 q3 q4 hJ2 hR2 same hg2 => ?_)
  have hR1 : x2.toInt = 0 := hR1
  have hR2 : c2.toInt = 0 := hR2
  obtain ⟨hK2, ez⟩ := lw_Kask lw_len hJ.1 hJ.2.1.1 hJ.2.2.2.1 (by rw [hJ.2.2.2.2]; exact hx) hK0 hg1 hE1 hr1 hg2 same
  have e0 : x2.toInt.toNat = 0 := by rw [hR1]; rfl
  rw [← e0] at hK2
  refine lw_c (pc := 274) (tgt := 758) rfl rfl (fun _ => ?_) (fun z => ?_)
  · exact hK _ _ _ _ hJ2 (by omega) hK2
  · exfalso
    subst ez
    exact absurd z (by rw [show aj_test .eq z1 z1 = decide (z1 = z1) by simp [aj_test], decide_eq_true rfl]; decide)
set_option maxRecDepth 20000 in
theorem lw_case7 (hL : L ≤ 3072) (hi : 0 ≤ i.toInt ∧ i.toInt + 6 ≤ L) (hJ : lw_J u h x1 c) (hx : x1.toInt = c.toInt) (hK0 : lw_K (cw_tb L xs) h x1.toInt.toNat) (hK : ∀ (u' : List Nat) (h' : aj_H) (x' c' : Int32), lw_J u' h' x' c' → x'.toInt = c'.toInt → lw_K (cw_tb L xs) h' x'.toInt.toNat → lw_T L xs 758 (lw_lv i) [] h' u') : lw_T L xs 279 (lw_lv i) [] h u := by
  have htb : ak_tbOK ak_C0 (cw_tb L xs) := cw_tbOK hL
  have htG : cw_tbG (cw_tb L xs) := cw_tbGok
  refine lw_n (pc := 279) rfl rfl ?_
  refine lw_arg (pc := 280) (j := 1) rfl rfl rfl rfl rfl hi hL (by decide) ?_
  refine lw_cc2 (pc := 285) (idx := 45) (mi := 163) (n := 1) hJ rfl rfl [.int (lw_at xs i 1)] rfl rfl (by decide) (lw_C163 htb htG hJ.1 hJ.2.1 (by decide) (lw_at xs i 1) hJ.2.2.2.1) (fun u1 h1 z1 x2 q1 q2 hJ1 hR1 hE1 hr1 hg1 => ?_)
  refine lw_n (pc := 288) rfl rfl ?_
  refine lw_n (pc := 289) rfl rfl ?_
  refine lw_arg (pc := 290) (j := 1) rfl rfl rfl rfl rfl hi hL (by decide) ?_
  refine lw_rc2 (pc := 295) (idx := 48) (mi := 285) (n := 1) hJ1 rfl rfl [.int (lw_at xs i 1)] rfl rfl (Nat.le_of_ble_eq_true rfl) (ar_Q285 htb hJ1.1 hJ1.2.1 hJ1.2.2.1 (by decide) (lw_at xs i 1)) (fun h2 z2 c2 q3 q4 hJ2 hR2 same hg2 => ?_)
  have hR1 : x2 = x1 := hR1
  have hR2 : c2 = aw_xf h1 23 := hR2
  rw [hJ1.2.2.2.2] at hR2
  have hK2 := lw_Kq lw_len hJ.1 hJ.2.1.1 hK0 (gx_163_ok (lw_at xs i 1)) hg1 hE1 hr1 (lw_rk285 (lw_at xs i 1)) hg2 same
  rw [← hR1] at hK2
  refine lw_n (pc := 298) rfl rfl ?_
  refine lw_n (pc := 299) rfl rfl ?_
  exact hK _ _ _ _ hJ2 (by rw [hR1, hR2]; exact hx) hK2
set_option maxRecDepth 20000 in
theorem lw_case8 (hL : L ≤ 3072) (hi : 0 ≤ i.toInt ∧ i.toInt + 6 ≤ L) (hJ : lw_J u h x1 c) (hx : x1.toInt = c.toInt) (hK0 : lw_K (cw_tb L xs) h x1.toInt.toNat) (hK : ∀ (u' : List Nat) (h' : aj_H) (x' c' : Int32), lw_J u' h' x' c' → x'.toInt = c'.toInt → lw_K (cw_tb L xs) h' x'.toInt.toNat → lw_T L xs 758 (lw_lv i) [] h' u') : lw_T L xs 302 (lw_lv i) [] h u := by
  have htb : ak_tbOK ak_C0 (cw_tb L xs) := cw_tbOK hL
  have htG : cw_tbG (cw_tb L xs) := cw_tbGok
  refine lw_n (pc := 302) rfl rfl ?_
  refine lw_arg (pc := 303) (j := 1) rfl rfl rfl rfl rfl hi hL (by decide) ?_
  refine lw_arg (pc := 308) (j := 2) rfl rfl rfl rfl rfl hi hL (by decide) ?_
  refine lw_cc2 (pc := 313) (idx := 49) (mi := 172) (n := 2) hJ rfl rfl [.int (lw_at xs i 2), .int (lw_at xs i 1)] rfl rfl (by decide) (lw_C172 htb htG hJ.1 hJ.2.1 (by decide) (lw_at xs i 1) (lw_at xs i 2) hJ.2.2.2.1) (fun u1 h1 z1 x2 q1 q2 hJ1 hR1 hE1 hr1 hg1 => ?_)
  refine lw_n (pc := 316) rfl rfl ?_
  refine lw_n (pc := 317) rfl rfl ?_
  refine lw_arg (pc := 318) (j := 1) rfl rfl rfl rfl rfl hi hL (by decide) ?_
  refine lw_arg (pc := 323) (j := 2) rfl rfl rfl rfl rfl hi hL (by decide) ?_
  refine lw_rc2 (pc := 328) (idx := 53) (mi := 288) (n := 2) hJ1 rfl rfl [.int (lw_at xs i 2), .int (lw_at xs i 1)] rfl rfl (Nat.le_of_ble_eq_true rfl) (ar_Q288 htb hJ1.1 hJ1.2.1 hJ1.2.2.1 (by decide) (lw_at xs i 1) (lw_at xs i 2)) (fun h2 z2 c2 q3 q4 hJ2 hR2 same hg2 => ?_)
  have hR1 : x2 = x1 := hR1
  have hR2 : c2 = aw_xf h1 23 := hR2
  rw [hJ1.2.2.2.2] at hR2
  have hK2 := lw_Kq lw_len hJ.1 hJ.2.1.1 hK0 (gx_172_ok (lw_at xs i 1) (lw_at xs i 2)) hg1 hE1 hr1 (lw_rk288 (lw_at xs i 1) (lw_at xs i 2)) hg2 same
  rw [← hR1] at hK2
  refine lw_n (pc := 331) rfl rfl ?_
  refine lw_n (pc := 332) rfl rfl ?_
  exact hK _ _ _ _ hJ2 (by rw [hR1, hR2]; exact hx) hK2
set_option maxRecDepth 20000 in
theorem lw_case9 (hL : L ≤ 3072) (hi : 0 ≤ i.toInt ∧ i.toInt + 6 ≤ L) (hJ : lw_J u h x1 c) (hx : x1.toInt = c.toInt) (hK0 : lw_K (cw_tb L xs) h x1.toInt.toNat) (hK : ∀ (u' : List Nat) (h' : aj_H) (x' c' : Int32), lw_J u' h' x' c' → x'.toInt = c'.toInt → lw_K (cw_tb L xs) h' x'.toInt.toNat → lw_T L xs 758 (lw_lv i) [] h' u') : lw_T L xs 335 (lw_lv i) [] h u := by
  have htb : ak_tbOK ak_C0 (cw_tb L xs) := cw_tbOK hL
  have htG : cw_tbG (cw_tb L xs) := cw_tbGok
  refine lw_n (pc := 335) rfl rfl ?_
  refine lw_arg (pc := 336) (j := 1) rfl rfl rfl rfl rfl hi hL (by decide) ?_
  refine lw_arg (pc := 341) (j := 2) rfl rfl rfl rfl rfl hi hL (by decide) ?_
  refine lw_cc2 (pc := 346) (idx := 54) (mi := 173) (n := 2) hJ rfl rfl [.int (lw_at xs i 2), .int (lw_at xs i 1)] rfl rfl (by decide) (lw_C173 htb htG hJ.1 hJ.2.1 (by decide) (lw_at xs i 1) (lw_at xs i 2) hJ.2.2.2.1) (fun u1 h1 z1 x2 q1 q2 hJ1 hR1 hE1 hr1 hg1 => ?_)
  refine lw_n (pc := 349) rfl rfl ?_
  refine lw_n (pc := 350) rfl rfl ?_
  refine lw_arg (pc := 351) (j := 1) rfl rfl rfl rfl rfl hi hL (by decide) ?_
  refine lw_arg (pc := 356) (j := 2) rfl rfl rfl rfl rfl hi hL (by decide) ?_
  refine lw_rc2 (pc := 361) (idx := 57) (mi := 290) (n := 2) hJ1 rfl rfl [.int (lw_at xs i 2), .int (lw_at xs i 1)] rfl rfl (Nat.le_of_ble_eq_true rfl) (ar_Q290 htb hJ1.1 hJ1.2.1 hJ1.2.2.1 (by decide) (lw_at xs i 1) (lw_at xs i 2)) (fun h2 z2 c2 q3 q4 hJ2 hR2 same hg2 => ?_)
  have hR1 : x2 = x1 := hR1
  have hR2 : c2 = aw_xf h1 23 := hR2
  rw [hJ1.2.2.2.2] at hR2
  have hK2 := lw_Kq lw_len hJ.1 hJ.2.1.1 hK0 (gx_173_ok (lw_at xs i 1) (lw_at xs i 2)) hg1 hE1 hr1 (lw_rk290 (lw_at xs i 1) (lw_at xs i 2)) hg2 same
  rw [← hR1] at hK2
  refine lw_n (pc := 364) rfl rfl ?_
  refine lw_n (pc := 365) rfl rfl ?_
  exact hK _ _ _ _ hJ2 (by rw [hR1, hR2]; exact hx) hK2
set_option maxRecDepth 20000 in
theorem lw_case10 (hL : L ≤ 3072) (hi : 0 ≤ i.toInt ∧ i.toInt + 6 ≤ L) (hJ : lw_J u h x1 c) (hx : x1.toInt = c.toInt) (hK0 : lw_K (cw_tb L xs) h x1.toInt.toNat) (hK : ∀ (u' : List Nat) (h' : aj_H) (x' c' : Int32), lw_J u' h' x' c' → x'.toInt = c'.toInt → lw_K (cw_tb L xs) h' x'.toInt.toNat → lw_T L xs 758 (lw_lv i) [] h' u') : lw_T L xs 368 (lw_lv i) [] h u := by
  have htb : ak_tbOK ak_C0 (cw_tb L xs) := cw_tbOK hL
  have htG : cw_tbG (cw_tb L xs) := cw_tbGok
  refine lw_n (pc := 368) rfl rfl ?_
  refine lw_arg (pc := 369) (j := 1) rfl rfl rfl rfl rfl hi hL (by decide) ?_
  refine lw_arg (pc := 374) (j := 2) rfl rfl rfl rfl rfl hi hL (by decide) ?_
  refine lw_arg (pc := 379) (j := 3) rfl rfl rfl rfl rfl hi hL (by decide) ?_
  refine lw_arg (pc := 384) (j := 4) rfl rfl rfl rfl rfl hi hL (by decide) ?_
  refine lw_cc2 (pc := 389) (idx := 58) (mi := 186) (n := 4) hJ rfl rfl [.int (lw_at xs i 4), .int (lw_at xs i 3), .int (lw_at xs i 2), .int (lw_at xs i 1)] rfl rfl (by decide) (lw_C186 htb htG hJ.1 hJ.2.1 (by decide) (lw_at xs i 1) (lw_at xs i 2) (lw_at xs i 3) (lw_at xs i 4) hJ.2.2.2.1) (fun u1 h1 z1 x2 q1 q2 hJ1 hR1 hE1 hr1 hg1 => ?_)
  refine lw_n (pc := 392) rfl rfl ?_
  refine lw_n (pc := 393) rfl rfl ?_
  refine lw_arg (pc := 394) (j := 1) rfl rfl rfl rfl rfl hi hL (by decide) ?_
  refine lw_arg (pc := 399) (j := 2) rfl rfl rfl rfl rfl hi hL (by decide) ?_
  refine lw_arg (pc := 404) (j := 3) rfl rfl rfl rfl rfl hi hL (by decide) ?_
  refine lw_arg (pc := 409) (j := 4) rfl rfl rfl rfl rfl hi hL (by decide) ?_
  refine lw_rc2 (pc := 414) (idx := 62) (mi := 297) (n := 4) hJ1 rfl rfl [.int (lw_at xs i 4), .int (lw_at xs i 3), .int (lw_at xs i 2), .int (lw_at xs i 1)] rfl rfl (Nat.le_of_ble_eq_true rfl) (ar_Q297 htb hJ1.1 hJ1.2.1 hJ1.2.2.1 (by decide) (lw_at xs i 1) (lw_at xs i 2) (lw_at xs i 3) (lw_at xs i 4)) (fun h2 z2 c2 q3 q4 hJ2 hR2 same hg2 => ?_)
  have hR1 : x2 = x1 := hR1
  have hR2 : c2 = aw_xf h1 23 := hR2
  rw [hJ1.2.2.2.2] at hR2
  have hK2 := lw_Kq lw_len hJ.1 hJ.2.1.1 hK0 (gx_186_ok (lw_at xs i 1) (lw_at xs i 2) (lw_at xs i 3) (lw_at xs i 4)) hg1 hE1 hr1 (lw_rk297 (lw_at xs i 1) (lw_at xs i 2) (lw_at xs i 3) (lw_at xs i 4)) hg2 same
  rw [← hR1] at hK2
  refine lw_n (pc := 417) rfl rfl ?_
  refine lw_n (pc := 418) rfl rfl ?_
  exact hK _ _ _ _ hJ2 (by rw [hR1, hR2]; exact hx) hK2
set_option maxRecDepth 20000 in
theorem lw_case11 (hL : L ≤ 3072) (hi : 0 ≤ i.toInt ∧ i.toInt + 6 ≤ L) (hJ : lw_J u h x1 c) (hx : x1.toInt = c.toInt) (hK0 : lw_K (cw_tb L xs) h x1.toInt.toNat) (hK : ∀ (u' : List Nat) (h' : aj_H) (x' c' : Int32), lw_J u' h' x' c' → x'.toInt = c'.toInt → lw_K (cw_tb L xs) h' x'.toInt.toNat → lw_T L xs 758 (lw_lv i) [] h' u') : lw_T L xs 421 (lw_lv i) [] h u := by
  have htb : ak_tbOK ak_C0 (cw_tb L xs) := cw_tbOK hL
  have htG : cw_tbG (cw_tb L xs) := cw_tbGok
  refine lw_n (pc := 421) rfl rfl ?_
  refine lw_arg (pc := 422) (j := 1) rfl rfl rfl rfl rfl hi hL (by decide) ?_
  refine lw_arg (pc := 427) (j := 2) rfl rfl rfl rfl rfl hi hL (by decide) ?_
  refine lw_cc2 (pc := 432) (idx := 63) (mi := 187) (n := 2) hJ rfl rfl [.int (lw_at xs i 2), .int (lw_at xs i 1)] rfl rfl (by decide) (lw_C187 htb htG hJ.1 hJ.2.1 (by decide) (lw_at xs i 1) (lw_at xs i 2) hJ.2.2.2.1) (fun u1 h1 z1 x2 q1 q2 hJ1 hR1 hE1 hr1 hg1 => ?_)
  refine lw_n (pc := 435) rfl rfl ?_
  refine lw_n (pc := 436) rfl rfl ?_
  refine lw_arg (pc := 437) (j := 1) rfl rfl rfl rfl rfl hi hL (by decide) ?_
  refine lw_arg (pc := 442) (j := 2) rfl rfl rfl rfl rfl hi hL (by decide) ?_
  refine lw_rc2 (pc := 447) (idx := 66) (mi := 299) (n := 2) hJ1 rfl rfl [.int (lw_at xs i 2), .int (lw_at xs i 1)] rfl rfl (Nat.le_of_ble_eq_true rfl) (ar_Q299 htb hJ1.1 hJ1.2.1 hJ1.2.2.1 (by decide) (lw_at xs i 1) (lw_at xs i 2)) (fun h2 z2 c2 q3 q4 hJ2 hR2 same hg2 => ?_)
  have hR1 : x2 = x1 := hR1
  have hR2 : c2 = aw_xf h1 23 := hR2
  rw [hJ1.2.2.2.2] at hR2
  have hK2 := lw_Kq lw_len hJ.1 hJ.2.1.1 hK0 (gx_187_ok (lw_at xs i 1) (lw_at xs i 2)) hg1 hE1 hr1 (lw_rk299 (lw_at xs i 1) (lw_at xs i 2)) hg2 same
  rw [← hR1] at hK2
  refine lw_n (pc := 450) rfl rfl ?_
  refine lw_n (pc := 451) rfl rfl ?_
  exact hK _ _ _ _ hJ2 (by rw [hR1, hR2]; exact hx) hK2
set_option maxRecDepth 20000 in
theorem lw_case12 (hL : L ≤ 3072) (hi : 0 ≤ i.toInt ∧ i.toInt + 6 ≤ L) (hJ : lw_J u h x1 c) (hx : x1.toInt = c.toInt) (hK0 : lw_K (cw_tb L xs) h x1.toInt.toNat) (hK : ∀ (u' : List Nat) (h' : aj_H) (x' c' : Int32), lw_J u' h' x' c' → x'.toInt = c'.toInt → lw_K (cw_tb L xs) h' x'.toInt.toNat → lw_T L xs 758 (lw_lv i) [] h' u') : lw_T L xs 454 (lw_lv i) [] h u := by
  have htb : ak_tbOK ak_C0 (cw_tb L xs) := cw_tbOK hL
  have htG : cw_tbG (cw_tb L xs) := cw_tbGok
  refine lw_n (pc := 454) rfl rfl ?_
  refine lw_arg (pc := 455) (j := 1) rfl rfl rfl rfl rfl hi hL (by decide) ?_
  refine lw_arg (pc := 460) (j := 2) rfl rfl rfl rfl rfl hi hL (by decide) ?_
  refine lw_arg (pc := 465) (j := 3) rfl rfl rfl rfl rfl hi hL (by decide) ?_
  refine lw_cc2 (pc := 470) (idx := 67) (mi := 188) (n := 3) hJ rfl rfl [.int (lw_at xs i 3), .int (lw_at xs i 2), .int (lw_at xs i 1)] rfl rfl (by decide) (lw_C188 htb htG hJ.1 hJ.2.1 (by decide) (lw_at xs i 1) (lw_at xs i 2) (lw_at xs i 3) hJ.2.2.2.1) (fun u1 h1 z1 x2 q1 q2 hJ1 hR1 hE1 hr1 hg1 => ?_)
  refine lw_n (pc := 473) rfl rfl ?_
  refine lw_n (pc := 474) rfl rfl ?_
  refine lw_arg (pc := 475) (j := 1) rfl rfl rfl rfl rfl hi hL (by decide) ?_
  refine lw_arg (pc := 480) (j := 2) rfl rfl rfl rfl rfl hi hL (by decide) ?_
  refine lw_arg (pc := 485) (j := 3) rfl rfl rfl rfl rfl hi hL (by decide) ?_
  refine lw_rc2 (pc := 490) (idx := 71) (mi := 300) (n := 3) hJ1 rfl rfl [.int (lw_at xs i 3), .int (lw_at xs i 2), .int (lw_at xs i 1)] rfl rfl (Nat.le_of_ble_eq_true rfl) (ar_Q300 htb hJ1.1 hJ1.2.1 hJ1.2.2.1 (by decide) (lw_at xs i 1) (lw_at xs i 2) (lw_at xs i 3)) (fun h2 z2 c2 q3 q4 hJ2 hR2 same hg2 => ?_)
  have hR1 : x2 = x1 := hR1
  have hR2 : c2 = aw_xf h1 23 := hR2
  rw [hJ1.2.2.2.2] at hR2
  have hK2 := lw_Kq lw_len hJ.1 hJ.2.1.1 hK0 (gx_188_ok (lw_at xs i 1) (lw_at xs i 2) (lw_at xs i 3)) hg1 hE1 hr1 (lw_rk300 (lw_at xs i 1) (lw_at xs i 2) (lw_at xs i 3)) hg2 same
  rw [← hR1] at hK2
  refine lw_n (pc := 493) rfl rfl ?_
  refine lw_n (pc := 494) rfl rfl ?_
  exact hK _ _ _ _ hJ2 (by rw [hR1, hR2]; exact hx) hK2
set_option maxRecDepth 20000 in
theorem lw_case13 (hL : L ≤ 3072) (hi : 0 ≤ i.toInt ∧ i.toInt + 6 ≤ L) (hJ : lw_J u h x1 c) (hx : x1.toInt = c.toInt) (hK0 : lw_K (cw_tb L xs) h x1.toInt.toNat) (hK : ∀ (u' : List Nat) (h' : aj_H) (x' c' : Int32), lw_J u' h' x' c' → x'.toInt = c'.toInt → lw_K (cw_tb L xs) h' x'.toInt.toNat → lw_T L xs 758 (lw_lv i) [] h' u') : lw_T L xs 497 (lw_lv i) [] h u := by
  have htb : ak_tbOK ak_C0 (cw_tb L xs) := cw_tbOK hL
  have htG : cw_tbG (cw_tb L xs) := cw_tbGok
  refine lw_n (pc := 497) rfl rfl ?_
  refine lw_arg (pc := 498) (j := 1) rfl rfl rfl rfl rfl hi hL (by decide) ?_
  refine lw_arg (pc := 503) (j := 2) rfl rfl rfl rfl rfl hi hL (by decide) ?_
  refine lw_cc2 (pc := 508) (idx := 72) (mi := 189) (n := 2) hJ rfl rfl [.int (lw_at xs i 2), .int (lw_at xs i 1)] rfl rfl (by decide) (lw_C189 htb htG hJ.1 hJ.2.1 (by decide) (lw_at xs i 1) (lw_at xs i 2) hJ.2.2.2.1) (fun u1 h1 z1 x2 q1 q2 hJ1 hR1 hE1 hr1 hg1 => ?_)
  refine lw_n (pc := 511) rfl rfl ?_
  refine lw_n (pc := 512) rfl rfl ?_
  refine lw_arg (pc := 513) (j := 1) rfl rfl rfl rfl rfl hi hL (by decide) ?_
  refine lw_arg (pc := 518) (j := 2) rfl rfl rfl rfl rfl hi hL (by decide) ?_
  refine lw_rc2 (pc := 523) (idx := 75) (mi := 301) (n := 2) hJ1 rfl rfl [.int (lw_at xs i 2), .int (lw_at xs i 1)] rfl rfl (Nat.le_of_ble_eq_true rfl) (ar_Q301 htb hJ1.1 hJ1.2.1 hJ1.2.2.1 (by decide) (lw_at xs i 1) (lw_at xs i 2)) (fun h2 z2 c2 q3 q4 hJ2 hR2 same hg2 => ?_)
  have hR1 : x2 = x1 := hR1
  have hR2 : c2 = aw_xf h1 23 := hR2
  rw [hJ1.2.2.2.2] at hR2
  have hK2 := lw_Kq lw_len hJ.1 hJ.2.1.1 hK0 (gx_189_ok (lw_at xs i 1) (lw_at xs i 2)) hg1 hE1 hr1 (lw_rk301 (lw_at xs i 1) (lw_at xs i 2)) hg2 same
  rw [← hR1] at hK2
  refine lw_n (pc := 526) rfl rfl ?_
  refine lw_n (pc := 527) rfl rfl ?_
  exact hK _ _ _ _ hJ2 (by rw [hR1, hR2]; exact hx) hK2
set_option maxRecDepth 20000 in
theorem lw_case14 (hL : L ≤ 3072) (hi : 0 ≤ i.toInt ∧ i.toInt + 6 ≤ L) (hJ : lw_J u h x1 c) (hx : x1.toInt = c.toInt) (hK0 : lw_K (cw_tb L xs) h x1.toInt.toNat) (hK : ∀ (u' : List Nat) (h' : aj_H) (x' c' : Int32), lw_J u' h' x' c' → x'.toInt = c'.toInt → lw_K (cw_tb L xs) h' x'.toInt.toNat → lw_T L xs 758 (lw_lv i) [] h' u') : lw_T L xs 530 (lw_lv i) [] h u := by
  have htb : ak_tbOK ak_C0 (cw_tb L xs) := cw_tbOK hL
  have htG : cw_tbG (cw_tb L xs) := cw_tbGok
  refine lw_n (pc := 530) rfl rfl ?_
  refine lw_arg (pc := 531) (j := 1) rfl rfl rfl rfl rfl hi hL (by decide) ?_
  refine lw_arg (pc := 536) (j := 2) rfl rfl rfl rfl rfl hi hL (by decide) ?_
  refine lw_arg (pc := 541) (j := 3) rfl rfl rfl rfl rfl hi hL (by decide) ?_
  refine lw_arg (pc := 546) (j := 4) rfl rfl rfl rfl rfl hi hL (by decide) ?_
  refine lw_cc2 (pc := 551) (idx := 76) (mi := 190) (n := 4) hJ rfl rfl [.int (lw_at xs i 4), .int (lw_at xs i 3), .int (lw_at xs i 2), .int (lw_at xs i 1)] rfl rfl (by decide) (lw_C190 htb htG hJ.1 hJ.2.1 (by decide) (lw_at xs i 1) (lw_at xs i 2) (lw_at xs i 3) (lw_at xs i 4) hJ.2.2.2.1) (fun u1 h1 z1 x2 q1 q2 hJ1 hR1 hE1 hr1 hg1 => ?_)
  refine lw_n (pc := 554) rfl rfl ?_
  refine lw_n (pc := 555) rfl rfl ?_
  refine lw_arg (pc := 556) (j := 1) rfl rfl rfl rfl rfl hi hL (by decide) ?_
  refine lw_arg (pc := 561) (j := 2) rfl rfl rfl rfl rfl hi hL (by decide) ?_
  refine lw_arg (pc := 566) (j := 3) rfl rfl rfl rfl rfl hi hL (by decide) ?_
  refine lw_arg (pc := 571) (j := 4) rfl rfl rfl rfl rfl hi hL (by decide) ?_
  refine lw_rc2 (pc := 576) (idx := 79) (mi := 302) (n := 4) hJ1 rfl rfl [.int (lw_at xs i 4), .int (lw_at xs i 3), .int (lw_at xs i 2), .int (lw_at xs i 1)] rfl rfl (Nat.le_of_ble_eq_true rfl) (ar_Q302 htb hJ1.1 hJ1.2.1 hJ1.2.2.1 (by decide) (lw_at xs i 1) (lw_at xs i 2) (lw_at xs i 3) (lw_at xs i 4)) (fun h2 z2 c2 q3 q4 hJ2 hR2 same hg2 => ?_)
  have hR1 : x2 = x1 := hR1
  have hR2 : c2 = aw_xf h1 23 := hR2
  rw [hJ1.2.2.2.2] at hR2
  have hK2 := lw_Kq lw_len hJ.1 hJ.2.1.1 hK0 (gx_190_ok (lw_at xs i 1) (lw_at xs i 2) (lw_at xs i 3) (lw_at xs i 4)) hg1 hE1 hr1 (lw_rk302 (lw_at xs i 1) (lw_at xs i 2) (lw_at xs i 3) (lw_at xs i 4)) hg2 same
  rw [← hR1] at hK2
  refine lw_n (pc := 579) rfl rfl ?_
  refine lw_n (pc := 580) rfl rfl ?_
  exact hK _ _ _ _ hJ2 (by rw [hR1, hR2]; exact hx) hK2
set_option maxRecDepth 20000 in
theorem lw_case15 (hL : L ≤ 3072) (hi : 0 ≤ i.toInt ∧ i.toInt + 6 ≤ L) (hJ : lw_J u h x1 c) (hx : x1.toInt = c.toInt) (hK0 : lw_K (cw_tb L xs) h x1.toInt.toNat) (hK : ∀ (u' : List Nat) (h' : aj_H) (x' c' : Int32), lw_J u' h' x' c' → x'.toInt = c'.toInt → lw_K (cw_tb L xs) h' x'.toInt.toNat → lw_T L xs 758 (lw_lv i) [] h' u') : lw_T L xs 583 (lw_lv i) [] h u := by
  have htb : ak_tbOK ak_C0 (cw_tb L xs) := cw_tbOK hL
  have htG : cw_tbG (cw_tb L xs) := cw_tbGok
  refine lw_n (pc := 583) rfl rfl ?_
  refine lw_arg (pc := 584) (j := 1) rfl rfl rfl rfl rfl hi hL (by decide) ?_
  refine lw_arg (pc := 589) (j := 2) rfl rfl rfl rfl rfl hi hL (by decide) ?_
  refine lw_arg (pc := 594) (j := 3) rfl rfl rfl rfl rfl hi hL (by decide) ?_
  refine lw_cc2 (pc := 599) (idx := 80) (mi := 191) (n := 3) hJ rfl rfl [.int (lw_at xs i 3), .int (lw_at xs i 2), .int (lw_at xs i 1)] rfl rfl (by decide) (lw_C191 htb htG hJ.1 hJ.2.1 (by decide) (lw_at xs i 1) (lw_at xs i 2) (lw_at xs i 3) hJ.2.2.2.1) (fun u1 h1 z1 x2 q1 q2 hJ1 hR1 hE1 hr1 hg1 => ?_)
  refine lw_n (pc := 602) rfl rfl ?_
  refine lw_n (pc := 603) rfl rfl ?_
  refine lw_arg (pc := 604) (j := 1) rfl rfl rfl rfl rfl hi hL (by decide) ?_
  refine lw_arg (pc := 609) (j := 2) rfl rfl rfl rfl rfl hi hL (by decide) ?_
  refine lw_arg (pc := 614) (j := 3) rfl rfl rfl rfl rfl hi hL (by decide) ?_
  refine lw_rc2 (pc := 619) (idx := 84) (mi := 303) (n := 3) hJ1 rfl rfl [.int (lw_at xs i 3), .int (lw_at xs i 2), .int (lw_at xs i 1)] rfl rfl (Nat.le_of_ble_eq_true rfl) (ar_Q303 htb hJ1.1 hJ1.2.1 hJ1.2.2.1 (by decide) (lw_at xs i 1) (lw_at xs i 2) (lw_at xs i 3)) (fun h2 z2 c2 q3 q4 hJ2 hR2 same hg2 => ?_)
  have hR1 : x2 = x1 := hR1
  have hR2 : c2 = aw_xf h1 23 := hR2
  rw [hJ1.2.2.2.2] at hR2
  have hK2 := lw_Kq lw_len hJ.1 hJ.2.1.1 hK0 (gx_191_ok (lw_at xs i 1) (lw_at xs i 2) (lw_at xs i 3)) hg1 hE1 hr1 (lw_rk303 (lw_at xs i 1) (lw_at xs i 2) (lw_at xs i 3)) hg2 same
  rw [← hR1] at hK2
  refine lw_n (pc := 622) rfl rfl ?_
  refine lw_n (pc := 623) rfl rfl ?_
  exact hK _ _ _ _ hJ2 (by rw [hR1, hR2]; exact hx) hK2
set_option maxRecDepth 20000 in
theorem lw_case16 (hL : L ≤ 3072) (hi : 0 ≤ i.toInt ∧ i.toInt + 6 ≤ L) (hJ : lw_J u h x1 c) (hx : x1.toInt = c.toInt) (hK0 : lw_K (cw_tb L xs) h x1.toInt.toNat) (hK : ∀ (u' : List Nat) (h' : aj_H) (x' c' : Int32), lw_J u' h' x' c' → x'.toInt = c'.toInt → lw_K (cw_tb L xs) h' x'.toInt.toNat → lw_T L xs 758 (lw_lv i) [] h' u') : lw_T L xs 626 (lw_lv i) [] h u := by
  have htb : ak_tbOK ak_C0 (cw_tb L xs) := cw_tbOK hL
  have htG : cw_tbG (cw_tb L xs) := cw_tbGok
  refine lw_n (pc := 626) rfl rfl ?_
  refine lw_arg (pc := 627) (j := 1) rfl rfl rfl rfl rfl hi hL (by decide) ?_
  refine lw_arg (pc := 632) (j := 2) rfl rfl rfl rfl rfl hi hL (by decide) ?_
  refine lw_arg (pc := 637) (j := 3) rfl rfl rfl rfl rfl hi hL (by decide) ?_
  refine lw_cc2 (pc := 642) (idx := 85) (mi := 194) (n := 3) hJ rfl rfl [.int (lw_at xs i 3), .int (lw_at xs i 2), .int (lw_at xs i 1)] rfl rfl (by decide) (lw_C194 htb htG hJ.1 hJ.2.1 (by decide) (lw_at xs i 1) (lw_at xs i 2) (lw_at xs i 3) hJ.2.2.2.1) (fun u1 h1 z1 x2 q1 q2 hJ1 hR1 hE1 hr1 hg1 => ?_)
  refine lw_n (pc := 645) rfl rfl ?_
  refine lw_n (pc := 646) rfl rfl ?_
  refine lw_arg (pc := 647) (j := 1) rfl rfl rfl rfl rfl hi hL (by decide) ?_
  refine lw_arg (pc := 652) (j := 2) rfl rfl rfl rfl rfl hi hL (by decide) ?_
  refine lw_arg (pc := 657) (j := 3) rfl rfl rfl rfl rfl hi hL (by decide) ?_
  refine lw_rc2 (pc := 662) (idx := 88) (mi := 304) (n := 3) hJ1 rfl rfl [.int (lw_at xs i 3), .int (lw_at xs i 2), .int (lw_at xs i 1)] rfl rfl (Nat.le_of_ble_eq_true rfl) (ar_Q304 htb hJ1.1 hJ1.2.1 hJ1.2.2.1 (by decide) (lw_at xs i 1) (lw_at xs i 2) (lw_at xs i 3)) (fun h2 z2 c2 q3 q4 hJ2 hR2 same hg2 => ?_)
  have hR1 : x2 = x1 := hR1
  have hR2 : c2 = aw_xf h1 23 := hR2
  rw [hJ1.2.2.2.2] at hR2
  have hK2 := lw_Kq lw_len hJ.1 hJ.2.1.1 hK0 (gx_194_ok (lw_at xs i 1) (lw_at xs i 2) (lw_at xs i 3)) hg1 hE1 hr1 (lw_rk304 (lw_at xs i 1) (lw_at xs i 2) (lw_at xs i 3)) hg2 same
  rw [← hR1] at hK2
  refine lw_n (pc := 665) rfl rfl ?_
  refine lw_n (pc := 666) rfl rfl ?_
  exact hK _ _ _ _ hJ2 (by rw [hR1, hR2]; exact hx) hK2
set_option maxRecDepth 20000 in
theorem lw_case17 (hL : L ≤ 3072) (hi : 0 ≤ i.toInt ∧ i.toInt + 6 ≤ L) (hJ : lw_J u h x1 c) (hx : x1.toInt = c.toInt) (hK0 : lw_K (cw_tb L xs) h x1.toInt.toNat) (hK : ∀ (u' : List Nat) (h' : aj_H) (x' c' : Int32), lw_J u' h' x' c' → x'.toInt = c'.toInt → lw_K (cw_tb L xs) h' x'.toInt.toNat → lw_T L xs 758 (lw_lv i) [] h' u') : lw_T L xs 669 (lw_lv i) [] h u := by
  have htb : ak_tbOK ak_C0 (cw_tb L xs) := cw_tbOK hL
  have htG : cw_tbG (cw_tb L xs) := cw_tbGok
  refine lw_n (pc := 669) rfl rfl ?_
  refine lw_arg (pc := 670) (j := 1) rfl rfl rfl rfl rfl hi hL (by decide) ?_
  refine lw_arg (pc := 675) (j := 2) rfl rfl rfl rfl rfl hi hL (by decide) ?_
  refine lw_cc2 (pc := 680) (idx := 89) (mi := 195) (n := 2) hJ rfl rfl [.int (lw_at xs i 2), .int (lw_at xs i 1)] rfl rfl (by decide) (lw_C195 htb htG hJ.1 hJ.2.1 (by decide) (lw_at xs i 1) (lw_at xs i 2) hJ.2.2.2.1) (fun u1 h1 z1 x2 q1 q2 hJ1 hR1 hE1 hr1 hg1 => ?_)
  refine lw_n (pc := 683) rfl rfl ?_
  refine lw_n (pc := 684) rfl rfl ?_
  refine lw_arg (pc := 685) (j := 1) rfl rfl rfl rfl rfl hi hL (by decide) ?_
  refine lw_arg (pc := 690) (j := 2) rfl rfl rfl rfl rfl hi hL (by decide) ?_
  refine lw_rc2 (pc := 695) (idx := 92) (mi := 305) (n := 2) hJ1 rfl rfl [.int (lw_at xs i 2), .int (lw_at xs i 1)] rfl rfl (Nat.le_of_ble_eq_true rfl) (ar_Q305 htb hJ1.1 hJ1.2.1 hJ1.2.2.1 (by decide) (lw_at xs i 1) (lw_at xs i 2)) (fun h2 z2 c2 q3 q4 hJ2 hR2 same hg2 => ?_)
  have hR1 : x2 = x1 := hR1
  have hR2 : c2 = aw_xf h1 23 := hR2
  rw [hJ1.2.2.2.2] at hR2
  have hK2 := lw_Kq lw_len hJ.1 hJ.2.1.1 hK0 (gx_195_ok (lw_at xs i 1) (lw_at xs i 2)) hg1 hE1 hr1 (lw_rk305 (lw_at xs i 1) (lw_at xs i 2)) hg2 same
  rw [← hR1] at hK2
  refine lw_n (pc := 698) rfl rfl ?_
  refine lw_n (pc := 699) rfl rfl ?_
  exact hK _ _ _ _ hJ2 (by rw [hR1, hR2]; exact hx) hK2
set_option maxRecDepth 20000 in
theorem lw_case18 (hL : L ≤ 3072) (hi : 0 ≤ i.toInt ∧ i.toInt + 6 ≤ L) (hJ : lw_J u h x1 c) (hx : x1.toInt = c.toInt) (hK0 : lw_K (cw_tb L xs) h x1.toInt.toNat) (hK : ∀ (u' : List Nat) (h' : aj_H) (x' c' : Int32), lw_J u' h' x' c' → x'.toInt = c'.toInt → lw_K (cw_tb L xs) h' x'.toInt.toNat → lw_T L xs 758 (lw_lv i) [] h' u') : lw_T L xs 702 (lw_lv i) [] h u := by
  have htb : ak_tbOK ak_C0 (cw_tb L xs) := cw_tbOK hL
  have htG : cw_tbG (cw_tb L xs) := cw_tbGok
  refine lw_n (pc := 702) rfl rfl ?_
  refine lw_arg (pc := 703) (j := 1) rfl rfl rfl rfl rfl hi hL (by decide) ?_
  refine lw_arg (pc := 708) (j := 2) rfl rfl rfl rfl rfl hi hL (by decide) ?_
  refine lw_cc2 (pc := 713) (idx := 93) (mi := 196) (n := 2) hJ rfl rfl [.int (lw_at xs i 2), .int (lw_at xs i 1)] rfl rfl (by decide) (lw_C196 htb htG hJ.1 hJ.2.1 (by decide) (lw_at xs i 1) (lw_at xs i 2) hJ.2.2.2.1) (fun u1 h1 z1 x2 q1 q2 hJ1 hR1 hE1 hr1 hg1 => ?_)
  refine lw_n (pc := 716) rfl rfl ?_
  refine lw_n (pc := 717) rfl rfl ?_
  refine lw_arg (pc := 718) (j := 1) rfl rfl rfl rfl rfl hi hL (by decide) ?_
  refine lw_arg (pc := 723) (j := 2) rfl rfl rfl rfl rfl hi hL (by decide) ?_
  refine lw_rc2 (pc := 728) (idx := 96) (mi := 306) (n := 2) hJ1 rfl rfl [.int (lw_at xs i 2), .int (lw_at xs i 1)] rfl rfl (Nat.le_of_ble_eq_true rfl) (ar_Q306 htb hJ1.1 hJ1.2.1 hJ1.2.2.1 (by decide) (lw_at xs i 1) (lw_at xs i 2)) (fun h2 z2 c2 q3 q4 hJ2 hR2 same hg2 => ?_)
  have hR1 : x2 = x1 := hR1
  have hR2 : c2 = aw_xf h1 23 := hR2
  rw [hJ1.2.2.2.2] at hR2
  have hK2 := lw_Kq lw_len hJ.1 hJ.2.1.1 hK0 (gx_196_ok (lw_at xs i 1) (lw_at xs i 2)) hg1 hE1 hr1 (lw_rk306 (lw_at xs i 1) (lw_at xs i 2)) hg2 same
  rw [← hR1] at hK2
  refine lw_n (pc := 731) rfl rfl ?_
  refine lw_n (pc := 732) rfl rfl ?_
  exact hK _ _ _ _ hJ2 (by rw [hR1, hR2]; exact hx) hK2
set_option maxRecDepth 20000 in
theorem lw_case19 (hL : L ≤ 3072) (hi : 0 ≤ i.toInt ∧ i.toInt + 6 ≤ L) (hJ : lw_J u h x1 c) (hx : x1.toInt = c.toInt) (hK0 : lw_K (cw_tb L xs) h x1.toInt.toNat) (hK : ∀ (u' : List Nat) (h' : aj_H) (x' c' : Int32), lw_J u' h' x' c' → x'.toInt = c'.toInt → lw_K (cw_tb L xs) h' x'.toInt.toNat → lw_T L xs 758 (lw_lv i) [] h' u') : lw_T L xs 735 (lw_lv i) [] h u := by
  have htb : ak_tbOK ak_C0 (cw_tb L xs) := cw_tbOK hL
  have htG : cw_tbG (cw_tb L xs) := cw_tbGok
  refine lw_n (pc := 735) rfl rfl ?_
  refine lw_arg (pc := 736) (j := 1) rfl rfl rfl rfl rfl hi hL (by decide) ?_
  refine lw_cc2 (pc := 741) (idx := 97) (mi := 198) (n := 1) hJ rfl rfl [.int (lw_at xs i 1)] rfl rfl (by decide) (lw_C198 htb htG hJ.1 hJ.2.1 (by decide) (lw_at xs i 1) hJ.2.2.2.1) (fun u1 h1 z1 x2 q1 q2 hJ1 hR1 hE1 hr1 hg1 => ?_)
  refine lw_n (pc := 744) rfl rfl ?_
  refine lw_n (pc := 745) rfl rfl ?_
  refine lw_arg (pc := 746) (j := 1) rfl rfl rfl rfl rfl hi hL (by decide) ?_
  refine lw_rc2 (pc := 751) (idx := 100) (mi := 308) (n := 1) hJ1 rfl rfl [.int (lw_at xs i 1)] rfl rfl (Nat.le_of_ble_eq_true rfl) (ar_Q308 htb hJ1.1 hJ1.2.1 hJ1.2.2.1 (by decide) (lw_at xs i 1)) (fun h2 z2 c2 q3 q4 hJ2 hR2 same hg2 => ?_)
  have hR1 : x2 = x1 := hR1
  have hR2 : c2 = aw_xf h1 23 := hR2
  rw [hJ1.2.2.2.2] at hR2
  have hK2 := lw_Kq lw_len hJ.1 hJ.2.1.1 hK0 (gx_198_ok (lw_at xs i 1)) hg1 hE1 hr1 (lw_rk308 (lw_at xs i 1)) hg2 same
  rw [← hR1] at hK2
  refine lw_n (pc := 754) rfl rfl ?_
  refine lw_n (pc := 755) rfl rfl ?_
  exact hK _ _ _ _ hJ2 (by rw [hR1, hR2]; exact hx) hK2
theorem lw_ts0 {x : Int32} (hx : 19 < x.toInt) (k : lw_TF L xs 758 lv rest h kc ks) : lw_TF L xs 33 lv (.int x :: rest) h kc ks := by
  refine lw_n (pc := 33) (ins := .tableswitch 725 0 19 #[95, 158, 181, 194, 207, 220, 233, 246, 269, 302, 335, 388, 421, 464, 497, 550, 593, 636, 669, 702]) (len := 95) rfl ?_ k
  unfold aj_step
  dsimp only
  rw [if_pos (Or.inr hx)]
  rfl
theorem lw_tsk {x : Int32} {n tgt : Nat} {off : Int} (hx : x.toInt = n) (hn : n ≤ 19) (ho : (#[95, 158, 181, 194, 207, 220, 233, 246, 269, 302, 335, 388, 421, 464, 497, 550, 593, 636, 669, 702] : Array Int)[n]? = some off) (ht : ((33 : Nat) : Int) + off = (tgt : Int)) (k : lw_TF L xs tgt lv rest h kc ks) : lw_TF L xs 33 lv (.int x :: rest) h kc ks := by
  refine lw_n (pc := 33) (ins := .tableswitch 725 0 19 #[95, 158, 181, 194, 207, 220, 233, 246, 269, 302, 335, 388, 421, 464, 497, 550, 593, 636, 669, 702]) (len := 95) rfl ?_ k
  unfold aj_step
  dsimp only
  rw [if_neg (by omega), show (x.toInt - 0).toNat = n by omega, ho]
  show (if 0 ≤ ((33 : Nat) : Int) + off then aj_go (((33 : Nat) : Int) + off).toNat lv rest h else none) = _
  rw [ht, if_pos (Int.natCast_nonneg _), Int.toNat_natCast]
  rfl
theorem lw_tst_gt {x y : Int32} : aj_test .gt x y = decide (y.toInt < x.toInt) := by
  show decide (y < x) = _
  exact decide_eq_decide.mpr Int32.lt_iff_toInt_lt
set_option maxRecDepth 20000 in
theorem lw_loop (hL : L ≤ 3072) : ∀ (N : Nat) (i : Int32) (u : List Nat) (h : aj_H) (x1 c : Int32), 0 ≤ i.toInt ∧ (i.toInt = 0 ∨ i.toInt ≤ L) → (L - i.toInt).toNat < N → lw_J u h x1 c → x1.toInt = c.toInt → lw_K (cw_tb L xs) h x1.toInt.toNat → lw_T L xs 18 (lw_lv i) [] h u := by
  intro N
  induction N with
  | zero => intro i u h x1 c _ z; exact absurd z (Nat.not_lt_zero _)
  | succ N ih =>
    intro i u h x1 c hi0 hN hJ hx hK0
    have eL : (Int32.ofNat L).toInt = L := by
      have e := aw_nIi (a := L) (by omega)
      exact e
    have es : ((fun x y : Int32 => x - y) (Int32.ofNat L) (Int8.ofInt 6).toInt32).toInt = L - 6 := by
      show (Int32.ofNat L - (Int8.ofInt 6).toInt32).toInt = _
      rw [Int32.toInt_sub, eL]
      exact ak_bm (by
        show -2147483648 ≤ (L : Int) - 6
        omega) (by
        show (L : Int) - 6 ≤ 2147483647
        omega)
    refine lw_n (pc := 18) rfl rfl ?_
    refine lw_n (pc := 19) rfl rfl ?_
    refine lw_al (pc := 20) rfl ?_
    refine lw_n (pc := 21) rfl rfl ?_
    refine lw_n (pc := 23) rfl rfl ?_
    refine lw_c (pc := 24) (tgt := 764) rfl rfl (fun z => ?_) (fun z => ?_)
    · refine lw_n (pc := 764) rfl rfl ?_
      obtain ⟨u', eu, l1, l2⟩ := cw_size hJ.1 hJ.2.1
      obtain rfl := List.append_cancel_left eu
      have k0 := aj_k0_le
      generalize aj_k0 = q at k0 ⊢
      exact ⟨98 + u.length, h, ⟨Nat.le_refl _, by omega⟩, by omega, by omega, aj_te aj_ctL rfl rfl⟩
    · rw [lw_tst_gt, es] at z
      have z := of_decide_eq_false z
      have hi : 0 ≤ i.toInt ∧ i.toInt + 6 ≤ L := by omega
      have hK : ∀ (u' : List Nat) (h' : aj_H) (x' c' : Int32), lw_J u' h' x' c' → x'.toInt = c'.toInt → lw_K (cw_tb L xs) h' x'.toInt.toNat → lw_T L xs 758 (lw_lv i) [] h' u' := by
        intro u' h' x' c' hJ' hx' hK'
        refine lw_n (pc := 758) rfl rfl ?_
        refine lw_n (pc := 761) rfl rfl ?_
        have e6 : (i + Int32.ofInt 6).toInt = i.toInt + 6 := by
          rw [Int32.toInt_add]
          exact ak_bm (by
            show -2147483648 ≤ i.toInt + 6
            omega) (by
            show i.toInt + 6 ≤ 2147483647
            omega)
        exact ih (i + Int32.ofInt 6) u' h' x' c' (by omega) (by omega) hJ' hx' hK'
      refine lw_n (pc := 27) rfl rfl ?_
      refine lw_n (pc := 28) rfl rfl ?_
      refine lw_ld (pc := 29) (x := i) rfl rfl (by omega) (by omega) ?_
      refine lw_n (pc := 30) rfl rfl ?_
      refine lw_n (pc := 32) rfl rfl ?_
      obtain ⟨w, ew⟩ : ∃ w : Int32, w = (fun x y : Int32 => x &&& y) (xs i.toNatClampNeg) (Int8.ofInt 31).toInt32 := ⟨_, rfl⟩
      have bw : 0 ≤ w.toInt ∧ w.toInt ≤ 31 := by
        rw [ew]
        exact ak_and_r (x := xs i.toNatClampNeg) (y := (Int8.ofInt 31).toInt32) (by decide)
      show lw_T L xs 33 (lw_lv i) [.int ((fun x y : Int32 => x &&& y) (xs i.toNatClampNeg) (Int8.ofInt 31).toInt32)] h u
      rw [← ew]
      by_cases c19 : 19 < w.toInt
      · exact lw_ts0 c19 (hK u h x1 c hJ hx hK0)
      · have hw : w.toInt = 0 ∨ w.toInt = 1 ∨ w.toInt = 2 ∨ w.toInt = 3 ∨ w.toInt = 4 ∨ w.toInt = 5 ∨ w.toInt = 6 ∨ w.toInt = 7 ∨ w.toInt = 8 ∨ w.toInt = 9 ∨ w.toInt = 10 ∨ w.toInt = 11 ∨ w.toInt = 12 ∨ w.toInt = 13 ∨ w.toInt = 14 ∨ w.toInt = 15 ∨ w.toInt = 16 ∨ w.toInt = 17 ∨ w.toInt = 18 ∨ w.toInt = 19 := by omega
        rcases hw with q | q | q | q | q | q | q | q | q | q | q | q | q | q | q | q | q | q | q | q
        · exact lw_tsk (n := 0) (tgt := 128) q (by decide) rfl rfl (lw_case0 hL hi hJ hx hK0 hK)
        · exact lw_tsk (n := 1) (tgt := 191) q (by decide) rfl rfl (lw_case1 hL hi hJ hx hK0 hK)
        · exact lw_tsk (n := 2) (tgt := 214) q (by decide) rfl rfl (lw_case2 hL hi hJ hx hK0 hK)
        · exact lw_tsk (n := 3) (tgt := 227) q (by decide) rfl rfl (lw_case3 hL hi hJ hx hK0 hK)
        · exact lw_tsk (n := 4) (tgt := 240) q (by decide) rfl rfl (lw_case4 hL hi hJ hx hK0 hK)
        · exact lw_tsk (n := 5) (tgt := 253) q (by decide) rfl rfl (lw_case5 hL hi hJ hx hK0 hK)
        · exact lw_tsk (n := 6) (tgt := 266) q (by decide) rfl rfl (lw_case6 hL hi hJ hx hK0 hK)
        · exact lw_tsk (n := 7) (tgt := 279) q (by decide) rfl rfl (lw_case7 hL hi hJ hx hK0 hK)
        · exact lw_tsk (n := 8) (tgt := 302) q (by decide) rfl rfl (lw_case8 hL hi hJ hx hK0 hK)
        · exact lw_tsk (n := 9) (tgt := 335) q (by decide) rfl rfl (lw_case9 hL hi hJ hx hK0 hK)
        · exact lw_tsk (n := 10) (tgt := 368) q (by decide) rfl rfl (lw_case10 hL hi hJ hx hK0 hK)
        · exact lw_tsk (n := 11) (tgt := 421) q (by decide) rfl rfl (lw_case11 hL hi hJ hx hK0 hK)
        · exact lw_tsk (n := 12) (tgt := 454) q (by decide) rfl rfl (lw_case12 hL hi hJ hx hK0 hK)
        · exact lw_tsk (n := 13) (tgt := 497) q (by decide) rfl rfl (lw_case13 hL hi hJ hx hK0 hK)
        · exact lw_tsk (n := 14) (tgt := 530) q (by decide) rfl rfl (lw_case14 hL hi hJ hx hK0 hK)
        · exact lw_tsk (n := 15) (tgt := 583) q (by decide) rfl rfl (lw_case15 hL hi hJ hx hK0 hK)
        · exact lw_tsk (n := 16) (tgt := 626) q (by decide) rfl rfl (lw_case16 hL hi hJ hx hK0 hK)
        · exact lw_tsk (n := 17) (tgt := 669) q (by decide) rfl rfl (lw_case17 hL hi hJ hx hK0 hK)
        · exact lw_tsk (n := 18) (tgt := 702) q (by decide) rfl rfl (lw_case18 hL hi hJ hx hK0 hK)
        · exact lw_tsk (n := 19) (tgt := 735) q (by decide) rfl rfl (lw_case19 hL hi hJ hx hK0 hK)
/-- every script's run -/
theorem lw_every (hL : L ≤ 3072) : lw_TF L xs 0 [(0, .ref 51)] [] [] 0 0 := by
  refine lw_enter ?_
  have h0 := lw_loop (xs := xs) hL (L + 1) 0 [] aj_h0 0 0 ⟨Int.le_refl _, Or.inl rfl⟩ (by show ((L : Int) - 0).toNat < L + 1; omega) ⟨by rw [List.append_nil]; exact lw_h0_T, by rw [List.append_nil]; exact lw_h0_I.1, lw_h0_B.1, lw_h0_I.2, lw_h0_B.2⟩ rfl (lw_K_0 (by rw [lw_h0_T.1]; exact cw_s98) lw_h0_fx lw_h0_7)
  have h0 : lw_TF L xs 18 (lw_lv 0) [] aj_h0 (98 + ([] : List Nat).length) (aj_k0 + ak_slo ak_C0 []) := h0
  rw [show ak_slo ak_C0 [] = 0 from rfl, Nat.add_zero] at h0
  exact h0
end LWA37
