/-! : ( ) AND # BY HAND (printed by wip/p2/cwalk/g76.py) -/
section CW76
variable {T : ak_TT} {Φ : List Nat → Option Value → aj_H → Prop} {tb : aj_T} {d : Nat} {mm : aj_M} {con : ak_Con} {s s0 : List Nat} {h h' h0 : aj_H} {kc ks pc : Nat} {lv : aj_V} {st rest : List Value} {ct : List (Nat × Instr × Nat)} {i j p x : Nat} {b : Int} {o0 : cw_O}
theorem cw_mn (hct : aj_ctOK ct mm.2.1) {idx a1 a2 : Nat} {a3 : Int} (hd : aj_ct ct pc = some (.invokestatic idx, 3)) (hl : aj_link mm.2.2.2.2.2.1 idx = some (7, a1, a2, a3)) {x y : Int32} (hsum : aj_sum rest ≤ 8) (kk : ∀ z : Int32, z.toInt ≤ x.toInt → z.toInt ≤ y.toInt → (z = x ∨ z = y) → cw_W T Φ tb d mm con s h kc ks (pc + 3) lv (.int z :: rest)) : cw_W T Φ tb d mm con s h kc ks pc lv (.int y :: .int x :: rest) := by
  refine cw_n hct hd (lv' := lv) (st' := .int (if y < x then y else x) :: rest) (pc' := pc + 3) ?_ (kk (if y < x then y else x) ?_ ?_ ?_)
  · have hn : aj_isNat mm.2.2.2.2.2.1 idx = true := by
      unfold aj_isNat
      rw [hl]
      rfl
    unfold aj_step
    dsimp only
    rw [if_pos rfl, hn, if_pos rfl]
    unfold aj_nat aj_nmm
    rw [hl]
    dsimp only
    rw [if_pos rfl, if_pos hsum]
    rfl
  · split
    · rename_i q
      rw [Int32.lt_iff_toInt_lt] at q
      omega
    · exact Int.le_refl _
  · split
    · exact Int.le_refl _
    · rename_i q
      rw [Int32.lt_iff_toInt_lt] at q
      omega
  · split
    · exact Or.inr rfl
    · exact Or.inl rfl
theorem cw_objF (htb : ak_tbOK T tb) {r c k i : Nat} {fs : List Value} {v : Value} (h0 : aj_obj tb h r = some (c, fs)) (h1 : fs[k]? = some v) (hr : r = 52 + i) : cw_F h i c k v := by
  subst hr
  obtain ⟨-, q2⟩ := (ak_obj_h htb).mp h0
  rw [Nat.add_sub_cancel_left] at q2
  exact ⟨fs, q2, h1⟩
/-- while a # is worked out -/
def cw_SPg (s0 : List Nat) (b : Int) (o0 : cw_O) : List Nat → aj_H → Prop := fun s h => cw_B s ∧ (cw_IO cw_XB s (cw_o h) ∧ (s = s0 ∧ (cw_kp cw_E64 cw_E0 o0 (cw_o h) ∧ cw_sy b b o0 (cw_o h))))
theorem cw_SPgc {T : ak_TT} (hT1 : T.2.2.1 = ak_spTC) (hT2 : T.2.2.2 = ak_spFC) : ak_SPc T (cw_SPg s0 b o0) := cw_SPI (I := fun s o => cw_IO cw_XB s o ∧ (s = s0 ∧ (cw_kp cw_E64 cw_E0 o0 o ∧ cw_sy b b o0 o))) hT1 hT2
theorem cw_sy_w3 {w : Value} {y : Int32} (hF : cw_F h i 6 3 w) (hy : y.toInt ≤ b) : cw_sy b b (cw_o h) (cw_o (cw_sf h i 3 (.int y))) := by
  rintro j ⟨v, w', q1, q2, q3, q4⟩
  have q1 := (cw_fo_F (by decide)).mp q1
  have q2 := (cw_fo_F (by decide)).mp q2
  by_cases e : j = i
  · subst e
    exact cw_ok_F (cw_sf_ne q1 (Or.inr (by decide))) (cw_sf_same hF) q3 hy
  · exact cw_ok_F (cw_sf_ne q1 (Or.inl e)) (cw_sf_ne q2 (Or.inl e)) q3 q4
theorem cw_sy_w4 {w : Value} {y : Int32} (hF : cw_F h i 6 4 w) (hy : y.toInt ≤ b) : cw_sy b b (cw_o h) (cw_o (cw_sf h i 4 (.int y))) := by
  rintro j ⟨v, w', q1, q2, q3, q4⟩
  have q1 := (cw_fo_F (by decide)).mp q1
  have q2 := (cw_fo_F (by decide)).mp q2
  by_cases e : j = i
  · subst e
    exact cw_ok_F (cw_sf_same hF) (cw_sf_ne q2 (Or.inr (by decide))) hy q4
  · exact cw_ok_F (cw_sf_ne q1 (Or.inl e)) (cw_sf_ne q2 (Or.inl e)) q3 q4
/-- : ( ) -/
theorem cw_project (htb : ak_tbOK ak_CW tb) (hT : ak_Ty ak_CW s h) (hI : cw_I cw_XB s h) (hd : 2 ≤ d) (qi : s[i]? = some 58) (hb : 30 ≤ b) : cw_K ak_CW (fun s' r h' => s' = s ∧ r = none ∧ cw_I cw_XB s h' ∧ cw_kp cw_E6 cw_E0 (cw_o h) (cw_o h') ∧ cw_sy b b (cw_o h) (cw_o h')) tb d (cw_nW 126 none) [.ref (52 + 44), .ref (52 + i)] s h := by
  obtain ⟨d, rfl⟩ : ∃ e, d = e + 1 := ⟨d - 1, by omega⟩
  have hB := hI.1
  refine cw_m (con := cw_nW 126 none) aj_m126_at (Nat.le_of_ble_eq_true rfl) ?_
  refine cw_seg htb (cw_SP1c s h rfl rfl) aj_d126 (cs := [(42, ap_c104), (59, ap_c103), (103, ap_c105)]) (List.forall_mem_cons.mpr ⟨ak_CT_mono (k := 1) (by omega) (ap_W_104 htb (cw_SP1c _ _ rfl rfl) cw_hK), List.forall_mem_cons.mpr ⟨ak_CT_mono (k := 1) (by omega) (ap_W_103 htb (cw_SP1c _ _ rfl rfl) cw_hK), List.forall_mem_cons.mpr ⟨ak_CT_mono (k := 1) (by omega) (ap_W_105 htb (cw_SP1c _ _ rfl rfl) cw_hK), fun _ h => nomatch h⟩⟩⟩) (Φ := fun s' r h' => s' = s ∧ r = none ∧ cw_I cw_XB s h' ∧ cw_kp cw_E6 cw_E0 (cw_o h) (cw_o h') ∧ cw_sy b b (cw_o h) (cw_o h')) (fun _ _ _ q z => ⟨q.2.1, cw_rN z, by rw [← q.2.1]; exact cw_I_eq q.2.2 (by rw [q.2.1]; exact hI), cw_kp_eq q.2.2, fun a z => cw_ok_eq q.2.2 z⟩) (fs := []) (fl := []) (pts := [((112, [(0, .inr (some ([53], false))), (1, .inr (some ([58], false))), (2, .inl (0, 19999999)), (3, .inl (0, 6))], [], [((0, 1), (0, 6)), ((1, 4), (1, 20000000))], [420906795106, 0, 0], 14462247360522797187856, 0, 0), []), ((12, [(0, .inr (some ([53], false))), (1, .inr (some ([58], false))), (2, .inl (0, 19999999)), (3, .inl (0, 6))], [], [((1, 4), (1, 20000000))], [420906795106, 7, 0], 14462247360703185814333, 0, 0), []), ((2, [(0, .inr (some ([53], false))), (1, .inr (some ([58], false))), (2, .inl (0, 20000000))], [], [], [420906795106, 0, 0], 14462247360763315356488, 0, 0), []), ((69, [(0, .inr (some ([53], false))), (1, .inr (some ([58], false))), (2, .inl (0, 19999999)), (3, .inl (0, 6))], [], [((0, 1), (0, 6)), ((1, 4), (1, 20000000))], [420906795106, 0, 0], 14462247360643056272172, 0, 0), []), ((71, [(0, .inr (some ([53], false))), (1, .inr (some ([58], false))), (2, .inl (0, 19999999)), (3, .inl (0, 6))], [], [((0, 1), (0, 6)), ((1, 4), (1, 20000000))], [420906795106, 0, 7], 14462247360582926730015, 0, 0), [])]) (sps := [((118, [(0, .inr (some ([53], false))), (1, .inr (some ([58], false)))], [], [], [0, 0, 0], 0, 0, 0), [])]) (C := [(2, true, 2147483647), (3, true, 2147483647), (3, true, 2147483647)]) (W0 := [0, 0, 0]) (P0 := 32540056561176293672676) (n := 78) (by decide +kernel) ?_ (a := ([(0, .inr (some ([53], false)), none), (1, .inr (some ([58], false)), none)], [], [])) (R := []) (pc := 0) _ _ _ _ _ _ hT ⟨hB, rfl, rfl⟩ ⟨cw_gLc (v := .ref (52 + 44)) rfl (cw_gR (cw_s0 hB rfl) (by decide) (by decide)) (cw_gLc (v := .ref (52 + i)) rfl (cw_gR qi (by decide) (by decide)) cw_gLn), trivial, fun _ h => nomatch h⟩ (fun _ h => nomatch h)
  refine List.forall_mem_singleton.mpr ?_
  intro s1 h1 lv st kc ks hT1 hSP hg hR
  obtain ⟨hB1, es, ho⟩ := hSP
  obtain rfl := es.symm
  cases st with
  | cons _ _ => exact hg.2.1.elim
  | nil =>
    have hL := hg.1
    obtain ⟨⟨v0, hl0, g0⟩, hL⟩ := cw_Lc (T := ak_CW) hL
    have hl0 : aj_lv lv 0 = some v0 := hl0
    obtain ⟨⟨v1, hl1, g1⟩, hL⟩ := cw_Lc (T := ak_CW) hL
    have hl1 : aj_lv lv 1 = some v1 := hl1
    obtain rfl := cw_gu (i := 44) hB1 g0 (by decide) (by decide) (by decide)
    obtain ⟨i, rfl, qi⟩ := cw_gr g1 (by decide)
    show cw_W _ _ _ _ _ _ _ _ _ _ 118 lv []
    refine cw_l2 aj_d126 rfl rfl hl1 ?_
    refine cw_l2 aj_d126 rfl rfl hl0 ?_
    obtain ⟨v1001, f1001, g1001⟩ := cw_tyF (i := 44) (t := 53) (c := 1) (k := 1) (y := (.inl (0, 6))) hT1 (cw_s0 hB1 rfl) rfl rfl rfl
    obtain ⟨x1001, rfl, b1001⟩ := ak_gi g1001
    dsimp only [ak_win] at b1001
    refine cw_g (i := 44) (v := .int x1001) htb.1 aj_d126 rfl rfl (by decide) f1001 ?_
    obtain ⟨v1002, f1002, g1002⟩ := cw_tyF (i := i) (t := 58) (c := 6) (k := 3) (y := (.inl (0, 20000000))) hT1 qi rfl rfl rfl
    obtain ⟨x1002, rfl, b1002⟩ := ak_gi g1002
    dsimp only [ak_win] at b1002
    refine cw_p1 (kind := 1) (by decide) (i := i) (t := 58) (c := 6) (k := 3) (v := .int x1001) (y := (.inl (0, 20000000))) htb aj_d126 rfl rfl hT1 qi rfl rfl rfl (cw_gw (a := x1001.toInt) rfl (by omega) (by omega)) (by decide) rfl rfl (fun hT1003 => ?_)
    have f1004 : cw_F (cw_sf h1 i 3 (.int x1001)) 44 1 1 (.int x1001) := cw_sf_ne f1001 (Or.inr (by decide))
    have f1005 : cw_F (cw_sf h1 i 3 (.int x1001)) i 6 3 (.int x1001) := cw_sf_same f1002
    refine cw_Wr aj_d126 rfl rfl hT1003 ?_ ?_
    · exact ⟨rfl, rfl, cw_I_sfX hT1 (cw_I_eq ho hI) f1002 (Or.inl rfl) (by omega), cw_kp_tr (cw_kp_eq ho) (cw_kp_sf f1002 rfl), cw_sy_tr (fun a q => cw_ok_eq ho q) (cw_sy_w3 f1002 (by omega))⟩
    · trivial
/-- a row of a group, found or new -/
theorem cw_find (htb : ak_tbOK ak_CW tb) (hT : ak_Ty ak_CW s h) (hI : cw_I cw_XB s h) (hd : 3 ≤ d) (qi : s[i]? = some 58) (hb : 30 ≤ b) : cw_K ak_CW (fun s' _ h' => s' = s ∧ cw_I cw_XB s h' ∧ cw_kp cw_E6 cw_E0 (cw_o h) (cw_o h') ∧ cw_sy b b (cw_o h) (cw_o h')) tb d ap_c136 [.ref (52 + 44), .ref (52 + i)] s h := by
  obtain ⟨d, rfl⟩ : ∃ e, d = e + 1 := ⟨d - 1, by omega⟩
  have hB := hI.1
  refine cw_m (con := ap_c136) aj_m136_at (Nat.le_of_ble_eq_true rfl) ?_
  refine cw_seg htb (cw_SP1c s h rfl rfl) aj_d136 (cs := [(13, ap_c137), (70, ap_c105)]) (List.forall_mem_cons.mpr ⟨ak_CT_mono (k := 2) (by omega) (ap_W_137 htb (cw_SP1c _ _ rfl rfl) cw_hK), List.forall_mem_cons.mpr ⟨ak_CT_mono (k := 1) (by omega) (ap_W_105 htb (cw_SP1c _ _ rfl rfl) cw_hK), fun _ h => nomatch h⟩⟩) (Φ := fun s' _ h' => s' = s ∧ cw_I cw_XB s h' ∧ cw_kp cw_E6 cw_E0 (cw_o h) (cw_o h') ∧ cw_sy b b (cw_o h) (cw_o h')) (fun _ _ _ q z => ⟨q.2.1, by rw [← q.2.1]; exact cw_I_eq q.2.2 (by rw [q.2.1]; exact hI), cw_kp_eq q.2.2, fun a z => cw_ok_eq q.2.2 z⟩) (fs := []) (fl := []) (pts := [((2, [(0, .inr (some ([53], false))), (1, .inr (some ([58], false))), (2, .inl (0, 20000000))], [], [], [5, 0], 85899345942, 0, 0), []), ((40, [(0, .inr (some ([53], false))), (1, .inr (some ([58], false))), (2, .inl (0, 6))], [], [((1, 4), (0, 29))], [0, 5], 42949672971, 0, 0), [])]) (sps := [((79, [(0, .inr (some ([53], false))), (1, .inr (some ([58], false)))], [], [((1, 4), (0, 29))], [0, 0], 0, 0, 0), [])]) (C := [(2, true, 2147483647), (2, true, 2147483647)]) (W0 := [0, 0]) (P0 := 300647710790) (n := 60) (by decide +kernel) ?_ (a := ([(0, .inr (some ([53], false)), none), (1, .inr (some ([58], false)), none)], [], [])) (R := []) (pc := 0) _ _ _ _ _ _ hT ⟨hB, rfl, rfl⟩ ⟨cw_gLc (v := .ref (52 + 44)) rfl (cw_gR (cw_s0 hB rfl) (by decide) (by decide)) (cw_gLc (v := .ref (52 + i)) rfl (cw_gR qi (by decide) (by decide)) cw_gLn), trivial, fun _ h => nomatch h⟩ (fun _ h => nomatch h)
  refine List.forall_mem_singleton.mpr ?_
  intro s1 h1 lv st kc ks hT1 hSP hg hR
  obtain ⟨hB1, es, ho⟩ := hSP
  obtain rfl := es.symm
  cases st with
  | cons _ _ => exact hg.2.1.elim
  | nil =>
    have hL := hg.1
    obtain ⟨⟨v0, hl0, g0⟩, hL⟩ := cw_Lc (T := ak_CW) hL
    have hl0 : aj_lv lv 0 = some v0 := hl0
    obtain ⟨⟨v1, hl1, g1⟩, hL⟩ := cw_Lc (T := ak_CW) hL
    have hl1 : aj_lv lv 1 = some v1 := hl1
    obtain ⟨rf, cf, fsf, xf, z1, z2, z3, z4⟩ := hg.2.2 _ (List.mem_singleton.mpr rfl)
    obtain rfl := cw_gu (i := 44) hB1 g0 (by decide) (by decide) (by decide)
    obtain ⟨i, rfl, qi⟩ := cw_gr g1 (by decide)
    rw [hl1] at z1
    have z5 : rf = 52 + i := (Value.ref.inj (Option.some.inj z1)).symm
    have fi0 := cw_objF htb z2 z3 z5
    obtain ⟨v', f', -⟩ := cw_tyF (i := i) (t := 58) (c := 6) (k := 4) (y := .inl (0, 20000000)) hT1 qi rfl rfl rfl
    obtain ⟨rfl, -⟩ : cf = 6 ∧ True := by
      obtain ⟨fs1, e1, -⟩ := f'
      obtain ⟨fs2, e2, -⟩ := fi0
      rw [e1] at e2
      cases e2
      exact ⟨rfl, trivial⟩
    have fi : cw_F h1 i 6 4 (.int xf) := fi0
    dsimp only [ak_win] at z4
    show cw_W _ _ _ _ _ _ _ _ _ _ 79 lv []
    refine cw_l2 aj_d136 rfl rfl hl1 ?_
    refine cw_n aj_d136 rfl rfl ?_
    refine cw_g (i := i) (v := .int xf) htb.1 aj_d136 rfl rfl (by decide) fi ?_
    refine cw_n aj_d136 rfl rfl ?_
    refine cw_add aj_d136 rfl (a := xf.toInt) (b := (1 : Int)) rfl rfl (by omega) (by omega) (fun x1006 ex1006 => ?_)
    refine cw_p1 (kind := 1) (by decide) (i := i) (t := 58) (c := 6) (k := 4) (v := .int x1006) (y := (.inl (0, 20000000))) htb aj_d136 rfl rfl hT1 qi rfl rfl rfl (cw_gw (a := x1006.toInt) rfl (by omega) (by omega)) (by decide) rfl rfl (fun hT1007 => ?_)
    have f1008 : cw_F (cw_sf h1 i 4 (.int x1006)) i 6 4 (.int x1006) := cw_sf_same fi
    refine cw_l2 aj_d136 rfl rfl hl1 ?_
    refine cw_g (i := i) (v := .int x1006) htb.1 aj_d136 rfl rfl (by decide) f1008 ?_
    refine cw_n aj_d136 rfl rfl ?_
    refine cw_sub aj_d136 rfl (a := x1006.toInt) (b := (1 : Int)) rfl rfl (by omega) (by omega) (fun x1009 ex1009 => ?_)
    refine cw_Wr aj_d136 rfl rfl hT1007 ?_ ?_
    · exact ⟨rfl, cw_I_sfX hT1 (cw_I_eq ho hI) fi (Or.inr rfl) (by omega), cw_kp_tr (cw_kp_eq ho) (cw_kp_sf fi rfl), cw_sy_tr (fun a q => cw_ok_eq ho q) (cw_sy_w4 fi (by omega))⟩
    · exact cw_gw (s := s) (a := x1009.toInt) rfl (by omega) (by omega)
theorem cw_clearC (htb : ak_tbOK ak_CW tb) (hT : ak_Ty ak_CW s h) (hI : cw_I cw_XB s h) (hd : 2 ≤ d) {x : Int32} (hx : 0 ≤ x.toInt ∧ x.toInt ≤ 20000000) (qi : s[i]? = some 58) : cw_K ak_CW (fun s' r h' => s' = s ∧ r = none ∧ cw_I cw_XB s h' ∧ cw_kp (cw_Ei i) cw_E0 (cw_o h) (cw_o h') ∧ ∃ z : Int32, z.toInt = 0 ∧ cw_F h' i 6 4 (.int z) ∧ cw_F h' i 6 3 (.int x)) tb d ap_c116 [.ref (52 + i), .int x] s h := by
  obtain ⟨d, rfl⟩ : ∃ e, d = e + 1 := ⟨d - 1, by omega⟩
  have hB := hI.1
  refine cw_m (con := ap_c116) aj_m116_at (Nat.le_of_ble_eq_true rfl) ?_
  show cw_W _ _ _ _ _ _ _ _ _ _ 0 [(0, .ref (52 + i)), (1, .int x)] []
  refine cw_n aj_d116 rfl rfl ?_
  refine cw_n aj_d116 rfl rfl ?_
  obtain ⟨v1010, f1010, g1010⟩ := cw_tyF (i := i) (t := 58) (c := 6) (k := 3) (y := (.inl (0, 20000000))) hT qi rfl rfl rfl
  obtain ⟨x1010, rfl, b1010⟩ := ak_gi g1010
  dsimp only [ak_win] at b1010
  obtain ⟨v1011, f1011, g1011⟩ := cw_tyF (i := i) (t := 58) (c := 6) (k := 4) (y := (.inl (0, 20000000))) hT qi rfl rfl rfl
  obtain ⟨x1011, rfl, b1011⟩ := ak_gi g1011
  dsimp only [ak_win] at b1011
  refine cw_p (i := i) (t := 58) (c := 6) (k := 3) (v := .int x) (y := (.inl (0, 20000000))) htb aj_d116 rfl rfl hT qi rfl rfl rfl (cw_gw (a := x.toInt) rfl (by omega) (by omega)) (by decide) rfl rfl (fun hT1012 => ?_)
  have f1013 : cw_F (cw_sf h i 3 (.int x)) i 6 4 (.int x1011) := cw_sf_ne f1011 (Or.inr (by decide))
  have f1014 : cw_F (cw_sf h i 3 (.int x)) i 6 3 (.int x) := cw_sf_same f1010
  refine cw_n aj_d116 rfl rfl ?_
  refine cw_n aj_d116 rfl rfl ?_
  refine cw_p (i := i) (t := 58) (c := 6) (k := 4) (v := .int (Int32.ofInt 0)) (y := (.inl (0, 20000000))) htb aj_d116 rfl rfl hT1012 qi rfl rfl rfl (cw_gw (a := (0 : Int)) rfl (by omega) (by omega)) (by decide) rfl rfl (fun hT1015 => ?_)
  have f1016 : cw_F (cw_sf (cw_sf h i 3 (.int x)) i 4 (.int (Int32.ofInt 0))) i 6 3 (.int x) := cw_sf_ne f1014 (Or.inr (by decide))
  have f1017 : cw_F (cw_sf (cw_sf h i 3 (.int x)) i 4 (.int (Int32.ofInt 0))) i 6 4 (.int (Int32.ofInt 0)) := cw_sf_same f1013
  refine cw_n aj_d116 rfl rfl ?_
  obtain ⟨v1018, f1018, g1018⟩ := cw_tyF (i := i) (t := 58) (c := 6) (k := 2) (y := (.inr (some ([96], false)))) hT1015 qi rfl rfl rfl
  obtain ⟨i1018, rfl, q1018⟩ := cw_gr g1018 (by decide)
  refine cw_g (i := i) (v := .ref (52 + i1018)) htb.1 aj_d116 rfl rfl (by decide) f1018 ?_
  refine cw_n aj_d116 rfl rfl ?_
  refine cw_ks0 (con' := ap_c117) aj_d116 hT1015 rfl rfl rfl [_, _] rfl rfl (Nat.le_of_ble_eq_true rfl) ⟨by decide, by decide⟩ (cw_a1 (by omega) (ap_W_117 htb (cw_SP1c _ _ rfl rfl) cw_hK) hT1015 hB rfl ⟨(cw_gR q1018 (by decide) (by decide)), (cw_gw (a := (0 : Int)) rfl (by omega) (by omega)), trivial⟩) ?_
  rintro ru1019 h1019 hT1019 ho1019 hRu1019
  have f1020 : cw_F h1019 i 6 3 (.int x) := cw_trF ho1019 (by decide) f1016
  have f1021 : cw_F h1019 i 6 4 (.int (Int32.ofInt 0)) := cw_trF ho1019 (by decide) f1017
  obtain rfl := cw_rN hRu1019
  show cw_W _ _ _ _ _ _ _ _ _ _ 18 [(0, .ref (52 + i)), (1, .int x)] []
  refine cw_Wr aj_d116 rfl rfl hT1019 ?_ ?_
  · exact ⟨rfl, rfl, cw_I_eq (ho1019.trans rfl) (cw_I_sfX hT1012 (cw_I_sfX hT hI f1010 (Or.inl rfl) hx.2) f1013 (Or.inr rfl) (by decide)), cw_kp_tr (cw_kp_tr (cw_kp_sf f1010 ⟨rfl, rfl⟩) (cw_kp_sf f1013 ⟨rfl, rfl⟩)) (cw_kp_eq (ho1019.trans rfl)), _, rfl, f1021, f1020⟩
  · trivial
theorem cw_SPg_I (hS : cw_SPg s0 b o0 s h) : cw_I cw_XB s h := ⟨hS.1, hS.2.1⟩
theorem cw_SPg_to (hS : cw_SPg s0 b o0 s h) (hI : cw_I cw_XB s h') (hk : cw_kp cw_E64 cw_E0 (cw_o h) (cw_o h')) (hg : cw_sy b b (cw_o h) (cw_o h')) : cw_SPg s0 b o0 s h' := ⟨hI.1, hI.2, hS.2.2.1, cw_kp_tr hS.2.2.2.1 hk, cw_sy_tr hS.2.2.2.2 hg⟩
theorem cw_HWg (htb : ak_tbOK ak_CW tb) (hb : 30 ≤ b) : ap_HW (cw_SPg s0 b o0) cw_kap tb := by
  unfold ap_HW ap_hlW
  refine List.forall_mem_cons.mpr ⟨?_, List.forall_mem_cons.mpr ⟨?_, List.forall_mem_cons.mpr ⟨?_, fun _ h => nomatch h⟩⟩⟩
  · refine cw_CT rfl (fun d hd s h as hT hS hA _ => ?_)
    have hI := cw_SPg_I hS
    obtain ⟨v1, as, rfl, g1, hA⟩ := cw_gAc hA
    obtain ⟨v2, as, rfl, g2, hA⟩ := cw_gAc hA
    obtain ⟨v3, as, rfl, g3, hA⟩ := cw_gAc hA
    cases cw_gAn hA
    obtain rfl := cw_gu (i := 30) hI.1 g1 (by decide) (by decide) (by decide)
    obtain ⟨m, rfl, hm⟩ := ak_gi g2
    obtain ⟨p, rfl, -⟩ := ak_gi g3
    obtain ⟨w1, f1, k1⟩ := cw_tyF (i := 30) (t := 56) (c := 4) (k := 5) (y := .inl (-2147483648, 2147483647)) hT (cw_s0 hI.1 rfl) rfl rfl rfl
    obtain ⟨q1, rfl, -⟩ := ak_gi k1
    obtain ⟨w2, f2, k2⟩ := cw_tyF (i := 30) (t := 56) (c := 4) (k := 6) (y := .inl (-2147483648, 2147483647)) hT (cw_s0 hI.1 rfl) rfl rfl rfl
    obtain ⟨q2, rfl, -⟩ := ak_gi k2
    refine cw_mono (fun s' r h' hh => ?_) (cw_failW htb hT hI.1 hd m p)
    obtain ⟨es, -, hh⟩ := hh
    obtain rfl := es.symm
    have kf : cw_kp (fun _ c k => c = 4 ∧ k ≠ 4) cw_E0 (cw_o h) (cw_o h') := by
      rcases hh with rfl | rfl
      · exact cw_kp_rf
      · exact cw_kp_tr (cw_kp_sf f1 ⟨rfl, by decide⟩) (cw_kp_sf (cw_sf_ne f2 (Or.inr (by decide))) ⟨rfl, by decide⟩)
    exact cw_SPg_to hS (cw_failI f1 f2 (by have := hm.1; omega) hh hI) (cw_kp_sub kf (fun _ _ _ z => Or.inr z) (fun _ z => z)) (cw_sy_n kf (fun _ _ z => absurd z.1 (by decide)))
  · refine cw_CT rfl (fun d hd s h as hT hS hA _ => ?_)
    have hI := cw_SPg_I hS
    obtain ⟨v1, as, rfl, g1, hA⟩ := cw_gAc hA
    obtain ⟨v2, as, rfl, g2, hA⟩ := cw_gAc hA
    cases cw_gAn hA
    obtain rfl := cw_gu (i := 44) hI.1 g1 (by decide) (by decide) (by decide)
    obtain ⟨i, rfl, qi⟩ := cw_gr g2 (by decide)
    refine cw_mono (fun s' r h' hh => ?_) (cw_find (b := b) htb hT hI hd qi hb)
    obtain ⟨es, I1, k1, s1⟩ := hh
    obtain rfl := es.symm
    exact cw_SPg_to hS I1 (cw_kp_sub k1 (fun _ _ _ z => Or.inl z) (fun _ z => z)) s1
  · refine cw_CT rfl (fun d hd s h as hT hS hA _ => ?_)
    have hI := cw_SPg_I hS
    obtain ⟨v1, as, rfl, g1, hA⟩ := cw_gAc hA
    obtain ⟨v2, as, rfl, g2, hA⟩ := cw_gAc hA
    cases cw_gAn hA
    obtain ⟨i, rfl, qi⟩ := cw_gr g1 (by decide)
    obtain ⟨x, rfl, hx⟩ := ak_gi g2
    dsimp only [ak_win] at hx
    refine cw_mono (fun s' r h' hh => ?_) (cw_clearC htb hT hI hd (x := x) ⟨hx.1, by omega⟩ qi)
    obtain ⟨es, -, I1, k1, z, ez, f4, f3⟩ := hh
    obtain rfl := es.symm
    exact cw_SPg_to hS I1 (cw_kp_sub k1 (fun _ _ _ z => Or.inl z.2) (fun _ z => z)) (cw_sy_kp k1 (cw_ok_F f4 f3 (by omega) (by omega)))
end CW76
