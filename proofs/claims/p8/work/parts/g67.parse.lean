/-! THE PARSER BY HAND (printed by wip/p2/cwalk/g68.py) -/
theorem cw_0_40 {SP : List Nat → aj_H → Prop} {kap : aj_H → Int} {tb : aj_T} (htb : ak_tbOK ak_C0 tb) (hc : ak_SPc ak_C0 SP) (hK : ak_kpc ak_C0 kap) : ak_CT ak_C0 SP kap tb 1 ap_c40 :=
  ak_meth_ok htb hc hK (k := 0) (con := ap_c40) aj_m40_at aj_d40 (cs := []) (fun _ h => nomatch h) (fs := []) (fl := []) (pts := [((22, [(0, .inr (some ([56], false))), (1, .inl ((-2147483648), 2147483647))], [], [], [], 1, 0, 0), []), ((23, [(0, .inr (some ([56], false))), (1, .inl ((-2147483648), 2147483647))], [.inl (0, 0)], [], [], 0, 0, 0), []), ((23, [(0, .inr (some ([56], false))), (1, .inl (0, 2499))], [.inl ((-2147483648), 2147483647)], [], [], 2, 0, 0), [])]) (C := []) (W0 := []) (P0 := 7) (n := 19) (by decide +kernel)
section CW67
variable {tb : aj_T} {s : List Nat} {h h' : aj_H} {d : Nat} {σ : List Nat} {nx o n : Int32} {f : Nat → Int32}
def cw_low (v : Int32) : Int := (v &&& (Int16.ofInt 255).toInt32).toInt
theorem cw_low_or {a x : Int32} (h1 : 0 ≤ x.toInt) (h2 : x.toInt ≤ 255) : cw_low ((a <<< ((Int8.ofInt 8).toInt32 &&& 31)) ||| x) = x.toInt := by
  unfold cw_low
  refine congrArg Int32.toInt (Int32.toBitVec_inj.mp ?_)
  have e1 : (Int8.ofInt 8).toInt32 &&& 31 = 8 := by decide
  have e2 : (a <<< (8 : Int32)).toBitVec = a.toBitVec <<< 8 := rfl
  have e3 : ((Int16.ofInt 255).toInt32).toBitVec = 255#32 := by decide
  rw [e1, Int32.toBitVec_and, Int32.toBitVec_or, e2, e3]
  have hx : x.toBitVec.toNat < 2 ^ 8 := by
    have e : x.toBitVec.toInt = x.toInt := rfl
    rw [BitVec.toInt_eq_toNat_cond] at e
    have := x.toBitVec.isLt
    split at e <;> omega
  refine BitVec.eq_of_getLsbD_eq (fun i hi => ?_)
  rw [BitVec.getLsbD_and, BitVec.getLsbD_or, BitVec.getLsbD_shiftLeft]
  by_cases h8 : i < 8
  · have : (255#32).getLsbD i = true := by
      have : ∀ j, j < 8 → (255#32).getLsbD j = true := by decide
      exact this i h8
    rw [this]
    simp [h8]
  · have hb : x.toBitVec.getLsbD i = false := by
      rw [← BitVec.testBit_toNat]
      exact Nat.testBit_lt_two_pow (Nat.lt_of_lt_of_le hx (Nat.pow_le_pow_right (by decide) (by omega)))
    have : (255#32).getLsbD i = false := by
      have : ∀ j, j < 32 → ¬ j < 8 → (255#32).getLsbD j = false := by decide
      exact this i hi h8
    rw [this, hb]
    simp
abbrev cw_nP (m : Nat) (r : Option ak_A) : ak_Con := (m, [], r, ([79, 80, 81, 82, 83, 84, 85], [(3, 5), (3, 6), (3, 7), (3, 8), (3, 9), (3, 10), (3, 11), (3, 12), (3, 13), (3, 14), (3, 15), (4, 4), (4, 5), (4, 6)]), [], [], [], 0, 0, [], [], [])
abbrev cw_EP : List Nat := [30, 31, 32, 33, 34, 35, 36, 37, 38]
/-- the parser's stack, its top first; the notes; no fault -/
def cw_PV (h : aj_H) (σ : List Nat) (nx o n : Int32) (f : Nat → Int32) : Prop := (∃ (x5 : Int32) (g : Nat → Int32), cw_F h 35 3 5 (.int x5) ∧ x5.toInt = σ.length ∧ cw_A h 36 0 512 (.inl g) ∧ ∀ j, j < σ.length → cw_low (g (σ.length - 1 - j)) = ((σ.getD j 0 : Nat) : Int)) ∧ cw_F h 35 3 6 (.int nx) ∧ cw_F h 35 3 14 (.int o) ∧ cw_F h 30 4 4 (.int n) ∧ cw_F h 30 4 5 (.int 0) ∧ cw_A h 31 0 2500 (.inl f)
def cw_bad (h : aj_H) : Prop := ∃ m : Int32, cw_F h 30 4 5 (.int m) ∧ m.toInt ≠ 0
/-- what is unseen and not told to change stays -/
theorem cw_EvF {T : ak_TT} {M : ak_Mo} {i c k : Nat} {v : Value} (h0 : ak_Ev T M s h h') (hM : (c, k) ∉ M.2) (hF : cw_F h i c k v) : cw_F h' i c k v := by
  obtain ⟨fs, h1, h2⟩ := hF
  obtain ⟨fs', h3, h4⟩ := h0.2.1 i c fs h1
  exact ⟨fs', h3, by rw [h4 k hM]; exact h2⟩
theorem cw_PV_tr {T : ak_TT} {M : ak_Mo} (ho : cw_o h' = cw_o h) (hE : ak_Ev T M s h h') (hM : (3, 14) ∉ M.2) (hP : cw_PV h σ nx o n f) : cw_PV h' σ nx o n f := by
  obtain ⟨⟨x5, g, f5, l5, a36, lo⟩, f6, f14, f4, fp, a31⟩ := hP
  exact ⟨⟨x5, g, cw_trF ho (by decide) f5, l5, cw_trA ho (by decide) a36, lo⟩, cw_trF ho (by decide) f6, cw_EvF hE hM f14, cw_trF ho (by decide) f4, cw_trF ho (by decide) fp, cw_trA ho (by decide) a31⟩
theorem cw_push (htb : ak_tbOK ak_C0 tb) (hT : ak_Ty ak_C0 s h) (hB : cw_B s) (hd : 1 ≤ d) {x : Int32} (hx : 0 ≤ x.toInt ∧ x.toInt ≤ 255) (hP : cw_PV h σ nx o n f) (hl : σ.length < 512) : cw_K ak_C0 (fun s' r h' => s' = s ∧ cw_ex cw_EP (cw_o h) (cw_o h') ∧ (cw_PV h' (x.toInt.toNat :: σ) nx o n f)) tb d (cw_nP 33 none) [.ref (52 + 35), .int x] s h := by
  obtain ⟨d, rfl⟩ : ∃ e, d = e + 1 := ⟨d - 1, by omega⟩
  have hP' := hP
  obtain ⟨⟨x5, g, f5, l5, a36, lo⟩, f6, f14, f4, fp, a31⟩ := hP'
  refine cw_m (con := (cw_nP 33 none)) aj_m33_at (Nat.le_of_ble_eq_true rfl) ?_
  show cw_W _ _ _ _ _ _ _ _ _ _ 0 [(0, .ref (52 + 35)), (1, .int x)] []
  refine cw_n aj_d33 rfl rfl ?_
  refine cw_g (i := 35) (v := .int x5) htb.1 aj_d33 rfl rfl (by decide) f5 ?_
  refine cw_z (tgt := 47) aj_d33 rfl rfl (fun q1 => ?_) (fun q1 => ?_)
  · have q1 : x5.toInt < (0 : Int) := aw_t_lt (a := x5.toInt) (b := (0 : Int)) rfl rfl q1
    exfalso
    omega
  · have q1 : x5.toInt ≥ (0 : Int) := aw_t_lt (a := x5.toInt) (b := (0 : Int)) rfl rfl q1
    refine cw_n aj_d33 rfl rfl ?_
    refine cw_g (i := 35) (v := .int x5) htb.1 aj_d33 rfl rfl (by decide) f5 ?_
    refine cw_n aj_d33 rfl rfl ?_
    obtain ⟨v2, f2, g2⟩ := cw_tyF (i := 35) (t := 55) (c := 3) (k := 2) (y := (.inr (some ([83], false)))) hT (cw_s0 hB rfl) rfl rfl rfl
    obtain rfl := cw_gu (i := 36) hB g2 (by decide) (by decide) (by decide)
    refine cw_g (i := 35) (v := .ref (52 + 36)) htb.1 aj_d33 rfl rfl (by decide) f2 ?_
    refine cw_alen (i := 36) htb.1 aj_d33 rfl a36 (by decide) (by omega) (fun x3 ex3 => ?_)
    refine cw_c (tgt := 47) aj_d33 rfl rfl (fun q4 => ?_) (fun q4 => ?_)
    · have q4 : x5.toInt ≥ (512 : Int) := aw_t_ge (a := x5.toInt) (b := (512 : Int)) rfl ex3 q4
      exfalso
      omega
    · have q4 : x5.toInt < (512 : Int) := aw_t_ge (a := x5.toInt) (b := (512 : Int)) rfl ex3 q4
      refine cw_n aj_d33 rfl rfl ?_
      refine cw_g (i := 35) (v := .ref (52 + 36)) htb.1 aj_d33 rfl rfl (by decide) f2 ?_
      refine cw_n aj_d33 rfl rfl ?_
      refine cw_g (i := 35) (v := .int x5) htb.1 aj_d33 rfl rfl (by decide) f5 ?_
      refine cw_n aj_d33 rfl rfl ?_
      refine cw_g (i := 35) (v := .int nx) htb.1 aj_d33 rfl rfl (by decide) f6 ?_
      refine cw_n aj_d33 rfl rfl ?_
      refine cw_any aj_d33 rfl rfl (fun x5 ex5 => ?_)
      subst ex5
      refine cw_n aj_d33 rfl rfl ?_
      refine cw_any aj_d33 rfl rfl (fun x6 ex6 => ?_)
      subst ex6
      refine cw_st (i := 36) htb aj_d33 (Or.inl ⟨rfl, rfl⟩) rfl a36 hT (cw_s0 hB rfl) rfl (by decide) (a := x5.toInt) rfl (by omega) (by omega) (cw_full _) (fun hT7 => ?_)
      have f8 : cw_F (cw_sa h 36 (.inl (upd g (x5.toInt).toNat (aj_nar 0 ((nx <<< ((Int8.ofInt 8).toInt32 &&& 31)) ||| x))))) 35 3 5 (.int x5) := cw_sa_F f5
      have f9 : cw_F (cw_sa h 36 (.inl (upd g (x5.toInt).toNat (aj_nar 0 ((nx <<< ((Int8.ofInt 8).toInt32 &&& 31)) ||| x))))) 35 3 6 (.int nx) := cw_sa_F f6
      have f10 : cw_F (cw_sa h 36 (.inl (upd g (x5.toInt).toNat (aj_nar 0 ((nx <<< ((Int8.ofInt 8).toInt32 &&& 31)) ||| x))))) 35 3 14 (.int o) := cw_sa_F f14
      have f11 : cw_F (cw_sa h 36 (.inl (upd g (x5.toInt).toNat (aj_nar 0 ((nx <<< ((Int8.ofInt 8).toInt32 &&& 31)) ||| x))))) 30 4 4 (.int n) := cw_sa_F f4
      have f12 : cw_F (cw_sa h 36 (.inl (upd g (x5.toInt).toNat (aj_nar 0 ((nx <<< ((Int8.ofInt 8).toInt32 &&& 31)) ||| x))))) 30 4 5 (.int 0) := cw_sa_F fp
      have f13 : cw_F (cw_sa h 36 (.inl (upd g (x5.toInt).toNat (aj_nar 0 ((nx <<< ((Int8.ofInt 8).toInt32 &&& 31)) ||| x))))) 35 3 2 (.ref (52 + 36)) := cw_sa_F f2
      have a14 : cw_A (cw_sa h 36 (.inl (upd g (x5.toInt).toNat (aj_nar 0 ((nx <<< ((Int8.ofInt 8).toInt32 &&& 31)) ||| x))))) 31 0 2500 (.inl f) := cw_sa_ne a31 (by decide)
      have a15 : cw_A (cw_sa h 36 (.inl (upd g (x5.toInt).toNat (aj_nar 0 ((nx <<< ((Int8.ofInt 8).toInt32 &&& 31)) ||| x))))) 36 0 512 (.inl (upd g (x5.toInt).toNat (aj_nar 0 ((nx <<< ((Int8.ofInt 8).toInt32 &&& 31)) ||| x)))) := cw_sa_same a36
      refine cw_n aj_d33 rfl rfl ?_
      refine cw_n aj_d33 rfl rfl ?_
      refine cw_g (i := 35) (v := .int x5) htb.1 aj_d33 rfl rfl (by decide) f8 ?_
      refine cw_n aj_d33 rfl rfl ?_
      refine cw_add aj_d33 rfl (a := x5.toInt) (b := (1 : Int)) rfl rfl (by omega) (by omega) (fun x16 ex16 => ?_)
      refine cw_p (i := 35) (t := 55) (c := 3) (k := 5) (v := .int x16) (y := (.inl (0, 512))) htb aj_d33 rfl rfl hT7 (cw_s0 hB rfl) rfl rfl rfl (cw_gw (a := x16.toInt) rfl (by omega) (by omega)) (by decide) rfl rfl (fun hT17 => ?_)
      have f18 : cw_F (cw_sf (cw_sa h 36 (.inl (upd g (x5.toInt).toNat (aj_nar 0 ((nx <<< ((Int8.ofInt 8).toInt32 &&& 31)) ||| x))))) 35 5 (.int x16)) 35 3 6 (.int nx) := cw_sf_ne f9 (Or.inr (by decide))
      have f19 : cw_F (cw_sf (cw_sa h 36 (.inl (upd g (x5.toInt).toNat (aj_nar 0 ((nx <<< ((Int8.ofInt 8).toInt32 &&& 31)) ||| x))))) 35 5 (.int x16)) 35 3 14 (.int o) := cw_sf_ne f10 (Or.inr (by decide))
      have f20 : cw_F (cw_sf (cw_sa h 36 (.inl (upd g (x5.toInt).toNat (aj_nar 0 ((nx <<< ((Int8.ofInt 8).toInt32 &&& 31)) ||| x))))) 35 5 (.int x16)) 30 4 4 (.int n) := cw_sf_ne f11 (Or.inr (by decide))
      have f21 : cw_F (cw_sf (cw_sa h 36 (.inl (upd g (x5.toInt).toNat (aj_nar 0 ((nx <<< ((Int8.ofInt 8).toInt32 &&& 31)) ||| x))))) 35 5 (.int x16)) 30 4 5 (.int 0) := cw_sf_ne f12 (Or.inl (by decide))
      have f22 : cw_F (cw_sf (cw_sa h 36 (.inl (upd g (x5.toInt).toNat (aj_nar 0 ((nx <<< ((Int8.ofInt 8).toInt32 &&& 31)) ||| x))))) 35 5 (.int x16)) 35 3 2 (.ref (52 + 36)) := cw_sf_ne f13 (Or.inr (by decide))
      have a23 : cw_A (cw_sf (cw_sa h 36 (.inl (upd g (x5.toInt).toNat (aj_nar 0 ((nx <<< ((Int8.ofInt 8).toInt32 &&& 31)) ||| x))))) 35 5 (.int x16)) 31 0 2500 (.inl f) := cw_sf_A a14
      have a24 : cw_A (cw_sf (cw_sa h 36 (.inl (upd g (x5.toInt).toNat (aj_nar 0 ((nx <<< ((Int8.ofInt 8).toInt32 &&& 31)) ||| x))))) 35 5 (.int x16)) 36 0 512 (.inl (upd g (x5.toInt).toNat (aj_nar 0 ((nx <<< ((Int8.ofInt 8).toInt32 &&& 31)) ||| x)))) := cw_sf_A a15
      have f25 : cw_F (cw_sf (cw_sa h 36 (.inl (upd g (x5.toInt).toNat (aj_nar 0 ((nx <<< ((Int8.ofInt 8).toInt32 &&& 31)) ||| x))))) 35 5 (.int x16)) 35 3 5 (.int x16) := cw_sf_same f8
      refine cw_Wr aj_d33 rfl rfl hT17 ?_ ?_
      · refine ⟨rfl, (cw_ex_tr (cw_ex_tr cw_ex_rf (cw_ex_sa (by decide))) (cw_ex_sf (by decide))), ⟨⟨_, _, f25, by rw [List.length_cons]; omega, a24, ?_⟩, f18, f19, f20, f21, a23⟩⟩
        intro j hj
        rw [List.length_cons] at hj
        unfold upd
        cases j with
        | zero =>
          rw [if_pos (by rw [List.length_cons, l5]; omega)]
          refine (cw_low_or hx.1 hx.2).trans ?_
          rw [List.getD_cons_zero]
          omega
        | succ j =>
          rw [if_neg (by rw [List.length_cons, l5]; omega), List.getD_cons_succ, ← lo j (by omega)]
          exact congrArg (fun i => cw_low (g i)) (by rw [List.length_cons]; omega)
      · trivial
theorem cw_failP (htb : ak_tbOK ak_C0 tb) (hT : ak_Ty ak_C0 s h) (hB : cw_B s) (hd : 1 ≤ d) {m : Int32} (hm : m.toInt ≠ 0) (p : Int32) (hP : cw_PV h σ nx o n f)  : cw_K ak_C0 (fun s' r h' => s' = s ∧ cw_ex cw_EP (cw_o h) (cw_o h') ∧ (cw_bad h' ∧ cw_F h' 35 3 6 (.int nx))) tb d (cw_nP 44 none) [.ref (52 + 30), .int m, .int p] s h := by
  obtain ⟨d, rfl⟩ : ∃ e, d = e + 1 := ⟨d - 1, by omega⟩
  have hP' := hP
  obtain ⟨⟨x5, g, f5, l5, a36, lo⟩, f6, f14, f4, fp, a31⟩ := hP'
  refine cw_m (con := (cw_nP 44 none)) aj_m44_at (Nat.le_of_ble_eq_true rfl) ?_
  show cw_W _ _ _ _ _ _ _ _ _ _ 0 [(0, .ref (52 + 30)), (1, .int m), (2, .int p)] []
  refine cw_n aj_d44 rfl rfl ?_
  refine cw_g (i := 30) (v := .int 0) htb.1 aj_d44 rfl rfl (by decide) fp ?_
  refine cw_z (tgt := 31) aj_d44 rfl rfl (fun q26 => ?_) (fun q26 => ?_)
  · have q26 : (0 : Int) = (0 : Int) := aw_t_eq (a := (0 : Int)) (b := (0 : Int)) rfl rfl q26
    refine cw_n aj_d44 rfl rfl ?_
    refine cw_n aj_d44 rfl rfl ?_
    refine cw_p (i := 30) (t := 56) (c := 4) (k := 5) (v := .int m) (y := (.inl ((-2147483648), 2147483647))) htb aj_d44 rfl rfl hT (cw_s0 hB rfl) rfl rfl rfl (cw_full _) (by decide) rfl rfl (fun hT27 => ?_)
    have f28 : cw_F (cw_sf h 30 5 (.int m)) 35 3 5 (.int x5) := cw_sf_ne f5 (Or.inl (by decide))
    have f29 : cw_F (cw_sf h 30 5 (.int m)) 35 3 6 (.int nx) := cw_sf_ne f6 (Or.inr (by decide))
    have f30 : cw_F (cw_sf h 30 5 (.int m)) 35 3 14 (.int o) := cw_sf_ne f14 (Or.inr (by decide))
    have f31 : cw_F (cw_sf h 30 5 (.int m)) 30 4 4 (.int n) := cw_sf_ne f4 (Or.inr (by decide))
    have a32 : cw_A (cw_sf h 30 5 (.int m)) 36 0 512 (.inl g) := cw_sf_A a36
    have a33 : cw_A (cw_sf h 30 5 (.int m)) 31 0 2500 (.inl f) := cw_sf_A a31
    have f34 : cw_F (cw_sf h 30 5 (.int m)) 30 4 5 (.int m) := cw_sf_same fp
    refine cw_n aj_d44 rfl rfl ?_
    refine cw_n aj_d44 rfl rfl ?_
    refine cw_p (i := 30) (t := 56) (c := 4) (k := 6) (v := .int p) (y := (.inl ((-2147483648), 2147483647))) htb aj_d44 rfl rfl hT27 (cw_s0 hB rfl) rfl rfl rfl (cw_full _) (by decide) rfl rfl (fun hT35 => ?_)
    obtain ⟨v36, f36, g36⟩ := cw_tyF (i := 30) (t := 56) (c := 4) (k := 6) (y := (.inl ((-2147483648), 2147483647))) hT27 (cw_s0 hB rfl) rfl rfl rfl
    obtain ⟨x36, rfl, b36⟩ := ak_gi g36
    dsimp only [ak_win] at b36
    have f37 : cw_F (cw_sf (cw_sf h 30 5 (.int m)) 30 6 (.int p)) 35 3 5 (.int x5) := cw_sf_ne f28 (Or.inr (by decide))
    have f38 : cw_F (cw_sf (cw_sf h 30 5 (.int m)) 30 6 (.int p)) 35 3 6 (.int nx) := cw_sf_ne f29 (Or.inl (by decide))
    have f39 : cw_F (cw_sf (cw_sf h 30 5 (.int m)) 30 6 (.int p)) 35 3 14 (.int o) := cw_sf_ne f30 (Or.inr (by decide))
    have f40 : cw_F (cw_sf (cw_sf h 30 5 (.int m)) 30 6 (.int p)) 30 4 4 (.int n) := cw_sf_ne f31 (Or.inr (by decide))
    have f41 : cw_F (cw_sf (cw_sf h 30 5 (.int m)) 30 6 (.int p)) 30 4 5 (.int m) := cw_sf_ne f34 (Or.inr (by decide))
    have a42 : cw_A (cw_sf (cw_sf h 30 5 (.int m)) 30 6 (.int p)) 36 0 512 (.inl g) := cw_sf_A a32
    have a43 : cw_A (cw_sf (cw_sf h 30 5 (.int m)) 30 6 (.int p)) 31 0 2500 (.inl f) := cw_sf_A a33
    have f44 : cw_F (cw_sf (cw_sf h 30 5 (.int m)) 30 6 (.int p)) 30 4 6 (.int p) := cw_sf_same f36
    refine cw_Wr aj_d44 rfl rfl hT35 ?_ ?_
    · exact ⟨rfl, (cw_ex_tr (cw_ex_tr cw_ex_rf (cw_ex_sf (by decide))) (cw_ex_sf (by decide))), ⟨m, f41, hm⟩, f38⟩
    · trivial
  · have q26 : (0 : Int) ≠ (0 : Int) := aw_t_eq (a := (0 : Int)) (b := (0 : Int)) rfl rfl q26
    exfalso
    omega
theorem cw_take (htb : ak_tbOK ak_C0 tb) (hT : ak_Ty ak_C0 s h) (hB : cw_B s) (hd : 2 ≤ d) {x : Int32} (hP : cw_PV h σ nx o n f) (hn : 0 ≤ nx.toInt ∧ nx.toInt ≤ 999999) : cw_K ak_C0 (fun s' r h' => s' = s ∧ cw_ex cw_EP (cw_o h) (cw_o h') ∧ (cw_bad h' ∨ ∃ nx' : Int32, nx'.toInt = nx.toInt + 1 ∧ (nx'.toInt ≤ 1000 ∨ x.toInt = 1) ∧ cw_PV h' σ nx' o n f)) tb d (cw_nP 55 none) [.ref (52 + 35), .int x] s h := by
  obtain ⟨d, rfl⟩ : ∃ e, d = e + 1 := ⟨d - 1, by omega⟩
  have hP' := hP
  obtain ⟨⟨x5, g, f5, l5, a36, lo⟩, f6, f14, f4, fp, a31⟩ := hP'
  refine cw_m (con := (cw_nP 55 none)) aj_m55_at (Nat.le_of_ble_eq_true rfl) ?_
  show cw_W _ _ _ _ _ _ _ _ _ _ 0 [(0, .ref (52 + 35)), (1, .int x)] []
  refine cw_n aj_d55 rfl rfl ?_
  obtain ⟨v45, f45, g45⟩ := cw_tyF (i := 35) (t := 55) (c := 3) (k := 0) (y := (.inr (some ([60], false)))) hT (cw_s0 hB rfl) rfl rfl rfl
  obtain rfl := cw_gu (i := 26) hB g45 (by decide) (by decide) (by decide)
  refine cw_g (i := 35) (v := .ref (52 + 26)) htb.1 aj_d55 rfl rfl (by decide) f45 ?_
  refine cw_n aj_d55 rfl rfl ?_
  refine cw_g (i := 35) (v := .int nx) htb.1 aj_d55 rfl rfl (by decide) f6 ?_
  refine cw_k (con' := ap_c46) aj_d55 htb hT rfl rfl [_] rfl rfl (cw_cls hT (cw_s0 hB rfl) rfl) (Nat.le_of_ble_eq_true rfl) ⟨by decide, by decide⟩ (cw_a1 (by omega) (ap_0_46 htb (cw_SP1c _ _ rfl rfl) cw_hK) hT hB rfl ⟨(cw_gR (cw_s0 hB rfl) (by decide) (by decide)), (cw_gw (a := nx.toInt) rfl (by omega) (by omega)), trivial⟩) ?_
  rintro u46 ru46 h46 hT46 ⟨eu46, ho46⟩ hRu46 Eu46
  have eu46 := cw_u0 eu46
  subst eu46
  rw [List.append_nil] at hT46
  rw [List.append_nil]
  have hP47 := cw_PV_tr ho46 Eu46 (by decide) (show cw_PV _ _ _ _ _ _ from ⟨⟨_, _, f5, l5, a36, lo⟩, f6, f14, f4, fp, a31⟩)
  have hP47' := hP47
  obtain ⟨⟨x5hP47, ghP47, f5hP47, l5hP47, a36hP47, lohP47⟩, f6hP47, f14hP47, f4hP47, fphP47, a31hP47⟩ := hP47'
  obtain ⟨xu46, rfl, bu46⟩ := cw_rI hRu46
  show cw_W _ _ _ _ _ _ _ _ _ _ 11 [(0, .ref (52 + 35)), (1, .int x)] [.int xu46]
  refine cw_n aj_d55 rfl rfl ?_
  refine cw_c (tgt := 35) aj_d55 rfl rfl (fun q48 => ?_) (fun q48 => ?_)
  · have q48 : xu46.toInt = x.toInt := aw_t_eq (a := xu46.toInt) (b := x.toInt) rfl rfl q48
    refine cw_n aj_d55 rfl rfl ?_
    refine cw_g (i := 35) (v := .int nx) htb.1 aj_d55 rfl rfl (by decide) f6hP47 ?_
    refine cw_n aj_d55 rfl rfl ?_
    refine cw_c (tgt := 69) aj_d55 rfl rfl (fun q49 => ?_) (fun q49 => ?_)
    · have q49 : nx.toInt < (1000 : Int) := aw_t_lt (a := nx.toInt) (b := (1000 : Int)) rfl rfl q49
      refine cw_n aj_d55 rfl rfl ?_
      refine cw_n aj_d55 rfl rfl ?_
      refine cw_g (i := 35) (v := .int nx) htb.1 aj_d55 rfl rfl (by decide) f6hP47 ?_
      refine cw_p (i := 35) (t := 55) (c := 3) (k := 7) (v := .int nx) (y := (.inl (0, 1000000))) htb aj_d55 rfl rfl hT46 (cw_s0 hB rfl) rfl rfl rfl (cw_gw (a := nx.toInt) rfl (by omega) (by omega)) (by decide) rfl rfl (fun hT50 => ?_)
      obtain ⟨v51, f51, g51⟩ := cw_tyF (i := 35) (t := 55) (c := 3) (k := 7) (y := (.inl (0, 1000000))) hT46 (cw_s0 hB rfl) rfl rfl rfl
      obtain ⟨x51, rfl, b51⟩ := ak_gi g51
      dsimp only [ak_win] at b51
      have f52 : cw_F (cw_sf h46 35 7 (.int nx)) 35 3 5 (.int x5hP47) := cw_sf_ne f5hP47 (Or.inr (by decide))
      have f53 : cw_F (cw_sf h46 35 7 (.int nx)) 35 3 6 (.int nx) := cw_sf_ne f6hP47 (Or.inr (by decide))
      have f54 : cw_F (cw_sf h46 35 7 (.int nx)) 35 3 14 (.int o) := cw_sf_ne f14hP47 (Or.inr (by decide))
      have f55 : cw_F (cw_sf h46 35 7 (.int nx)) 30 4 4 (.int n) := cw_sf_ne f4hP47 (Or.inr (by decide))
      have f56 : cw_F (cw_sf h46 35 7 (.int nx)) 30 4 5 (.int 0) := cw_sf_ne fphP47 (Or.inr (by decide))
      have a57 : cw_A (cw_sf h46 35 7 (.int nx)) 36 0 512 (.inl ghP47) := cw_sf_A a36hP47
      have a58 : cw_A (cw_sf h46 35 7 (.int nx)) 31 0 2500 (.inl f) := cw_sf_A a31hP47
      have f59 : cw_F (cw_sf h46 35 7 (.int nx)) 35 3 7 (.int nx) := cw_sf_same f51
      refine cw_n aj_d55 rfl rfl ?_
      refine cw_n aj_d55 rfl rfl ?_
      refine cw_g (i := 35) (v := .int nx) htb.1 aj_d55 rfl rfl (by decide) f53 ?_
      refine cw_n aj_d55 rfl rfl ?_
      refine cw_add aj_d55 rfl (a := nx.toInt) (b := (1 : Int)) rfl rfl (by omega) (by omega) (fun x60 ex60 => ?_)
      refine cw_p (i := 35) (t := 55) (c := 3) (k := 6) (v := .int x60) (y := (.inl (0, 1000000))) htb aj_d55 rfl rfl hT50 (cw_s0 hB rfl) rfl rfl rfl (cw_gw (a := x60.toInt) rfl (by omega) (by omega)) (by decide) rfl rfl (fun hT61 => ?_)
      have f62 : cw_F (cw_sf (cw_sf h46 35 7 (.int nx)) 35 6 (.int x60)) 35 3 5 (.int x5hP47) := cw_sf_ne f52 (Or.inr (by decide))
      have f63 : cw_F (cw_sf (cw_sf h46 35 7 (.int nx)) 35 6 (.int x60)) 35 3 14 (.int o) := cw_sf_ne f54 (Or.inr (by decide))
      have f64 : cw_F (cw_sf (cw_sf h46 35 7 (.int nx)) 35 6 (.int x60)) 30 4 4 (.int n) := cw_sf_ne f55 (Or.inr (by decide))
      have f65 : cw_F (cw_sf (cw_sf h46 35 7 (.int nx)) 35 6 (.int x60)) 30 4 5 (.int 0) := cw_sf_ne f56 (Or.inr (by decide))
      have f66 : cw_F (cw_sf (cw_sf h46 35 7 (.int nx)) 35 6 (.int x60)) 35 3 7 (.int nx) := cw_sf_ne f59 (Or.inr (by decide))
      have a67 : cw_A (cw_sf (cw_sf h46 35 7 (.int nx)) 35 6 (.int x60)) 36 0 512 (.inl ghP47) := cw_sf_A a57
      have a68 : cw_A (cw_sf (cw_sf h46 35 7 (.int nx)) 35 6 (.int x60)) 31 0 2500 (.inl f) := cw_sf_A a58
      have f69 : cw_F (cw_sf (cw_sf h46 35 7 (.int nx)) 35 6 (.int x60)) 35 3 6 (.int x60) := cw_sf_same f53
      refine cw_Wr aj_d55 rfl rfl hT61 ?_ ?_
      · exact ⟨rfl, (cw_ex_tr (cw_ex_tr (cw_ex_tr cw_ex_rf (cw_ex_of ho46)) (cw_ex_sf (by decide))) (cw_ex_sf (by decide))), Or.inr ⟨_, by omega, by omega, ⟨⟨_, _, f62, l5hP47, a67, lohP47⟩, f69, f63, f64, f65, a68⟩⟩⟩
      · trivial
    · have q49 : nx.toInt ≥ (1000 : Int) := aw_t_lt (a := nx.toInt) (b := (1000 : Int)) rfl rfl q49
      refine cw_n aj_d55 rfl rfl ?_
      refine cw_n aj_d55 rfl rfl ?_
      refine cw_c (tgt := 69) aj_d55 rfl rfl (fun q70 => ?_) (fun q70 => ?_)
      · have q70 : x.toInt = (1 : Int) := aw_t_eq (a := x.toInt) (b := (1 : Int)) rfl rfl q70
        refine cw_n aj_d55 rfl rfl ?_
        refine cw_n aj_d55 rfl rfl ?_
        refine cw_g (i := 35) (v := .int nx) htb.1 aj_d55 rfl rfl (by decide) f6hP47 ?_
        refine cw_p (i := 35) (t := 55) (c := 3) (k := 7) (v := .int nx) (y := (.inl (0, 1000000))) htb aj_d55 rfl rfl hT46 (cw_s0 hB rfl) rfl rfl rfl (cw_gw (a := nx.toInt) rfl (by omega) (by omega)) (by decide) rfl rfl (fun hT71 => ?_)
        obtain ⟨v72, f72, g72⟩ := cw_tyF (i := 35) (t := 55) (c := 3) (k := 7) (y := (.inl (0, 1000000))) hT46 (cw_s0 hB rfl) rfl rfl rfl
        obtain ⟨x72, rfl, b72⟩ := ak_gi g72
        dsimp only [ak_win] at b72
        have f73 : cw_F (cw_sf h46 35 7 (.int nx)) 35 3 5 (.int x5hP47) := cw_sf_ne f5hP47 (Or.inr (by decide))
        have f74 : cw_F (cw_sf h46 35 7 (.int nx)) 35 3 6 (.int nx) := cw_sf_ne f6hP47 (Or.inr (by decide))
        have f75 : cw_F (cw_sf h46 35 7 (.int nx)) 35 3 14 (.int o) := cw_sf_ne f14hP47 (Or.inr (by decide))
        have f76 : cw_F (cw_sf h46 35 7 (.int nx)) 30 4 4 (.int n) := cw_sf_ne f4hP47 (Or.inr (by decide))
        have f77 : cw_F (cw_sf h46 35 7 (.int nx)) 30 4 5 (.int 0) := cw_sf_ne fphP47 (Or.inr (by decide))
        have a78 : cw_A (cw_sf h46 35 7 (.int nx)) 36 0 512 (.inl ghP47) := cw_sf_A a36hP47
        have a79 : cw_A (cw_sf h46 35 7 (.int nx)) 31 0 2500 (.inl f) := cw_sf_A a31hP47
        have f80 : cw_F (cw_sf h46 35 7 (.int nx)) 35 3 7 (.int nx) := cw_sf_same f72
        refine cw_n aj_d55 rfl rfl ?_
        refine cw_n aj_d55 rfl rfl ?_
        refine cw_g (i := 35) (v := .int nx) htb.1 aj_d55 rfl rfl (by decide) f74 ?_
        refine cw_n aj_d55 rfl rfl ?_
        refine cw_add aj_d55 rfl (a := nx.toInt) (b := (1 : Int)) rfl rfl (by omega) (by omega) (fun x81 ex81 => ?_)
        refine cw_p (i := 35) (t := 55) (c := 3) (k := 6) (v := .int x81) (y := (.inl (0, 1000000))) htb aj_d55 rfl rfl hT71 (cw_s0 hB rfl) rfl rfl rfl (cw_gw (a := x81.toInt) rfl (by omega) (by omega)) (by decide) rfl rfl (fun hT82 => ?_)
        have f83 : cw_F (cw_sf (cw_sf h46 35 7 (.int nx)) 35 6 (.int x81)) 35 3 5 (.int x5hP47) := cw_sf_ne f73 (Or.inr (by decide))
        have f84 : cw_F (cw_sf (cw_sf h46 35 7 (.int nx)) 35 6 (.int x81)) 35 3 14 (.int o) := cw_sf_ne f75 (Or.inr (by decide))
        have f85 : cw_F (cw_sf (cw_sf h46 35 7 (.int nx)) 35 6 (.int x81)) 30 4 4 (.int n) := cw_sf_ne f76 (Or.inr (by decide))
        have f86 : cw_F (cw_sf (cw_sf h46 35 7 (.int nx)) 35 6 (.int x81)) 30 4 5 (.int 0) := cw_sf_ne f77 (Or.inr (by decide))
        have f87 : cw_F (cw_sf (cw_sf h46 35 7 (.int nx)) 35 6 (.int x81)) 35 3 7 (.int nx) := cw_sf_ne f80 (Or.inr (by decide))
        have a88 : cw_A (cw_sf (cw_sf h46 35 7 (.int nx)) 35 6 (.int x81)) 36 0 512 (.inl ghP47) := cw_sf_A a78
        have a89 : cw_A (cw_sf (cw_sf h46 35 7 (.int nx)) 35 6 (.int x81)) 31 0 2500 (.inl f) := cw_sf_A a79
        have f90 : cw_F (cw_sf (cw_sf h46 35 7 (.int nx)) 35 6 (.int x81)) 35 3 6 (.int x81) := cw_sf_same f74
        refine cw_Wr aj_d55 rfl rfl hT82 ?_ ?_
        · exact ⟨rfl, (cw_ex_tr (cw_ex_tr (cw_ex_tr cw_ex_rf (cw_ex_of ho46)) (cw_ex_sf (by decide))) (cw_ex_sf (by decide))), Or.inr ⟨_, by omega, by omega, ⟨⟨_, _, f83, l5hP47, a88, lohP47⟩, f90, f84, f85, f86, a89⟩⟩⟩
        · trivial
      · have q70 : x.toInt ≠ (1 : Int) := aw_t_eq (a := x.toInt) (b := (1 : Int)) rfl rfl q70
        refine cw_n aj_d55 rfl rfl ?_
        obtain ⟨v91, f91, g91⟩ := cw_tyF (i := 35) (t := 55) (c := 3) (k := 1) (y := (.inr (some ([56], false)))) hT46 (cw_s0 hB rfl) rfl rfl rfl
        obtain rfl := cw_gu (i := 30) hB g91 (by decide) (by decide) (by decide)
        refine cw_g (i := 35) (v := .ref (52 + 30)) htb.1 aj_d55 rfl rfl (by decide) f91 ?_
        refine cw_n aj_d55 rfl rfl ?_
        refine cw_n aj_d55 rfl rfl ?_
        obtain ⟨v92, f92, g92⟩ := cw_tyF (i := 35) (t := 55) (c := 3) (k := 0) (y := (.inr (some ([60], false)))) hT46 (cw_s0 hB rfl) rfl rfl rfl
        obtain rfl := cw_gu (i := 26) hB g92 (by decide) (by decide) (by decide)
        refine cw_g (i := 35) (v := .ref (52 + 26)) htb.1 aj_d55 rfl rfl (by decide) f92 ?_
        refine cw_n aj_d55 rfl rfl ?_
        refine cw_g (i := 35) (v := .int nx) htb.1 aj_d55 rfl rfl (by decide) f6hP47 ?_
        refine cw_k (con' := ap_c43) aj_d55 htb hT46 rfl rfl [_] rfl rfl (cw_cls hT46 (cw_s0 hB rfl) rfl) (Nat.le_of_ble_eq_true rfl) ⟨by decide, by decide⟩ (cw_a1 (by omega) (ap_0_43 htb (cw_SP1c _ _ rfl rfl) cw_hK) hT46 hB rfl ⟨(cw_gR (cw_s0 hB rfl) (by decide) (by decide)), (cw_full _), trivial⟩) ?_
        rintro u93 ru93 h93 hT93 ⟨eu93, ho93⟩ hRu93 Eu93
        have eu93 := cw_u0 eu93
        subst eu93
        rw [List.append_nil] at hT93
        rw [List.append_nil]
        have hP94 := cw_PV_tr ho93 Eu93 (by decide) (show cw_PV _ _ _ _ _ _ from ⟨⟨_, _, f5hP47, l5hP47, a36hP47, lohP47⟩, f6hP47, f14hP47, f4hP47, fphP47, a31hP47⟩)
        have hP94' := hP94
        obtain ⟨⟨x5hP94, ghP94, f5hP94, l5hP94, a36hP94, lohP94⟩, f6hP94, f14hP94, f4hP94, fphP94, a31hP94⟩ := hP94'
        obtain ⟨xu93, rfl, bu93⟩ := cw_rI hRu93
        show cw_W _ _ _ _ _ _ _ _ _ _ 66 [(0, .ref (52 + 35)), (1, .int x)] [.int xu93, .int (Int32.ofInt 2), .ref (52 + 30)]
        refine cw_k0 (i := 30) (t := 56) (con' := cw_nP 44 none) aj_d55 htb hT93 rfl rfl [_, _] rfl rfl (cw_s0 hB rfl) rfl (Nat.le_of_ble_eq_true rfl) ⟨by decide, by decide⟩ (cw_failP htb hT93 hB (by omega) (m := (Int32.ofInt 2)) (by decide) xu93 hP94) ?_
        rintro rh95 h95 hT96 ⟨exh95, bdh95, f6h95⟩ hRh95
        obtain rfl := cw_rN hRh95
        show cw_W _ _ _ _ _ _ _ _ _ _ 69 [(0, .ref (52 + 35)), (1, .int x)] []
        obtain ⟨mb, fb, nb⟩ := bdh95
        refine cw_n aj_d55 rfl rfl ?_
        refine cw_n aj_d55 rfl rfl ?_
        refine cw_g (i := 35) (v := .int nx) htb.1 aj_d55 rfl rfl (by decide) f6h95 ?_
        refine cw_p (i := 35) (t := 55) (c := 3) (k := 7) (v := .int nx) (y := (.inl (0, 1000000))) htb aj_d55 rfl rfl hT96 (cw_s0 hB rfl) rfl rfl rfl (cw_gw (a := nx.toInt) rfl (by omega) (by omega)) (by decide) rfl rfl (fun hT97 => ?_)
        obtain ⟨v98, f98, g98⟩ := cw_tyF (i := 35) (t := 55) (c := 3) (k := 7) (y := (.inl (0, 1000000))) hT96 (cw_s0 hB rfl) rfl rfl rfl
        obtain ⟨x98, rfl, b98⟩ := ak_gi g98
        dsimp only [ak_win] at b98
        have f99 : cw_F (cw_sf h95 35 7 (.int nx)) 35 3 6 (.int nx) := cw_sf_ne f6h95 (Or.inr (by decide))
        have f100 : cw_F (cw_sf h95 35 7 (.int nx)) 30 4 5 (.int mb) := cw_sf_ne fb (Or.inr (by decide))
        have f101 : cw_F (cw_sf h95 35 7 (.int nx)) 35 3 7 (.int nx) := cw_sf_same f98
        refine cw_n aj_d55 rfl rfl ?_
        refine cw_n aj_d55 rfl rfl ?_
        refine cw_g (i := 35) (v := .int nx) htb.1 aj_d55 rfl rfl (by decide) f99 ?_
        refine cw_n aj_d55 rfl rfl ?_
        refine cw_add aj_d55 rfl (a := nx.toInt) (b := (1 : Int)) rfl rfl (by omega) (by omega) (fun x102 ex102 => ?_)
        refine cw_p (i := 35) (t := 55) (c := 3) (k := 6) (v := .int x102) (y := (.inl (0, 1000000))) htb aj_d55 rfl rfl hT97 (cw_s0 hB rfl) rfl rfl rfl (cw_gw (a := x102.toInt) rfl (by omega) (by omega)) (by decide) rfl rfl (fun hT103 => ?_)
        have f104 : cw_F (cw_sf (cw_sf h95 35 7 (.int nx)) 35 6 (.int x102)) 30 4 5 (.int mb) := cw_sf_ne f100 (Or.inr (by decide))
        have f105 : cw_F (cw_sf (cw_sf h95 35 7 (.int nx)) 35 6 (.int x102)) 35 3 7 (.int nx) := cw_sf_ne f101 (Or.inr (by decide))
        have f106 : cw_F (cw_sf (cw_sf h95 35 7 (.int nx)) 35 6 (.int x102)) 35 3 6 (.int x102) := cw_sf_same f99
        refine cw_Wr aj_d55 rfl rfl hT103 ?_ ?_
        · exact ⟨rfl, (cw_ex_tr (cw_ex_tr (cw_ex_tr (cw_ex_tr (cw_ex_tr cw_ex_rf (cw_ex_of ho46)) (cw_ex_of ho93)) exh95) (cw_ex_sf (by decide))) (cw_ex_sf (by decide))), Or.inl ⟨_, f104, nb⟩⟩
        · trivial
  · have q48 : xu46.toInt ≠ x.toInt := aw_t_eq (a := xu46.toInt) (b := x.toInt) rfl rfl q48
    refine cw_n aj_d55 rfl rfl ?_
    obtain ⟨v107, f107, g107⟩ := cw_tyF (i := 35) (t := 55) (c := 3) (k := 1) (y := (.inr (some ([56], false)))) hT46 (cw_s0 hB rfl) rfl rfl rfl
    obtain rfl := cw_gu (i := 30) hB g107 (by decide) (by decide) (by decide)
    refine cw_g (i := 35) (v := .ref (52 + 30)) htb.1 aj_d55 rfl rfl (by decide) f107 ?_
    refine cw_n aj_d55 rfl rfl ?_
    refine cw_n aj_d55 rfl rfl ?_
    obtain ⟨v108, f108, g108⟩ := cw_tyF (i := 35) (t := 55) (c := 3) (k := 0) (y := (.inr (some ([60], false)))) hT46 (cw_s0 hB rfl) rfl rfl rfl
    obtain rfl := cw_gu (i := 26) hB g108 (by decide) (by decide) (by decide)
    refine cw_g (i := 35) (v := .ref (52 + 26)) htb.1 aj_d55 rfl rfl (by decide) f108 ?_
    refine cw_n aj_d55 rfl rfl ?_
    refine cw_g (i := 35) (v := .int nx) htb.1 aj_d55 rfl rfl (by decide) f6hP47 ?_
    refine cw_k (con' := ap_c43) aj_d55 htb hT46 rfl rfl [_] rfl rfl (cw_cls hT46 (cw_s0 hB rfl) rfl) (Nat.le_of_ble_eq_true rfl) ⟨by decide, by decide⟩ (cw_a1 (by omega) (ap_0_43 htb (cw_SP1c _ _ rfl rfl) cw_hK) hT46 hB rfl ⟨(cw_gR (cw_s0 hB rfl) (by decide) (by decide)), (cw_full _), trivial⟩) ?_
    rintro u109 ru109 h109 hT109 ⟨eu109, ho109⟩ hRu109 Eu109
    have eu109 := cw_u0 eu109
    subst eu109
    rw [List.append_nil] at hT109
    rw [List.append_nil]
    have hP110 := cw_PV_tr ho109 Eu109 (by decide) (show cw_PV _ _ _ _ _ _ from ⟨⟨_, _, f5hP47, l5hP47, a36hP47, lohP47⟩, f6hP47, f14hP47, f4hP47, fphP47, a31hP47⟩)
    have hP110' := hP110
    obtain ⟨⟨x5hP110, ghP110, f5hP110, l5hP110, a36hP110, lohP110⟩, f6hP110, f14hP110, f4hP110, fphP110, a31hP110⟩ := hP110'
    obtain ⟨xu109, rfl, bu109⟩ := cw_rI hRu109
    show cw_W _ _ _ _ _ _ _ _ _ _ 31 [(0, .ref (52 + 35)), (1, .int x)] [.int xu109, .int (Int32.ofInt 1), .ref (52 + 30)]
    refine cw_k0 (i := 30) (t := 56) (con' := cw_nP 44 none) aj_d55 htb hT109 rfl rfl [_, _] rfl rfl (cw_s0 hB rfl) rfl (Nat.le_of_ble_eq_true rfl) ⟨by decide, by decide⟩ (cw_failP htb hT109 hB (by omega) (m := (Int32.ofInt 1)) (by decide) xu109 hP110) ?_
    rintro rh111 h111 hT112 ⟨exh111, bdh111, f6h111⟩ hRh111
    obtain rfl := cw_rN hRh111
    show cw_W _ _ _ _ _ _ _ _ _ _ 34 [(0, .ref (52 + 35)), (1, .int x)] []
    refine cw_Wr aj_d55 rfl rfl hT112 ?_ ?_
    · exact ⟨rfl, (cw_ex_tr (cw_ex_tr (cw_ex_tr cw_ex_rf (cw_ex_of ho46)) (cw_ex_of ho109)) exh111), Or.inl bdh111⟩
    · trivial
theorem cw_sl_ok : ∀ t, t ≤ 50 → (cw_sl t).length ≤ 11 ∧ ∀ j, j < (cw_sl t).length → (cw_sl t).getD j 0 ≤ 255 := by decide
theorem cw_sl_drop {l : List Nat} {k : Nat} (hk : k < l.length) : l.drop k = l.getD k 0 :: l.drop (k + 1) := by
  rw [List.drop_eq_getElem_cons hk]
  simp [List.getD_eq_getElem?_getD, hk]
theorem cw_exp_l (htb : ak_tbOK ak_C0 tb) (hB : cw_B s) (hd : 1 ≤ d) {o0 : cw_O} {t : Nat} (h50 : t ≤ 50) {fS : Nat → Int32} (aS : tb[t]? = some (0, (cw_sl t).length, .inl fS)) (vS : ∀ j, j < (cw_sl t).length → (fS j).toInt = (((cw_sl t).getD j 0 : Nat) : Int)) {x1 : Int32} : ∀ (k : Nat) {h : aj_H} {i : Int32} {kc ks : Nat} (hT : ak_Ty ak_C0 s h) (hE : cw_ex cw_EP o0 (cw_o h)) (hP : cw_PV h ((cw_sl t).drop k ++ σ) nx o n f) (hi : i.toInt = (k : Int) - 1) (hk : k ≤ (cw_sl t).length) (hl : (cw_sl t).length + σ.length ≤ 512), cw_W ak_C0 (fun s' _ h' => s' = s ∧ cw_ex cw_EP o0 (cw_o h') ∧ (cw_bad h' ∨ cw_PV h' (cw_sl t ++ σ) nx o n f)) tb d aj_m45 (cw_nP 45 none) s h kc ks 45 [(3, .int i), (2, .ref t), (0, .ref (52 + 35)), (1, .int x1)] [] := by
  have h11 := (cw_sl_ok t h50).1
  intro k
  induction k with
  | zero =>
    intro h i kc ks hT hE hP hi hk hl
    refine cw_n aj_d45 rfl rfl ?_
    refine cw_z (tgt := 62) aj_d45 rfl rfl (fun q113 => ?_) (fun q113 => ?_)
    · have q113 : i.toInt < (0 : Int) := aw_t_lt (a := i.toInt) (b := (0 : Int)) rfl rfl q113
      refine cw_Wr aj_d45 rfl rfl hT ?_ ?_
      · refine ⟨rfl, hE, Or.inr ?_⟩
        rw [List.drop_zero] at hP
        exact hP
      · trivial
    · have q113 : i.toInt ≥ (0 : Int) := aw_t_lt (a := i.toInt) (b := (0 : Int)) rfl rfl q113
      exfalso
      omega
  | succ k ih =>
    intro h i kc ks hT hE hP hi hk hl
    refine cw_n aj_d45 rfl rfl ?_
    refine cw_z (tgt := 62) aj_d45 rfl rfl (fun q114 => ?_) (fun q114 => ?_)
    · have q114 : i.toInt < (0 : Int) := aw_t_lt (a := i.toInt) (b := (0 : Int)) rfl rfl q114
      exfalso
      omega
    · have q114 : i.toInt ≥ (0 : Int) := aw_t_lt (a := i.toInt) (b := (0 : Int)) rfl rfl q114
      refine cw_n aj_d45 rfl rfl ?_
      refine cw_n aj_d45 rfl rfl ?_
      refine cw_n aj_d45 rfl rfl ?_
      refine cw_lds htb.1 aj_d45 rfl (by omega) aS (a := i.toInt) rfl (by omega) (by omega) ?_
      have ei : (i.toInt).toNat = k := by omega
      have ev := vS k (by omega)
      have ek := (cw_sl_ok t (by omega)).2 k (by omega)
      have hx : 0 ≤ (fS (i.toInt).toNat).toInt ∧ (fS (i.toInt).toNat).toInt ≤ 255 := by
        rw [ei, ev]
        omega
      refine cw_k0 (i := 35) (t := 55) (con' := cw_nP 33 none) aj_d45 htb hT rfl rfl [_] rfl rfl (cw_s0 hB rfl) rfl (Nat.le_of_ble_eq_true rfl) ⟨by decide, by decide⟩ (cw_push htb hT hB (by omega) hx hP (by rw [List.length_append, List.length_drop]; omega)) ?_
      rintro rq h1 hT1 ⟨ex1, hP1⟩ hRq
      obtain rfl := cw_rN hRq
      show cw_W _ _ _ _ _ _ _ _ _ _ 56 [(3, .int i), (2, .ref t), (0, .ref (52 + 35)), (1, .int x1)] []
      refine cw_inc aj_d45 rfl rfl (a := i.toInt) rfl (by omega) (by omega) (by decide) (by decide) (fun x115 ex115 => ?_)
      show cw_W _ _ _ _ _ _ _ _ _ _ 59 [(3, .int x115), (2, .ref t), (0, .ref (52 + 35)), (1, .int x1)] []
      refine cw_n aj_d45 rfl rfl ?_
      refine ih hT1 (cw_ex_tr hE ex1) ?_ (by omega) (by omega) hl
      rw [cw_sl_drop (by omega), List.cons_append]
      have e : (fS (i.toInt).toNat).toInt.toNat = (cw_sl t).getD k 0 := by
        rw [ei, ev]
        rfl
      rw [e] at hP1
      exact hP1
theorem cw_expand (htb : ak_tbOK ak_C0 tb) (hT : ak_Ty ak_C0 s h) (hB : cw_B s) (hd : 4 ≤ d) {x : Int32} {p : Nat} (hx : x.toInt = p) (h130 : 130 ≤ p) (hn : 0 ≤ nx.toInt ∧ nx.toInt ≤ 999999) (htG : cw_tbG tb) (hl : ∀ t, t ∈ cw_rl p → (cw_sl t).length + σ.length ≤ 512) (hP : cw_PV h σ nx o n f)  : cw_K ak_C0 (fun s' r h' => s' = s ∧ cw_ex cw_EP (cw_o h) (cw_o h') ∧ (cw_bad h' ∨ ∃ t, t ∈ cw_rl p ∧ cw_PV h' (cw_sl t ++ σ) nx o n f)) tb d (cw_nP 45 none) [.ref (52 + 35), .int x] s h := by
  obtain ⟨d, rfl⟩ : ∃ e, d = e + 1 := ⟨d - 1, by omega⟩
  have hP' := hP
  obtain ⟨⟨x5, g, f5, l5, a36, lo⟩, f6, f14, f4, fp, a31⟩ := hP'
  refine cw_m (con := (cw_nP 45 none)) aj_m45_at (Nat.le_of_ble_eq_true rfl) ?_
  show cw_W _ _ _ _ _ _ _ _ _ _ 0 [(0, .ref (52 + 35)), (1, .int x)] []
  refine cw_n aj_d45 rfl rfl ?_
  refine cw_n aj_d45 rfl rfl ?_
  obtain ⟨v116, f116, g116⟩ := cw_tyF (i := 35) (t := 55) (c := 3) (k := 0) (y := (.inr (some ([60], false)))) hT (cw_s0 hB rfl) rfl rfl rfl
  obtain rfl := cw_gu (i := 26) hB g116 (by decide) (by decide) (by decide)
  refine cw_g (i := 35) (v := .ref (52 + 26)) htb.1 aj_d45 rfl rfl (by decide) f116 ?_
  refine cw_n aj_d45 rfl rfl ?_
  refine cw_g (i := 35) (v := .int nx) htb.1 aj_d45 rfl rfl (by decide) f6 ?_
  refine cw_k (con' := ap_c46) aj_d45 htb hT rfl rfl [_] rfl rfl (cw_cls hT (cw_s0 hB rfl) rfl) (Nat.le_of_ble_eq_true rfl) ⟨by decide, by decide⟩ (cw_a1 (by omega) (ap_0_46 htb (cw_SP1c _ _ rfl rfl) cw_hK) hT hB rfl ⟨(cw_gR (cw_s0 hB rfl) (by decide) (by decide)), (cw_gw (a := nx.toInt) rfl (by omega) (by omega)), trivial⟩) ?_
  rintro u117 ru117 h117 hT117 ⟨eu117, ho117⟩ hRu117 Eu117
  have eu117 := cw_u0 eu117
  subst eu117
  rw [List.append_nil] at hT117
  rw [List.append_nil]
  have hP118 := cw_PV_tr ho117 Eu117 (by decide) (show cw_PV _ _ _ _ _ _ from ⟨⟨_, _, f5, l5, a36, lo⟩, f6, f14, f4, fp, a31⟩)
  have hP118' := hP118
  obtain ⟨⟨x5hP118, ghP118, f5hP118, l5hP118, a36hP118, lohP118⟩, f6hP118, f14hP118, f4hP118, fphP118, a31hP118⟩ := hP118'
  obtain ⟨xu117, rfl, bu117⟩ := cw_rI hRu117
  show cw_W _ _ _ _ _ _ _ _ _ _ 12 [(0, .ref (52 + 35)), (1, .int x)] [.int xu117, .int x]
  refine cw_ks (con' := ap_c47) aj_d45 hT117 rfl rfl rfl [_, _] rfl rfl (Nat.le_of_ble_eq_true rfl) ⟨by decide, by decide⟩ (cw_rule htb hT117 hB (by omega) hx h130 xu117) ?_
  rintro uq rq hq hTq ⟨eq, oq, rsq⟩ hRq Eq
  have eq := cw_u0 eq
  subst eq
  rw [List.append_nil] at hTq
  rw [List.append_nil]
  have hPq := cw_PV_tr oq Eq (by decide) hP118
  obtain ⟨⟨x5q, gq, f5q, l5q, a36q, loq⟩, f6q, f14q, f4q, fpq, a31q⟩ := id hPq
  rcases rsq with rfl | ⟨t, rfl, kt⟩
  · skip
    show cw_W _ _ _ _ _ _ _ _ _ _ 15 [(0, .ref (52 + 35)), (1, .int x)] [.null]
    refine cw_n aj_d45 rfl rfl ?_
    show cw_W _ _ _ _ _ _ _ _ _ _ 16 [(2, .null), (0, .ref (52 + 35)), (1, .int x)] []
    refine cw_n aj_d45 rfl rfl ?_
    refine cw_n aj_d45 rfl rfl ?_
    refine cw_n aj_d45 rfl rfl ?_
    obtain ⟨v119, f119, g119⟩ := cw_tyF (i := 35) (t := 55) (c := 3) (k := 1) (y := (.inr (some ([56], false)))) hTq (cw_s0 hB rfl) rfl rfl rfl
    obtain rfl := cw_gu (i := 30) hB g119 (by decide) (by decide) (by decide)
    refine cw_g (i := 35) (v := .ref (52 + 30)) htb.1 aj_d45 rfl rfl (by decide) f119 ?_
    refine cw_n aj_d45 rfl rfl ?_
    refine cw_n aj_d45 rfl rfl ?_
    obtain ⟨v120, f120, g120⟩ := cw_tyF (i := 35) (t := 55) (c := 3) (k := 0) (y := (.inr (some ([60], false)))) hTq (cw_s0 hB rfl) rfl rfl rfl
    obtain rfl := cw_gu (i := 26) hB g120 (by decide) (by decide) (by decide)
    refine cw_g (i := 35) (v := .ref (52 + 26)) htb.1 aj_d45 rfl rfl (by decide) f120 ?_
    refine cw_n aj_d45 rfl rfl ?_
    refine cw_g (i := 35) (v := .int nx) htb.1 aj_d45 rfl rfl (by decide) f6q ?_
    refine cw_k (con' := ap_c43) aj_d45 htb hTq rfl rfl [_] rfl rfl (cw_cls hTq (cw_s0 hB rfl) rfl) (Nat.le_of_ble_eq_true rfl) ⟨by decide, by decide⟩ (cw_a1 (by omega) (ap_0_43 htb (cw_SP1c _ _ rfl rfl) cw_hK) hTq hB rfl ⟨(cw_gR (cw_s0 hB rfl) (by decide) (by decide)), (cw_full _), trivial⟩) ?_
    rintro u121 ru121 h121 hT121 ⟨eu121, ho121⟩ hRu121 Eu121
    have eu121 := cw_u0 eu121
    subst eu121
    rw [List.append_nil] at hT121
    rw [List.append_nil]
    have hP122 := cw_PV_tr ho121 Eu121 (by decide) (show cw_PV _ _ _ _ _ _ from ⟨⟨_, _, f5q, l5q, a36q, loq⟩, f6q, f14q, f4q, fpq, a31q⟩)
    have hP122' := hP122
    obtain ⟨⟨x5hP122, ghP122, f5hP122, l5hP122, a36hP122, lohP122⟩, f6hP122, f14hP122, f4hP122, fphP122, a31hP122⟩ := hP122'
    obtain ⟨xu121, rfl, bu121⟩ := cw_rI hRu121
    show cw_W _ _ _ _ _ _ _ _ _ _ 36 [(2, .null), (0, .ref (52 + 35)), (1, .int x)] [.int xu121, .int (Int32.ofInt 1), .ref (52 + 30)]
    refine cw_k0 (i := 30) (t := 56) (con' := cw_nP 44 none) aj_d45 htb hT121 rfl rfl [_, _] rfl rfl (cw_s0 hB rfl) rfl (Nat.le_of_ble_eq_true rfl) ⟨by decide, by decide⟩ (cw_failP htb hT121 hB (by omega) (m := (Int32.ofInt 1)) (by decide) xu121 hP122) ?_
    rintro rh123 h123 hT124 ⟨exh123, bdh123, f6h123⟩ hRh123
    obtain rfl := cw_rN hRh123
    show cw_W _ _ _ _ _ _ _ _ _ _ 39 [(2, .null), (0, .ref (52 + 35)), (1, .int x)] []
    refine cw_Wr aj_d45 rfl rfl hT124 ?_ ?_
    · exact ⟨rfl, (cw_ex_tr (cw_ex_tr (cw_ex_tr (cw_ex_tr cw_ex_rf (cw_ex_of ho117)) (cw_ex_of oq)) (cw_ex_of ho121)) exh123), Or.inl bdh123⟩
    · trivial
  · skip
    have h150 := cw_rl_le kt
    obtain ⟨fS, aS, vS⟩ := htG t h150.1 h150.2
    have h11 := (cw_sl_ok t h150.2).1
    show cw_W _ _ _ _ _ _ _ _ _ _ 15 [(0, .ref (52 + 35)), (1, .int x)] [.ref t]
    refine cw_n aj_d45 rfl rfl ?_
    show cw_W _ _ _ _ _ _ _ _ _ _ 16 [(2, .ref t), (0, .ref (52 + 35)), (1, .int x)] []
    refine cw_n aj_d45 rfl rfl ?_
    refine cw_n aj_d45 rfl rfl ?_
    refine cw_n aj_d45 rfl rfl ?_
    refine cw_alens htb.1 aj_d45 rfl (by omega) aS (by omega) (fun x125 ex125 => ?_)
    refine cw_n aj_d45 rfl rfl ?_
    refine cw_sub aj_d45 rfl (a := ((cw_sl t).length : Int)) (b := (1 : Int)) ex125 rfl (by omega) (by omega) (fun x126 ex126 => ?_)
    refine cw_n aj_d45 rfl rfl ?_
    show cw_W _ _ _ _ _ _ _ _ _ _ 45 [(3, .int x126), (2, .ref t), (0, .ref (52 + 35)), (1, .int x)] []
    refine cw_Wmono (fun s' r h' hh => ?_) (cw_exp_l htb hB (by omega) h150.2 aS vS (cw_sl t).length hTq (cw_ex_tr (cw_ex_tr cw_ex_rf (cw_ex_of ho117)) (cw_ex_of oq)) (by rw [List.drop_length]; exact hPq) (by omega) (Nat.le_refl _) (hl t kt))
    exact ⟨hh.1, hh.2.1, hh.2.2.imp id (fun q => ⟨t, kt, q⟩)⟩
/-- what is open behind a note -/
def cw_rmo (x o o' : Int) : Prop := (x = 170 → o' = o + 1 ∧ o' ≤ 8) ∧ (x = 171 → o' = o - 1) ∧ (x ≠ 170 → x ≠ 171 → o' = o)
theorem cw_room170 (htb : ak_tbOK ak_C0 tb) (hT : ak_Ty ak_C0 s h) (hB : cw_B s) (hd : 3 ≤ d)  (ho : 0 ≤ o.toInt ∧ o.toInt ≤ 8) (hP : cw_PV h σ nx o n f)  : cw_K ak_C0 (fun s' r h' => s' = s ∧ cw_ex cw_EP (cw_o h) (cw_o h') ∧ (∃ (o' b : Int32), r = some (.int b) ∧ cw_PV h' σ nx o' n f ∧ (b.toInt ≠ 0 → cw_rmo (170 : Int) o.toInt o'.toInt))) tb d (cw_nP 35 (some (.inl (0, 1)))) [.ref (52 + 35), .int 170] s h := by
  obtain ⟨d, rfl⟩ : ∃ e, d = e + 1 := ⟨d - 1, by omega⟩
  have hP' := hP
  obtain ⟨⟨x5, g, f5, l5, a36, lo⟩, f6, f14, f4, fp, a31⟩ := hP'
  refine cw_m (con := (cw_nP 35 (some (.inl (0, 1))))) aj_m35_at (Nat.le_of_ble_eq_true rfl) ?_
  show cw_W _ _ _ _ _ _ _ _ _ _ 0 [(0, .ref (52 + 35)), (1, .int 170)] []
  refine cw_n aj_d35 rfl rfl ?_
  refine cw_tsw (tgt := 248) (a := (170 : Int)) aj_d35 rfl rfl ⟨by decide, by decide⟩ rfl rfl ?_
  refine cw_n aj_d35 rfl rfl ?_
  refine cw_n aj_d35 rfl rfl ?_
  refine cw_g (i := 35) (v := .int o) htb.1 aj_d35 rfl rfl (by decide) f14 ?_
  refine cw_n aj_d35 rfl rfl ?_
  refine cw_add aj_d35 rfl (a := o.toInt) (b := (1 : Int)) rfl rfl (by omega) (by omega) (fun x127 ex127 => ?_)
  refine cw_p (i := 35) (t := 55) (c := 3) (k := 14) (v := .int x127) (y := (.inl ((-2147483648), 2147483647))) htb aj_d35 rfl rfl hT (cw_s0 hB rfl) rfl rfl rfl (cw_full _) (by decide) rfl rfl (fun hT128 => ?_)
  have f129 : cw_F (cw_sf h 35 14 (.int x127)) 35 3 5 (.int x5) := cw_sf_ne f5 (Or.inr (by decide))
  have f130 : cw_F (cw_sf h 35 14 (.int x127)) 35 3 6 (.int nx) := cw_sf_ne f6 (Or.inr (by decide))
  have f131 : cw_F (cw_sf h 35 14 (.int x127)) 30 4 4 (.int n) := cw_sf_ne f4 (Or.inr (by decide))
  have f132 : cw_F (cw_sf h 35 14 (.int x127)) 30 4 5 (.int 0) := cw_sf_ne fp (Or.inr (by decide))
  have a133 : cw_A (cw_sf h 35 14 (.int x127)) 36 0 512 (.inl g) := cw_sf_A a36
  have a134 : cw_A (cw_sf h 35 14 (.int x127)) 31 0 2500 (.inl f) := cw_sf_A a31
  have f135 : cw_F (cw_sf h 35 14 (.int x127)) 35 3 14 (.int x127) := cw_sf_same f14
  refine cw_n aj_d35 rfl rfl ?_
  refine cw_g (i := 35) (v := .int x127) htb.1 aj_d35 rfl rfl (by decide) f135 ?_
  refine cw_n aj_d35 rfl rfl ?_
  refine cw_c (tgt := 271) aj_d35 rfl rfl (fun q136 => ?_) (fun q136 => ?_)
  · have q136 : x127.toInt > (8 : Int) := aw_t_gt (a := x127.toInt) (b := (8 : Int)) rfl rfl q136
    refine cw_n aj_d35 rfl rfl ?_
    refine cw_Wr aj_d35 rfl rfl hT128 ?_ ?_
    · exact ⟨rfl, (cw_ex_tr cw_ex_rf (cw_ex_of (cw_o_sf f14 (by decide)))), _, _, rfl, ⟨⟨_, _, f129, l5, a133, lo⟩, f130, f135, f131, f132, a134⟩, fun hb0 => absurd rfl hb0⟩
    · exact cw_gw (s := s) (a := 0) rfl (by decide) (by decide)
  · have q136 : x127.toInt ≤ (8 : Int) := aw_t_gt (a := x127.toInt) (b := (8 : Int)) rfl rfl q136
    refine cw_n aj_d35 rfl rfl ?_
    refine cw_n aj_d35 rfl rfl ?_
    refine cw_Wr aj_d35 rfl rfl hT128 ?_ ?_
    · exact ⟨rfl, (cw_ex_tr cw_ex_rf (cw_ex_of (cw_o_sf f14 (by decide)))), _, _, rfl, ⟨⟨_, _, f129, l5, a133, lo⟩, f130, f135, f131, f132, a134⟩, fun _ => ⟨by omega, by omega, by omega⟩⟩
    · exact cw_gw (s := s) (a := 1) rfl (by decide) (by decide)
theorem cw_room171 (htb : ak_tbOK ak_C0 tb) (hT : ak_Ty ak_C0 s h) (hB : cw_B s) (hd : 3 ≤ d)  (ho : 0 ≤ o.toInt ∧ o.toInt ≤ 8) (hP : cw_PV h σ nx o n f)  : cw_K ak_C0 (fun s' r h' => s' = s ∧ cw_ex cw_EP (cw_o h) (cw_o h') ∧ (∃ (o' b : Int32), r = some (.int b) ∧ cw_PV h' σ nx o' n f ∧ (b.toInt ≠ 0 → cw_rmo (171 : Int) o.toInt o'.toInt))) tb d (cw_nP 35 (some (.inl (0, 1)))) [.ref (52 + 35), .int 171] s h := by
  obtain ⟨d, rfl⟩ : ∃ e, d = e + 1 := ⟨d - 1, by omega⟩
  have hP' := hP
  obtain ⟨⟨x5, g, f5, l5, a36, lo⟩, f6, f14, f4, fp, a31⟩ := hP'
  refine cw_m (con := (cw_nP 35 (some (.inl (0, 1))))) aj_m35_at (Nat.le_of_ble_eq_true rfl) ?_
  show cw_W _ _ _ _ _ _ _ _ _ _ 0 [(0, .ref (52 + 35)), (1, .int 171)] []
  refine cw_n aj_d35 rfl rfl ?_
  refine cw_tsw (tgt := 273) (a := (171 : Int)) aj_d35 rfl rfl ⟨by decide, by decide⟩ rfl rfl ?_
  refine cw_n aj_d35 rfl rfl ?_
  refine cw_n aj_d35 rfl rfl ?_
  refine cw_g (i := 35) (v := .int o) htb.1 aj_d35 rfl rfl (by decide) f14 ?_
  refine cw_n aj_d35 rfl rfl ?_
  refine cw_sub aj_d35 rfl (a := o.toInt) (b := (1 : Int)) rfl rfl (by omega) (by omega) (fun x137 ex137 => ?_)
  refine cw_p (i := 35) (t := 55) (c := 3) (k := 14) (v := .int x137) (y := (.inl ((-2147483648), 2147483647))) htb aj_d35 rfl rfl hT (cw_s0 hB rfl) rfl rfl rfl (cw_full _) (by decide) rfl rfl (fun hT138 => ?_)
  have f139 : cw_F (cw_sf h 35 14 (.int x137)) 35 3 5 (.int x5) := cw_sf_ne f5 (Or.inr (by decide))
  have f140 : cw_F (cw_sf h 35 14 (.int x137)) 35 3 6 (.int nx) := cw_sf_ne f6 (Or.inr (by decide))
  have f141 : cw_F (cw_sf h 35 14 (.int x137)) 30 4 4 (.int n) := cw_sf_ne f4 (Or.inr (by decide))
  have f142 : cw_F (cw_sf h 35 14 (.int x137)) 30 4 5 (.int 0) := cw_sf_ne fp (Or.inr (by decide))
  have a143 : cw_A (cw_sf h 35 14 (.int x137)) 36 0 512 (.inl g) := cw_sf_A a36
  have a144 : cw_A (cw_sf h 35 14 (.int x137)) 31 0 2500 (.inl f) := cw_sf_A a31
  have f145 : cw_F (cw_sf h 35 14 (.int x137)) 35 3 14 (.int x137) := cw_sf_same f14
  refine cw_n aj_d35 rfl rfl ?_
  refine cw_Wr aj_d35 rfl rfl hT138 ?_ ?_
  · exact ⟨rfl, (cw_ex_tr cw_ex_rf (cw_ex_of (cw_o_sf f14 (by decide)))), _, _, rfl, ⟨⟨_, _, f139, l5, a143, lo⟩, f140, f145, f141, f142, a144⟩, fun _ => ⟨by omega, by omega, by omega⟩⟩
  · exact cw_gw (s := s) (a := 1) rfl (by decide) (by decide)
theorem cw_room172 (htb : ak_tbOK ak_C0 tb) (hT : ak_Ty ak_C0 s h) (hB : cw_B s) (hd : 3 ≤ d)  (ho : 0 ≤ o.toInt ∧ o.toInt ≤ 8) (hP : cw_PV h σ nx o n f)  : cw_K ak_C0 (fun s' r h' => s' = s ∧ cw_ex cw_EP (cw_o h) (cw_o h') ∧ (∃ (o' b : Int32), r = some (.int b) ∧ cw_PV h' σ nx o' n f ∧ (b.toInt ≠ 0 → cw_rmo (172 : Int) o.toInt o'.toInt))) tb d (cw_nP 35 (some (.inl (0, 1)))) [.ref (52 + 35), .int 172] s h := by
  obtain ⟨d, rfl⟩ : ∃ e, d = e + 1 := ⟨d - 1, by omega⟩
  have hP' := hP
  obtain ⟨⟨x5, g, f5, l5, a36, lo⟩, f6, f14, f4, fp, a31⟩ := hP'
  refine cw_m (con := (cw_nP 35 (some (.inl (0, 1))))) aj_m35_at (Nat.le_of_ble_eq_true rfl) ?_
  show cw_W _ _ _ _ _ _ _ _ _ _ 0 [(0, .ref (52 + 35)), (1, .int 172)] []
  refine cw_n aj_d35 rfl rfl ?_
  refine cw_tsw (tgt := 198) (a := (172 : Int)) aj_d35 rfl rfl ⟨by decide, by decide⟩ rfl rfl ?_
  refine cw_n aj_d35 rfl rfl ?_
  refine cw_n aj_d35 rfl rfl ?_
  obtain ⟨v146, f146, g146⟩ := cw_tyF (i := 35) (t := 55) (c := 3) (k := 12) (y := (.inl ((-2147483648), 2147483647))) hT (cw_s0 hB rfl) rfl rfl rfl
  obtain ⟨x146, rfl, b146⟩ := ak_gi g146
  dsimp only [ak_win] at b146
  refine cw_g (i := 35) (v := .int x146) htb.1 aj_d35 rfl rfl (by decide) f146 ?_
  refine cw_n aj_d35 rfl rfl ?_
  refine cw_any aj_d35 rfl rfl (fun x147 ex147 => ?_)
  refine cw_p (i := 35) (t := 55) (c := 3) (k := 12) (v := .int x147) (y := (.inl ((-2147483648), 2147483647))) htb aj_d35 rfl rfl hT (cw_s0 hB rfl) rfl rfl rfl (cw_full _) (by decide) rfl rfl (fun hT148 => ?_)
  have f149 : cw_F (cw_sf h 35 12 (.int x147)) 35 3 5 (.int x5) := cw_sf_ne f5 (Or.inr (by decide))
  have f150 : cw_F (cw_sf h 35 12 (.int x147)) 35 3 6 (.int nx) := cw_sf_ne f6 (Or.inr (by decide))
  have f151 : cw_F (cw_sf h 35 12 (.int x147)) 35 3 14 (.int o) := cw_sf_ne f14 (Or.inr (by decide))
  have f152 : cw_F (cw_sf h 35 12 (.int x147)) 30 4 4 (.int n) := cw_sf_ne f4 (Or.inr (by decide))
  have f153 : cw_F (cw_sf h 35 12 (.int x147)) 30 4 5 (.int 0) := cw_sf_ne fp (Or.inr (by decide))
  have a154 : cw_A (cw_sf h 35 12 (.int x147)) 36 0 512 (.inl g) := cw_sf_A a36
  have a155 : cw_A (cw_sf h 35 12 (.int x147)) 31 0 2500 (.inl f) := cw_sf_A a31
  have f156 : cw_F (cw_sf h 35 12 (.int x147)) 35 3 12 (.int x147) := cw_sf_same f146
  refine cw_n aj_d35 rfl rfl ?_
  refine cw_g (i := 35) (v := .int x147) htb.1 aj_d35 rfl rfl (by decide) f156 ?_
  refine cw_n aj_d35 rfl rfl ?_
  refine cw_c (tgt := 221) aj_d35 rfl rfl (fun q157 => ?_) (fun q157 => ?_)
  · have q157 : x147.toInt > (40 : Int) := aw_t_gt (a := x147.toInt) (b := (40 : Int)) rfl rfl q157
    refine cw_n aj_d35 rfl rfl ?_
    refine cw_Wr aj_d35 rfl rfl hT148 ?_ ?_
    · exact ⟨rfl, (cw_ex_tr cw_ex_rf (cw_ex_of (cw_o_sf f146 (by decide)))), _, _, rfl, ⟨⟨_, _, f149, l5, a154, lo⟩, f150, f151, f152, f153, a155⟩, fun hb0 => absurd rfl hb0⟩
    · exact cw_gw (s := s) (a := 0) rfl (by decide) (by decide)
  · have q157 : x147.toInt ≤ (40 : Int) := aw_t_gt (a := x147.toInt) (b := (40 : Int)) rfl rfl q157
    refine cw_n aj_d35 rfl rfl ?_
    refine cw_n aj_d35 rfl rfl ?_
    refine cw_Wr aj_d35 rfl rfl hT148 ?_ ?_
    · exact ⟨rfl, (cw_ex_tr cw_ex_rf (cw_ex_of (cw_o_sf f146 (by decide)))), _, _, rfl, ⟨⟨_, _, f149, l5, a154, lo⟩, f150, f151, f152, f153, a155⟩, fun _ => ⟨by omega, by omega, by omega⟩⟩
    · exact cw_gw (s := s) (a := 1) rfl (by decide) (by decide)
theorem cw_room173 (htb : ak_tbOK ak_C0 tb) (hT : ak_Ty ak_C0 s h) (hB : cw_B s) (hd : 3 ≤ d)  (ho : 0 ≤ o.toInt ∧ o.toInt ≤ 8) (hP : cw_PV h σ nx o n f)  : cw_K ak_C0 (fun s' r h' => s' = s ∧ cw_ex cw_EP (cw_o h) (cw_o h') ∧ (∃ (o' b : Int32), r = some (.int b) ∧ cw_PV h' σ nx o' n f ∧ (b.toInt ≠ 0 → cw_rmo (173 : Int) o.toInt o'.toInt))) tb d (cw_nP 35 (some (.inl (0, 1)))) [.ref (52 + 35), .int 173] s h := by
  obtain ⟨d, rfl⟩ : ∃ e, d = e + 1 := ⟨d - 1, by omega⟩
  have hP' := hP
  obtain ⟨⟨x5, g, f5, l5, a36, lo⟩, f6, f14, f4, fp, a31⟩ := hP'
  refine cw_m (con := (cw_nP 35 (some (.inl (0, 1))))) aj_m35_at (Nat.le_of_ble_eq_true rfl) ?_
  show cw_W _ _ _ _ _ _ _ _ _ _ 0 [(0, .ref (52 + 35)), (1, .int 173)] []
  refine cw_n aj_d35 rfl rfl ?_
  refine cw_tsw (tgt := 285) (a := (173 : Int)) aj_d35 rfl rfl ⟨by decide, by decide⟩ rfl rfl ?_
  refine cw_n aj_d35 rfl rfl ?_
  refine cw_Wr aj_d35 rfl rfl hT ?_ ?_
  · exact ⟨rfl, cw_ex_rf, _, _, rfl, ⟨⟨_, _, f5, l5, a36, lo⟩, f6, f14, f4, fp, a31⟩, fun _ => ⟨by omega, by omega, by omega⟩⟩
  · exact cw_gw (s := s) (a := 1) rfl (by decide) (by decide)
theorem cw_room174 (htb : ak_tbOK ak_C0 tb) (hT : ak_Ty ak_C0 s h) (hB : cw_B s) (hd : 3 ≤ d)  (ho : 0 ≤ o.toInt ∧ o.toInt ≤ 8) (hP : cw_PV h σ nx o n f)  : cw_K ak_C0 (fun s' r h' => s' = s ∧ cw_ex cw_EP (cw_o h) (cw_o h') ∧ (∃ (o' b : Int32), r = some (.int b) ∧ cw_PV h' σ nx o' n f ∧ (b.toInt ≠ 0 → cw_rmo (174 : Int) o.toInt o'.toInt))) tb d (cw_nP 35 (some (.inl (0, 1)))) [.ref (52 + 35), .int 174] s h := by
  obtain ⟨d, rfl⟩ : ∃ e, d = e + 1 := ⟨d - 1, by omega⟩
  have hP' := hP
  obtain ⟨⟨x5, g, f5, l5, a36, lo⟩, f6, f14, f4, fp, a31⟩ := hP'
  refine cw_m (con := (cw_nP 35 (some (.inl (0, 1))))) aj_m35_at (Nat.le_of_ble_eq_true rfl) ?_
  show cw_W _ _ _ _ _ _ _ _ _ _ 0 [(0, .ref (52 + 35)), (1, .int 174)] []
  refine cw_n aj_d35 rfl rfl ?_
  refine cw_tsw (tgt := 285) (a := (174 : Int)) aj_d35 rfl rfl ⟨by decide, by decide⟩ rfl rfl ?_
  refine cw_n aj_d35 rfl rfl ?_
  refine cw_Wr aj_d35 rfl rfl hT ?_ ?_
  · exact ⟨rfl, cw_ex_rf, _, _, rfl, ⟨⟨_, _, f5, l5, a36, lo⟩, f6, f14, f4, fp, a31⟩, fun _ => ⟨by omega, by omega, by omega⟩⟩
  · exact cw_gw (s := s) (a := 1) rfl (by decide) (by decide)
theorem cw_room175 (htb : ak_tbOK ak_C0 tb) (hT : ak_Ty ak_C0 s h) (hB : cw_B s) (hd : 3 ≤ d)  (ho : 0 ≤ o.toInt ∧ o.toInt ≤ 8) (hP : cw_PV h σ nx o n f)  : cw_K ak_C0 (fun s' r h' => s' = s ∧ cw_ex cw_EP (cw_o h) (cw_o h') ∧ (∃ (o' b : Int32), r = some (.int b) ∧ cw_PV h' σ nx o' n f ∧ (b.toInt ≠ 0 → cw_rmo (175 : Int) o.toInt o'.toInt))) tb d (cw_nP 35 (some (.inl (0, 1)))) [.ref (52 + 35), .int 175] s h := by
  obtain ⟨d, rfl⟩ : ∃ e, d = e + 1 := ⟨d - 1, by omega⟩
  have hP' := hP
  obtain ⟨⟨x5, g, f5, l5, a36, lo⟩, f6, f14, f4, fp, a31⟩ := hP'
  refine cw_m (con := (cw_nP 35 (some (.inl (0, 1))))) aj_m35_at (Nat.le_of_ble_eq_true rfl) ?_
  show cw_W _ _ _ _ _ _ _ _ _ _ 0 [(0, .ref (52 + 35)), (1, .int 175)] []
  refine cw_n aj_d35 rfl rfl ?_
  refine cw_tsw (tgt := 285) (a := (175 : Int)) aj_d35 rfl rfl ⟨by decide, by decide⟩ rfl rfl ?_
  refine cw_n aj_d35 rfl rfl ?_
  refine cw_Wr aj_d35 rfl rfl hT ?_ ?_
  · exact ⟨rfl, cw_ex_rf, _, _, rfl, ⟨⟨_, _, f5, l5, a36, lo⟩, f6, f14, f4, fp, a31⟩, fun _ => ⟨by omega, by omega, by omega⟩⟩
  · exact cw_gw (s := s) (a := 1) rfl (by decide) (by decide)
theorem cw_room176 (htb : ak_tbOK ak_C0 tb) (hT : ak_Ty ak_C0 s h) (hB : cw_B s) (hd : 3 ≤ d)  (ho : 0 ≤ o.toInt ∧ o.toInt ≤ 8) (hP : cw_PV h σ nx o n f)  : cw_K ak_C0 (fun s' r h' => s' = s ∧ cw_ex cw_EP (cw_o h) (cw_o h') ∧ (∃ (o' b : Int32), r = some (.int b) ∧ cw_PV h' σ nx o' n f ∧ (b.toInt ≠ 0 → cw_rmo (176 : Int) o.toInt o'.toInt))) tb d (cw_nP 35 (some (.inl (0, 1)))) [.ref (52 + 35), .int 176] s h := by
  obtain ⟨d, rfl⟩ : ∃ e, d = e + 1 := ⟨d - 1, by omega⟩
  have hP' := hP
  obtain ⟨⟨x5, g, f5, l5, a36, lo⟩, f6, f14, f4, fp, a31⟩ := hP'
  refine cw_m (con := (cw_nP 35 (some (.inl (0, 1))))) aj_m35_at (Nat.le_of_ble_eq_true rfl) ?_
  show cw_W _ _ _ _ _ _ _ _ _ _ 0 [(0, .ref (52 + 35)), (1, .int 176)] []
  refine cw_n aj_d35 rfl rfl ?_
  refine cw_tsw (tgt := 285) (a := (176 : Int)) aj_d35 rfl rfl ⟨by decide, by decide⟩ rfl rfl ?_
  refine cw_n aj_d35 rfl rfl ?_
  refine cw_Wr aj_d35 rfl rfl hT ?_ ?_
  · exact ⟨rfl, cw_ex_rf, _, _, rfl, ⟨⟨_, _, f5, l5, a36, lo⟩, f6, f14, f4, fp, a31⟩, fun _ => ⟨by omega, by omega, by omega⟩⟩
  · exact cw_gw (s := s) (a := 1) rfl (by decide) (by decide)
theorem cw_room177 (htb : ak_tbOK ak_C0 tb) (hT : ak_Ty ak_C0 s h) (hB : cw_B s) (hd : 3 ≤ d)  (ho : 0 ≤ o.toInt ∧ o.toInt ≤ 8) (hP : cw_PV h σ nx o n f)  : cw_K ak_C0 (fun s' r h' => s' = s ∧ cw_ex cw_EP (cw_o h) (cw_o h') ∧ (∃ (o' b : Int32), r = some (.int b) ∧ cw_PV h' σ nx o' n f ∧ (b.toInt ≠ 0 → cw_rmo (177 : Int) o.toInt o'.toInt))) tb d (cw_nP 35 (some (.inl (0, 1)))) [.ref (52 + 35), .int 177] s h := by
  obtain ⟨d, rfl⟩ : ∃ e, d = e + 1 := ⟨d - 1, by omega⟩
  have hP' := hP
  obtain ⟨⟨x5, g, f5, l5, a36, lo⟩, f6, f14, f4, fp, a31⟩ := hP'
  refine cw_m (con := (cw_nP 35 (some (.inl (0, 1))))) aj_m35_at (Nat.le_of_ble_eq_true rfl) ?_
  show cw_W _ _ _ _ _ _ _ _ _ _ 0 [(0, .ref (52 + 35)), (1, .int 177)] []
  refine cw_n aj_d35 rfl rfl ?_
  refine cw_tsw (tgt := 285) (a := (177 : Int)) aj_d35 rfl rfl ⟨by decide, by decide⟩ rfl rfl ?_
  refine cw_n aj_d35 rfl rfl ?_
  refine cw_Wr aj_d35 rfl rfl hT ?_ ?_
  · exact ⟨rfl, cw_ex_rf, _, _, rfl, ⟨⟨_, _, f5, l5, a36, lo⟩, f6, f14, f4, fp, a31⟩, fun _ => ⟨by omega, by omega, by omega⟩⟩
  · exact cw_gw (s := s) (a := 1) rfl (by decide) (by decide)
theorem cw_room178 (htb : ak_tbOK ak_C0 tb) (hT : ak_Ty ak_C0 s h) (hB : cw_B s) (hd : 3 ≤ d)  (ho : 0 ≤ o.toInt ∧ o.toInt ≤ 8) (hP : cw_PV h σ nx o n f)  : cw_K ak_C0 (fun s' r h' => s' = s ∧ cw_ex cw_EP (cw_o h) (cw_o h') ∧ (∃ (o' b : Int32), r = some (.int b) ∧ cw_PV h' σ nx o' n f ∧ (b.toInt ≠ 0 → cw_rmo (178 : Int) o.toInt o'.toInt))) tb d (cw_nP 35 (some (.inl (0, 1)))) [.ref (52 + 35), .int 178] s h := by
  obtain ⟨d, rfl⟩ : ∃ e, d = e + 1 := ⟨d - 1, by omega⟩
  have hP' := hP
  obtain ⟨⟨x5, g, f5, l5, a36, lo⟩, f6, f14, f4, fp, a31⟩ := hP'
  refine cw_m (con := (cw_nP 35 (some (.inl (0, 1))))) aj_m35_at (Nat.le_of_ble_eq_true rfl) ?_
  show cw_W _ _ _ _ _ _ _ _ _ _ 0 [(0, .ref (52 + 35)), (1, .int 178)] []
  refine cw_n aj_d35 rfl rfl ?_
  refine cw_tsw (tgt := 285) (a := (178 : Int)) aj_d35 rfl rfl ⟨by decide, by decide⟩ rfl rfl ?_
  refine cw_n aj_d35 rfl rfl ?_
  refine cw_Wr aj_d35 rfl rfl hT ?_ ?_
  · exact ⟨rfl, cw_ex_rf, _, _, rfl, ⟨⟨_, _, f5, l5, a36, lo⟩, f6, f14, f4, fp, a31⟩, fun _ => ⟨by omega, by omega, by omega⟩⟩
  · exact cw_gw (s := s) (a := 1) rfl (by decide) (by decide)
theorem cw_room179 (htb : ak_tbOK ak_C0 tb) (hT : ak_Ty ak_C0 s h) (hB : cw_B s) (hd : 3 ≤ d)  (ho : 0 ≤ o.toInt ∧ o.toInt ≤ 8) (hP : cw_PV h σ nx o n f)  : cw_K ak_C0 (fun s' r h' => s' = s ∧ cw_ex cw_EP (cw_o h) (cw_o h') ∧ (∃ (o' b : Int32), r = some (.int b) ∧ cw_PV h' σ nx o' n f ∧ (b.toInt ≠ 0 → cw_rmo (179 : Int) o.toInt o'.toInt))) tb d (cw_nP 35 (some (.inl (0, 1)))) [.ref (52 + 35), .int 179] s h := by
  obtain ⟨d, rfl⟩ : ∃ e, d = e + 1 := ⟨d - 1, by omega⟩
  have hP' := hP
  obtain ⟨⟨x5, g, f5, l5, a36, lo⟩, f6, f14, f4, fp, a31⟩ := hP'
  refine cw_m (con := (cw_nP 35 (some (.inl (0, 1))))) aj_m35_at (Nat.le_of_ble_eq_true rfl) ?_
  show cw_W _ _ _ _ _ _ _ _ _ _ 0 [(0, .ref (52 + 35)), (1, .int 179)] []
  refine cw_n aj_d35 rfl rfl ?_
  refine cw_tsw (tgt := 285) (a := (179 : Int)) aj_d35 rfl rfl ⟨by decide, by decide⟩ rfl rfl ?_
  refine cw_n aj_d35 rfl rfl ?_
  refine cw_Wr aj_d35 rfl rfl hT ?_ ?_
  · exact ⟨rfl, cw_ex_rf, _, _, rfl, ⟨⟨_, _, f5, l5, a36, lo⟩, f6, f14, f4, fp, a31⟩, fun _ => ⟨by omega, by omega, by omega⟩⟩
  · exact cw_gw (s := s) (a := 1) rfl (by decide) (by decide)
theorem cw_room180 (htb : ak_tbOK ak_C0 tb) (hT : ak_Ty ak_C0 s h) (hB : cw_B s) (hd : 3 ≤ d)  (ho : 0 ≤ o.toInt ∧ o.toInt ≤ 8) (hP : cw_PV h σ nx o n f)  : cw_K ak_C0 (fun s' r h' => s' = s ∧ cw_ex cw_EP (cw_o h) (cw_o h') ∧ (∃ (o' b : Int32), r = some (.int b) ∧ cw_PV h' σ nx o' n f ∧ (b.toInt ≠ 0 → cw_rmo (180 : Int) o.toInt o'.toInt))) tb d (cw_nP 35 (some (.inl (0, 1)))) [.ref (52 + 35), .int 180] s h := by
  obtain ⟨d, rfl⟩ : ∃ e, d = e + 1 := ⟨d - 1, by omega⟩
  have hP' := hP
  obtain ⟨⟨x5, g, f5, l5, a36, lo⟩, f6, f14, f4, fp, a31⟩ := hP'
  refine cw_m (con := (cw_nP 35 (some (.inl (0, 1))))) aj_m35_at (Nat.le_of_ble_eq_true rfl) ?_
  show cw_W _ _ _ _ _ _ _ _ _ _ 0 [(0, .ref (52 + 35)), (1, .int 180)] []
  refine cw_n aj_d35 rfl rfl ?_
  refine cw_tsw (tgt := 104) (a := (180 : Int)) aj_d35 rfl rfl ⟨by decide, by decide⟩ rfl rfl ?_
  refine cw_n aj_d35 rfl rfl ?_
  refine cw_n aj_d35 rfl rfl ?_
  refine cw_p (i := 35) (t := 55) (c := 3) (k := 13) (v := .int (Int32.ofInt 0)) (y := (.inl ((-2147483648), 2147483647))) htb aj_d35 rfl rfl hT (cw_s0 hB rfl) rfl rfl rfl (cw_full _) (by decide) rfl rfl (fun hT158 => ?_)
  obtain ⟨v159, f159, g159⟩ := cw_tyF (i := 35) (t := 55) (c := 3) (k := 13) (y := (.inl ((-2147483648), 2147483647))) hT (cw_s0 hB rfl) rfl rfl rfl
  obtain ⟨x159, rfl, b159⟩ := ak_gi g159
  dsimp only [ak_win] at b159
  have f160 : cw_F (cw_sf h 35 13 (.int (Int32.ofInt 0))) 35 3 5 (.int x5) := cw_sf_ne f5 (Or.inr (by decide))
  have f161 : cw_F (cw_sf h 35 13 (.int (Int32.ofInt 0))) 35 3 6 (.int nx) := cw_sf_ne f6 (Or.inr (by decide))
  have f162 : cw_F (cw_sf h 35 13 (.int (Int32.ofInt 0))) 35 3 14 (.int o) := cw_sf_ne f14 (Or.inr (by decide))
  have f163 : cw_F (cw_sf h 35 13 (.int (Int32.ofInt 0))) 30 4 4 (.int n) := cw_sf_ne f4 (Or.inr (by decide))
  have f164 : cw_F (cw_sf h 35 13 (.int (Int32.ofInt 0))) 30 4 5 (.int 0) := cw_sf_ne fp (Or.inr (by decide))
  have a165 : cw_A (cw_sf h 35 13 (.int (Int32.ofInt 0))) 36 0 512 (.inl g) := cw_sf_A a36
  have a166 : cw_A (cw_sf h 35 13 (.int (Int32.ofInt 0))) 31 0 2500 (.inl f) := cw_sf_A a31
  have f167 : cw_F (cw_sf h 35 13 (.int (Int32.ofInt 0))) 35 3 13 (.int (Int32.ofInt 0)) := cw_sf_same f159
  refine cw_n aj_d35 rfl rfl ?_
  refine cw_n aj_d35 rfl rfl ?_
  obtain ⟨v168, f168, g168⟩ := cw_tyF (i := 35) (t := 55) (c := 3) (k := 8) (y := (.inl ((-2147483648), 2147483647))) hT158 (cw_s0 hB rfl) rfl rfl rfl
  obtain ⟨x168, rfl, b168⟩ := ak_gi g168
  dsimp only [ak_win] at b168
  refine cw_g (i := 35) (v := .int x168) htb.1 aj_d35 rfl rfl (by decide) f168 ?_
  refine cw_n aj_d35 rfl rfl ?_
  refine cw_any aj_d35 rfl rfl (fun x169 ex169 => ?_)
  refine cw_p (i := 35) (t := 55) (c := 3) (k := 8) (v := .int x169) (y := (.inl ((-2147483648), 2147483647))) htb aj_d35 rfl rfl hT158 (cw_s0 hB rfl) rfl rfl rfl (cw_full _) (by decide) rfl rfl (fun hT170 => ?_)
  have f171 : cw_F (cw_sf (cw_sf h 35 13 (.int (Int32.ofInt 0))) 35 8 (.int x169)) 35 3 5 (.int x5) := cw_sf_ne f160 (Or.inr (by decide))
  have f172 : cw_F (cw_sf (cw_sf h 35 13 (.int (Int32.ofInt 0))) 35 8 (.int x169)) 35 3 6 (.int nx) := cw_sf_ne f161 (Or.inr (by decide))
  have f173 : cw_F (cw_sf (cw_sf h 35 13 (.int (Int32.ofInt 0))) 35 8 (.int x169)) 35 3 14 (.int o) := cw_sf_ne f162 (Or.inr (by decide))
  have f174 : cw_F (cw_sf (cw_sf h 35 13 (.int (Int32.ofInt 0))) 35 8 (.int x169)) 30 4 4 (.int n) := cw_sf_ne f163 (Or.inr (by decide))
  have f175 : cw_F (cw_sf (cw_sf h 35 13 (.int (Int32.ofInt 0))) 35 8 (.int x169)) 30 4 5 (.int 0) := cw_sf_ne f164 (Or.inr (by decide))
  have f176 : cw_F (cw_sf (cw_sf h 35 13 (.int (Int32.ofInt 0))) 35 8 (.int x169)) 35 3 13 (.int (Int32.ofInt 0)) := cw_sf_ne f167 (Or.inr (by decide))
  have a177 : cw_A (cw_sf (cw_sf h 35 13 (.int (Int32.ofInt 0))) 35 8 (.int x169)) 36 0 512 (.inl g) := cw_sf_A a165
  have a178 : cw_A (cw_sf (cw_sf h 35 13 (.int (Int32.ofInt 0))) 35 8 (.int x169)) 31 0 2500 (.inl f) := cw_sf_A a166
  have f179 : cw_F (cw_sf (cw_sf h 35 13 (.int (Int32.ofInt 0))) 35 8 (.int x169)) 35 3 8 (.int x169) := cw_sf_same f168
  refine cw_n aj_d35 rfl rfl ?_
  refine cw_g (i := 35) (v := .int x169) htb.1 aj_d35 rfl rfl (by decide) f179 ?_
  refine cw_n aj_d35 rfl rfl ?_
  refine cw_c (tgt := 132) aj_d35 rfl rfl (fun q180 => ?_) (fun q180 => ?_)
  · have q180 : x169.toInt > (8 : Int) := aw_t_gt (a := x169.toInt) (b := (8 : Int)) rfl rfl q180
    refine cw_n aj_d35 rfl rfl ?_
    refine cw_Wr aj_d35 rfl rfl hT170 ?_ ?_
    · exact ⟨rfl, (cw_ex_tr (cw_ex_tr cw_ex_rf (cw_ex_of (cw_o_sf f159 (by decide)))) (cw_ex_of (cw_o_sf f168 (by decide)))), _, _, rfl, ⟨⟨_, _, f171, l5, a177, lo⟩, f172, f173, f174, f175, a178⟩, fun hb0 => absurd rfl hb0⟩
    · exact cw_gw (s := s) (a := 0) rfl (by decide) (by decide)
  · have q180 : x169.toInt ≤ (8 : Int) := aw_t_gt (a := x169.toInt) (b := (8 : Int)) rfl rfl q180
    refine cw_n aj_d35 rfl rfl ?_
    refine cw_n aj_d35 rfl rfl ?_
    refine cw_Wr aj_d35 rfl rfl hT170 ?_ ?_
    · exact ⟨rfl, (cw_ex_tr (cw_ex_tr cw_ex_rf (cw_ex_of (cw_o_sf f159 (by decide)))) (cw_ex_of (cw_o_sf f168 (by decide)))), _, _, rfl, ⟨⟨_, _, f171, l5, a177, lo⟩, f172, f173, f174, f175, a178⟩, fun _ => ⟨by omega, by omega, by omega⟩⟩
    · exact cw_gw (s := s) (a := 1) rfl (by decide) (by decide)
theorem cw_room181 (htb : ak_tbOK ak_C0 tb) (hT : ak_Ty ak_C0 s h) (hB : cw_B s) (hd : 3 ≤ d)  (ho : 0 ≤ o.toInt ∧ o.toInt ≤ 8) (hP : cw_PV h σ nx o n f)  : cw_K ak_C0 (fun s' r h' => s' = s ∧ cw_ex cw_EP (cw_o h) (cw_o h') ∧ (∃ (o' b : Int32), r = some (.int b) ∧ cw_PV h' σ nx o' n f ∧ (b.toInt ≠ 0 → cw_rmo (181 : Int) o.toInt o'.toInt))) tb d (cw_nP 35 (some (.inl (0, 1)))) [.ref (52 + 35), .int 181] s h := by
  obtain ⟨d, rfl⟩ : ∃ e, d = e + 1 := ⟨d - 1, by omega⟩
  have hP' := hP
  obtain ⟨⟨x5, g, f5, l5, a36, lo⟩, f6, f14, f4, fp, a31⟩ := hP'
  refine cw_m (con := (cw_nP 35 (some (.inl (0, 1))))) aj_m35_at (Nat.le_of_ble_eq_true rfl) ?_
  show cw_W _ _ _ _ _ _ _ _ _ _ 0 [(0, .ref (52 + 35)), (1, .int 181)] []
  refine cw_n aj_d35 rfl rfl ?_
  refine cw_tsw (tgt := 223) (a := (181 : Int)) aj_d35 rfl rfl ⟨by decide, by decide⟩ rfl rfl ?_
  refine cw_n aj_d35 rfl rfl ?_
  refine cw_n aj_d35 rfl rfl ?_
  obtain ⟨v181, f181, g181⟩ := cw_tyF (i := 35) (t := 55) (c := 3) (k := 13) (y := (.inl ((-2147483648), 2147483647))) hT (cw_s0 hB rfl) rfl rfl rfl
  obtain ⟨x181, rfl, b181⟩ := ak_gi g181
  dsimp only [ak_win] at b181
  refine cw_g (i := 35) (v := .int x181) htb.1 aj_d35 rfl rfl (by decide) f181 ?_
  refine cw_n aj_d35 rfl rfl ?_
  refine cw_any aj_d35 rfl rfl (fun x182 ex182 => ?_)
  refine cw_p (i := 35) (t := 55) (c := 3) (k := 13) (v := .int x182) (y := (.inl ((-2147483648), 2147483647))) htb aj_d35 rfl rfl hT (cw_s0 hB rfl) rfl rfl rfl (cw_full _) (by decide) rfl rfl (fun hT183 => ?_)
  have f184 : cw_F (cw_sf h 35 13 (.int x182)) 35 3 5 (.int x5) := cw_sf_ne f5 (Or.inr (by decide))
  have f185 : cw_F (cw_sf h 35 13 (.int x182)) 35 3 6 (.int nx) := cw_sf_ne f6 (Or.inr (by decide))
  have f186 : cw_F (cw_sf h 35 13 (.int x182)) 35 3 14 (.int o) := cw_sf_ne f14 (Or.inr (by decide))
  have f187 : cw_F (cw_sf h 35 13 (.int x182)) 30 4 4 (.int n) := cw_sf_ne f4 (Or.inr (by decide))
  have f188 : cw_F (cw_sf h 35 13 (.int x182)) 30 4 5 (.int 0) := cw_sf_ne fp (Or.inr (by decide))
  have a189 : cw_A (cw_sf h 35 13 (.int x182)) 36 0 512 (.inl g) := cw_sf_A a36
  have a190 : cw_A (cw_sf h 35 13 (.int x182)) 31 0 2500 (.inl f) := cw_sf_A a31
  have f191 : cw_F (cw_sf h 35 13 (.int x182)) 35 3 13 (.int x182) := cw_sf_same f181
  refine cw_n aj_d35 rfl rfl ?_
  refine cw_g (i := 35) (v := .int x182) htb.1 aj_d35 rfl rfl (by decide) f191 ?_
  refine cw_n aj_d35 rfl rfl ?_
  refine cw_c (tgt := 246) aj_d35 rfl rfl (fun q192 => ?_) (fun q192 => ?_)
  · have q192 : x182.toInt > (16 : Int) := aw_t_gt (a := x182.toInt) (b := (16 : Int)) rfl rfl q192
    refine cw_n aj_d35 rfl rfl ?_
    refine cw_Wr aj_d35 rfl rfl hT183 ?_ ?_
    · exact ⟨rfl, (cw_ex_tr cw_ex_rf (cw_ex_of (cw_o_sf f181 (by decide)))), _, _, rfl, ⟨⟨_, _, f184, l5, a189, lo⟩, f185, f186, f187, f188, a190⟩, fun hb0 => absurd rfl hb0⟩
    · exact cw_gw (s := s) (a := 0) rfl (by decide) (by decide)
  · have q192 : x182.toInt ≤ (16 : Int) := aw_t_gt (a := x182.toInt) (b := (16 : Int)) rfl rfl q192
    refine cw_n aj_d35 rfl rfl ?_
    refine cw_n aj_d35 rfl rfl ?_
    refine cw_Wr aj_d35 rfl rfl hT183 ?_ ?_
    · exact ⟨rfl, (cw_ex_tr cw_ex_rf (cw_ex_of (cw_o_sf f181 (by decide)))), _, _, rfl, ⟨⟨_, _, f184, l5, a189, lo⟩, f185, f186, f187, f188, a190⟩, fun _ => ⟨by omega, by omega, by omega⟩⟩
    · exact cw_gw (s := s) (a := 1) rfl (by decide) (by decide)
theorem cw_room182 (htb : ak_tbOK ak_C0 tb) (hT : ak_Ty ak_C0 s h) (hB : cw_B s) (hd : 3 ≤ d)  (ho : 0 ≤ o.toInt ∧ o.toInt ≤ 8) (hP : cw_PV h σ nx o n f)  : cw_K ak_C0 (fun s' r h' => s' = s ∧ cw_ex cw_EP (cw_o h) (cw_o h') ∧ (∃ (o' b : Int32), r = some (.int b) ∧ cw_PV h' σ nx o' n f ∧ (b.toInt ≠ 0 → cw_rmo (182 : Int) o.toInt o'.toInt))) tb d (cw_nP 35 (some (.inl (0, 1)))) [.ref (52 + 35), .int 182] s h := by
  obtain ⟨d, rfl⟩ : ∃ e, d = e + 1 := ⟨d - 1, by omega⟩
  have hP' := hP
  obtain ⟨⟨x5, g, f5, l5, a36, lo⟩, f6, f14, f4, fp, a31⟩ := hP'
  refine cw_m (con := (cw_nP 35 (some (.inl (0, 1))))) aj_m35_at (Nat.le_of_ble_eq_true rfl) ?_
  show cw_W _ _ _ _ _ _ _ _ _ _ 0 [(0, .ref (52 + 35)), (1, .int 182)] []
  refine cw_n aj_d35 rfl rfl ?_
  refine cw_tsw (tgt := 285) (a := (182 : Int)) aj_d35 rfl rfl ⟨by decide, by decide⟩ rfl rfl ?_
  refine cw_n aj_d35 rfl rfl ?_
  refine cw_Wr aj_d35 rfl rfl hT ?_ ?_
  · exact ⟨rfl, cw_ex_rf, _, _, rfl, ⟨⟨_, _, f5, l5, a36, lo⟩, f6, f14, f4, fp, a31⟩, fun _ => ⟨by omega, by omega, by omega⟩⟩
  · exact cw_gw (s := s) (a := 1) rfl (by decide) (by decide)
theorem cw_room183 (htb : ak_tbOK ak_C0 tb) (hT : ak_Ty ak_C0 s h) (hB : cw_B s) (hd : 3 ≤ d)  (ho : 0 ≤ o.toInt ∧ o.toInt ≤ 8) (hP : cw_PV h σ nx o n f)  : cw_K ak_C0 (fun s' r h' => s' = s ∧ cw_ex cw_EP (cw_o h) (cw_o h') ∧ (∃ (o' b : Int32), r = some (.int b) ∧ cw_PV h' σ nx o' n f ∧ (b.toInt ≠ 0 → cw_rmo (183 : Int) o.toInt o'.toInt))) tb d (cw_nP 35 (some (.inl (0, 1)))) [.ref (52 + 35), .int 183] s h := by
  obtain ⟨d, rfl⟩ : ∃ e, d = e + 1 := ⟨d - 1, by omega⟩
  have hP' := hP
  obtain ⟨⟨x5, g, f5, l5, a36, lo⟩, f6, f14, f4, fp, a31⟩ := hP'
  refine cw_m (con := (cw_nP 35 (some (.inl (0, 1))))) aj_m35_at (Nat.le_of_ble_eq_true rfl) ?_
  show cw_W _ _ _ _ _ _ _ _ _ _ 0 [(0, .ref (52 + 35)), (1, .int 183)] []
  refine cw_n aj_d35 rfl rfl ?_
  refine cw_tsw (tgt := 285) (a := (183 : Int)) aj_d35 rfl rfl ⟨by decide, by decide⟩ rfl rfl ?_
  refine cw_n aj_d35 rfl rfl ?_
  refine cw_Wr aj_d35 rfl rfl hT ?_ ?_
  · exact ⟨rfl, cw_ex_rf, _, _, rfl, ⟨⟨_, _, f5, l5, a36, lo⟩, f6, f14, f4, fp, a31⟩, fun _ => ⟨by omega, by omega, by omega⟩⟩
  · exact cw_gw (s := s) (a := 1) rfl (by decide) (by decide)
theorem cw_room184 (htb : ak_tbOK ak_C0 tb) (hT : ak_Ty ak_C0 s h) (hB : cw_B s) (hd : 3 ≤ d)  (ho : 0 ≤ o.toInt ∧ o.toInt ≤ 8) (hP : cw_PV h σ nx o n f)  : cw_K ak_C0 (fun s' r h' => s' = s ∧ cw_ex cw_EP (cw_o h) (cw_o h') ∧ (∃ (o' b : Int32), r = some (.int b) ∧ cw_PV h' σ nx o' n f ∧ (b.toInt ≠ 0 → cw_rmo (184 : Int) o.toInt o'.toInt))) tb d (cw_nP 35 (some (.inl (0, 1)))) [.ref (52 + 35), .int 184] s h := by
  obtain ⟨d, rfl⟩ : ∃ e, d = e + 1 := ⟨d - 1, by omega⟩
  have hP' := hP
  obtain ⟨⟨x5, g, f5, l5, a36, lo⟩, f6, f14, f4, fp, a31⟩ := hP'
  refine cw_m (con := (cw_nP 35 (some (.inl (0, 1))))) aj_m35_at (Nat.le_of_ble_eq_true rfl) ?_
  show cw_W _ _ _ _ _ _ _ _ _ _ 0 [(0, .ref (52 + 35)), (1, .int 184)] []
  refine cw_n aj_d35 rfl rfl ?_
  refine cw_tsw (tgt := 134) (a := (184 : Int)) aj_d35 rfl rfl ⟨by decide, by decide⟩ rfl rfl ?_
  refine cw_n aj_d35 rfl rfl ?_
  refine cw_n aj_d35 rfl rfl ?_
  refine cw_p (i := 35) (t := 55) (c := 3) (k := 10) (v := .int (Int32.ofInt 0)) (y := (.inl ((-2147483648), 2147483647))) htb aj_d35 rfl rfl hT (cw_s0 hB rfl) rfl rfl rfl (cw_full _) (by decide) rfl rfl (fun hT193 => ?_)
  obtain ⟨v194, f194, g194⟩ := cw_tyF (i := 35) (t := 55) (c := 3) (k := 10) (y := (.inl ((-2147483648), 2147483647))) hT (cw_s0 hB rfl) rfl rfl rfl
  obtain ⟨x194, rfl, b194⟩ := ak_gi g194
  dsimp only [ak_win] at b194
  have f195 : cw_F (cw_sf h 35 10 (.int (Int32.ofInt 0))) 35 3 5 (.int x5) := cw_sf_ne f5 (Or.inr (by decide))
  have f196 : cw_F (cw_sf h 35 10 (.int (Int32.ofInt 0))) 35 3 6 (.int nx) := cw_sf_ne f6 (Or.inr (by decide))
  have f197 : cw_F (cw_sf h 35 10 (.int (Int32.ofInt 0))) 35 3 14 (.int o) := cw_sf_ne f14 (Or.inr (by decide))
  have f198 : cw_F (cw_sf h 35 10 (.int (Int32.ofInt 0))) 30 4 4 (.int n) := cw_sf_ne f4 (Or.inr (by decide))
  have f199 : cw_F (cw_sf h 35 10 (.int (Int32.ofInt 0))) 30 4 5 (.int 0) := cw_sf_ne fp (Or.inr (by decide))
  have a200 : cw_A (cw_sf h 35 10 (.int (Int32.ofInt 0))) 36 0 512 (.inl g) := cw_sf_A a36
  have a201 : cw_A (cw_sf h 35 10 (.int (Int32.ofInt 0))) 31 0 2500 (.inl f) := cw_sf_A a31
  have f202 : cw_F (cw_sf h 35 10 (.int (Int32.ofInt 0))) 35 3 10 (.int (Int32.ofInt 0)) := cw_sf_same f194
  refine cw_n aj_d35 rfl rfl ?_
  refine cw_k (con' := ap_c36) aj_d35 htb hT193 rfl rfl [] rfl rfl (cw_cls hT193 (cw_s0 hB rfl) rfl) (Nat.le_of_ble_eq_true rfl) ⟨by decide, by decide⟩ (cw_a1 (by omega) (ap_0_36 htb (cw_SP1c _ _ rfl rfl) cw_hK) hT193 hB rfl ⟨(cw_gR (cw_s0 hB rfl) (by decide) (by decide)), trivial⟩) ?_
  rintro u203 ru203 h203 hT203 ⟨eu203, ho203⟩ hRu203 Eu203
  have eu203 := cw_u0 eu203
  subst eu203
  rw [List.append_nil] at hT203
  rw [List.append_nil]
  have hP204 := cw_PV_tr ho203 Eu203 (by decide) (show cw_PV _ _ _ _ _ _ from ⟨⟨_, _, f195, l5, a200, lo⟩, f196, f197, f198, f199, a201⟩)
  have hP204' := hP204
  obtain ⟨⟨x5hP204, ghP204, f5hP204, l5hP204, a36hP204, lohP204⟩, f6hP204, f14hP204, f4hP204, fphP204, a31hP204⟩ := hP204'
  obtain ⟨xu203, rfl, bu203⟩ := cw_rI hRu203
  show cw_W _ _ _ _ _ _ _ _ _ _ 143 [(0, .ref (52 + 35)), (1, .int 184)] [.int xu203]
  refine cw_Wr aj_d35 rfl (cw_irb rfl (by omega)) hT203 ?_ ?_
  · exact ⟨rfl, (cw_ex_tr (cw_ex_tr cw_ex_rf (cw_ex_of (cw_o_sf f194 (by decide)))) (cw_ex_of ho203)), _, _, rfl, ⟨⟨_, _, f5hP204, l5hP204, a36hP204, lohP204⟩, f6hP204, f14hP204, f4hP204, fphP204, a31hP204⟩, fun _ => ⟨by omega, by omega, by omega⟩⟩
  · exact cw_gw (s := s) (a := xu203.toInt) rfl (by omega) (by omega)
theorem cw_room185 (htb : ak_tbOK ak_C0 tb) (hT : ak_Ty ak_C0 s h) (hB : cw_B s) (hd : 3 ≤ d)  (ho : 0 ≤ o.toInt ∧ o.toInt ≤ 8) (hP : cw_PV h σ nx o n f)  : cw_K ak_C0 (fun s' r h' => s' = s ∧ cw_ex cw_EP (cw_o h) (cw_o h') ∧ (∃ (o' b : Int32), r = some (.int b) ∧ cw_PV h' σ nx o' n f ∧ (b.toInt ≠ 0 → cw_rmo (185 : Int) o.toInt o'.toInt))) tb d (cw_nP 35 (some (.inl (0, 1)))) [.ref (52 + 35), .int 185] s h := by
  obtain ⟨d, rfl⟩ : ∃ e, d = e + 1 := ⟨d - 1, by omega⟩
  have hP' := hP
  obtain ⟨⟨x5, g, f5, l5, a36, lo⟩, f6, f14, f4, fp, a31⟩ := hP'
  refine cw_m (con := (cw_nP 35 (some (.inl (0, 1))))) aj_m35_at (Nat.le_of_ble_eq_true rfl) ?_
  show cw_W _ _ _ _ _ _ _ _ _ _ 0 [(0, .ref (52 + 35)), (1, .int 185)] []
  refine cw_n aj_d35 rfl rfl ?_
  refine cw_tsw (tgt := 144) (a := (185 : Int)) aj_d35 rfl rfl ⟨by decide, by decide⟩ rfl rfl ?_
  refine cw_n aj_d35 rfl rfl ?_
  refine cw_n aj_d35 rfl rfl ?_
  obtain ⟨v205, f205, g205⟩ := cw_tyF (i := 35) (t := 55) (c := 3) (k := 10) (y := (.inl ((-2147483648), 2147483647))) hT (cw_s0 hB rfl) rfl rfl rfl
  obtain ⟨x205, rfl, b205⟩ := ak_gi g205
  dsimp only [ak_win] at b205
  refine cw_g (i := 35) (v := .int x205) htb.1 aj_d35 rfl rfl (by decide) f205 ?_
  refine cw_n aj_d35 rfl rfl ?_
  refine cw_any aj_d35 rfl rfl (fun x206 ex206 => ?_)
  refine cw_p (i := 35) (t := 55) (c := 3) (k := 10) (v := .int x206) (y := (.inl ((-2147483648), 2147483647))) htb aj_d35 rfl rfl hT (cw_s0 hB rfl) rfl rfl rfl (cw_full _) (by decide) rfl rfl (fun hT207 => ?_)
  have f208 : cw_F (cw_sf h 35 10 (.int x206)) 35 3 5 (.int x5) := cw_sf_ne f5 (Or.inr (by decide))
  have f209 : cw_F (cw_sf h 35 10 (.int x206)) 35 3 6 (.int nx) := cw_sf_ne f6 (Or.inr (by decide))
  have f210 : cw_F (cw_sf h 35 10 (.int x206)) 35 3 14 (.int o) := cw_sf_ne f14 (Or.inr (by decide))
  have f211 : cw_F (cw_sf h 35 10 (.int x206)) 30 4 4 (.int n) := cw_sf_ne f4 (Or.inr (by decide))
  have f212 : cw_F (cw_sf h 35 10 (.int x206)) 30 4 5 (.int 0) := cw_sf_ne fp (Or.inr (by decide))
  have a213 : cw_A (cw_sf h 35 10 (.int x206)) 36 0 512 (.inl g) := cw_sf_A a36
  have a214 : cw_A (cw_sf h 35 10 (.int x206)) 31 0 2500 (.inl f) := cw_sf_A a31
  have f215 : cw_F (cw_sf h 35 10 (.int x206)) 35 3 10 (.int x206) := cw_sf_same f205
  refine cw_n aj_d35 rfl rfl ?_
  refine cw_g (i := 35) (v := .int x206) htb.1 aj_d35 rfl rfl (by decide) f215 ?_
  refine cw_n aj_d35 rfl rfl ?_
  refine cw_c (tgt := 166) aj_d35 rfl rfl (fun q216 => ?_) (fun q216 => ?_)
  · have q216 : x206.toInt > (4 : Int) := aw_t_gt (a := x206.toInt) (b := (4 : Int)) rfl rfl q216
    refine cw_n aj_d35 rfl rfl ?_
    refine cw_Wr aj_d35 rfl rfl hT207 ?_ ?_
    · exact ⟨rfl, (cw_ex_tr cw_ex_rf (cw_ex_of (cw_o_sf f205 (by decide)))), _, _, rfl, ⟨⟨_, _, f208, l5, a213, lo⟩, f209, f210, f211, f212, a214⟩, fun hb0 => absurd rfl hb0⟩
    · exact cw_gw (s := s) (a := 0) rfl (by decide) (by decide)
  · have q216 : x206.toInt ≤ (4 : Int) := aw_t_gt (a := x206.toInt) (b := (4 : Int)) rfl rfl q216
    refine cw_n aj_d35 rfl rfl ?_
    refine cw_n aj_d35 rfl rfl ?_
    refine cw_Wr aj_d35 rfl rfl hT207 ?_ ?_
    · exact ⟨rfl, (cw_ex_tr cw_ex_rf (cw_ex_of (cw_o_sf f205 (by decide)))), _, _, rfl, ⟨⟨_, _, f208, l5, a213, lo⟩, f209, f210, f211, f212, a214⟩, fun _ => ⟨by omega, by omega, by omega⟩⟩
    · exact cw_gw (s := s) (a := 1) rfl (by decide) (by decide)
theorem cw_room186 (htb : ak_tbOK ak_C0 tb) (hT : ak_Ty ak_C0 s h) (hB : cw_B s) (hd : 3 ≤ d)  (ho : 0 ≤ o.toInt ∧ o.toInt ≤ 8) (hP : cw_PV h σ nx o n f)  : cw_K ak_C0 (fun s' r h' => s' = s ∧ cw_ex cw_EP (cw_o h) (cw_o h') ∧ (∃ (o' b : Int32), r = some (.int b) ∧ cw_PV h' σ nx o' n f ∧ (b.toInt ≠ 0 → cw_rmo (186 : Int) o.toInt o'.toInt))) tb d (cw_nP 35 (some (.inl (0, 1)))) [.ref (52 + 35), .int 186] s h := by
  obtain ⟨d, rfl⟩ : ∃ e, d = e + 1 := ⟨d - 1, by omega⟩
  have hP' := hP
  obtain ⟨⟨x5, g, f5, l5, a36, lo⟩, f6, f14, f4, fp, a31⟩ := hP'
  refine cw_m (con := (cw_nP 35 (some (.inl (0, 1))))) aj_m35_at (Nat.le_of_ble_eq_true rfl) ?_
  show cw_W _ _ _ _ _ _ _ _ _ _ 0 [(0, .ref (52 + 35)), (1, .int 186)] []
  refine cw_n aj_d35 rfl rfl ?_
  refine cw_tsw (tgt := 168) (a := (186 : Int)) aj_d35 rfl rfl ⟨by decide, by decide⟩ rfl rfl ?_
  refine cw_n aj_d35 rfl rfl ?_
  refine cw_k (con' := ap_c38) aj_d35 htb hT rfl rfl [] rfl rfl (cw_cls hT (cw_s0 hB rfl) rfl) (Nat.le_of_ble_eq_true rfl) ⟨by decide, by decide⟩ (cw_a1 (by omega) (ap_0_38 htb (cw_SP1c _ _ rfl rfl) cw_hK) hT hB rfl ⟨(cw_gR (cw_s0 hB rfl) (by decide) (by decide)), trivial⟩) ?_
  rintro u217 ru217 h217 hT217 ⟨eu217, ho217⟩ hRu217 Eu217
  have eu217 := cw_u0 eu217
  subst eu217
  rw [List.append_nil] at hT217
  rw [List.append_nil]
  have hP218 := cw_PV_tr ho217 Eu217 (by decide) (show cw_PV _ _ _ _ _ _ from ⟨⟨_, _, f5, l5, a36, lo⟩, f6, f14, f4, fp, a31⟩)
  have hP218' := hP218
  obtain ⟨⟨x5hP218, ghP218, f5hP218, l5hP218, a36hP218, lohP218⟩, f6hP218, f14hP218, f4hP218, fphP218, a31hP218⟩ := hP218'
  obtain ⟨xu217, rfl, bu217⟩ := cw_rI hRu217
  show cw_W _ _ _ _ _ _ _ _ _ _ 172 [(0, .ref (52 + 35)), (1, .int 186)] [.int xu217]
  refine cw_Wr aj_d35 rfl (cw_irb rfl (by omega)) hT217 ?_ ?_
  · exact ⟨rfl, (cw_ex_tr cw_ex_rf (cw_ex_of ho217)), _, _, rfl, ⟨⟨_, _, f5hP218, l5hP218, a36hP218, lohP218⟩, f6hP218, f14hP218, f4hP218, fphP218, a31hP218⟩, fun _ => ⟨by omega, by omega, by omega⟩⟩
  · exact cw_gw (s := s) (a := xu217.toInt) rfl (by omega) (by omega)
theorem cw_room187 (htb : ak_tbOK ak_C0 tb) (hT : ak_Ty ak_C0 s h) (hB : cw_B s) (hd : 3 ≤ d)  (ho : 0 ≤ o.toInt ∧ o.toInt ≤ 8) (hP : cw_PV h σ nx o n f)  : cw_K ak_C0 (fun s' r h' => s' = s ∧ cw_ex cw_EP (cw_o h) (cw_o h') ∧ (∃ (o' b : Int32), r = some (.int b) ∧ cw_PV h' σ nx o' n f ∧ (b.toInt ≠ 0 → cw_rmo (187 : Int) o.toInt o'.toInt))) tb d (cw_nP 35 (some (.inl (0, 1)))) [.ref (52 + 35), .int 187] s h := by
  obtain ⟨d, rfl⟩ : ∃ e, d = e + 1 := ⟨d - 1, by omega⟩
  have hP' := hP
  obtain ⟨⟨x5, g, f5, l5, a36, lo⟩, f6, f14, f4, fp, a31⟩ := hP'
  refine cw_m (con := (cw_nP 35 (some (.inl (0, 1))))) aj_m35_at (Nat.le_of_ble_eq_true rfl) ?_
  show cw_W _ _ _ _ _ _ _ _ _ _ 0 [(0, .ref (52 + 35)), (1, .int 187)] []
  refine cw_n aj_d35 rfl rfl ?_
  refine cw_tsw (tgt := 285) (a := (187 : Int)) aj_d35 rfl rfl ⟨by decide, by decide⟩ rfl rfl ?_
  refine cw_n aj_d35 rfl rfl ?_
  refine cw_Wr aj_d35 rfl rfl hT ?_ ?_
  · exact ⟨rfl, cw_ex_rf, _, _, rfl, ⟨⟨_, _, f5, l5, a36, lo⟩, f6, f14, f4, fp, a31⟩, fun _ => ⟨by omega, by omega, by omega⟩⟩
  · exact cw_gw (s := s) (a := 1) rfl (by decide) (by decide)
theorem cw_room188 (htb : ak_tbOK ak_C0 tb) (hT : ak_Ty ak_C0 s h) (hB : cw_B s) (hd : 3 ≤ d)  (ho : 0 ≤ o.toInt ∧ o.toInt ≤ 8) (hP : cw_PV h σ nx o n f)  : cw_K ak_C0 (fun s' r h' => s' = s ∧ cw_ex cw_EP (cw_o h) (cw_o h') ∧ (∃ (o' b : Int32), r = some (.int b) ∧ cw_PV h' σ nx o' n f ∧ (b.toInt ≠ 0 → cw_rmo (188 : Int) o.toInt o'.toInt))) tb d (cw_nP 35 (some (.inl (0, 1)))) [.ref (52 + 35), .int 188] s h := by
  obtain ⟨d, rfl⟩ : ∃ e, d = e + 1 := ⟨d - 1, by omega⟩
  have hP' := hP
  obtain ⟨⟨x5, g, f5, l5, a36, lo⟩, f6, f14, f4, fp, a31⟩ := hP'
  refine cw_m (con := (cw_nP 35 (some (.inl (0, 1))))) aj_m35_at (Nat.le_of_ble_eq_true rfl) ?_
  show cw_W _ _ _ _ _ _ _ _ _ _ 0 [(0, .ref (52 + 35)), (1, .int 188)] []
  refine cw_n aj_d35 rfl rfl ?_
  refine cw_tsw (tgt := 285) (a := (188 : Int)) aj_d35 rfl rfl ⟨by decide, by decide⟩ rfl rfl ?_
  refine cw_n aj_d35 rfl rfl ?_
  refine cw_Wr aj_d35 rfl rfl hT ?_ ?_
  · exact ⟨rfl, cw_ex_rf, _, _, rfl, ⟨⟨_, _, f5, l5, a36, lo⟩, f6, f14, f4, fp, a31⟩, fun _ => ⟨by omega, by omega, by omega⟩⟩
  · exact cw_gw (s := s) (a := 1) rfl (by decide) (by decide)
theorem cw_room189 (htb : ak_tbOK ak_C0 tb) (hT : ak_Ty ak_C0 s h) (hB : cw_B s) (hd : 3 ≤ d)  (ho : 0 ≤ o.toInt ∧ o.toInt ≤ 8) (hP : cw_PV h σ nx o n f)  : cw_K ak_C0 (fun s' r h' => s' = s ∧ cw_ex cw_EP (cw_o h) (cw_o h') ∧ (∃ (o' b : Int32), r = some (.int b) ∧ cw_PV h' σ nx o' n f ∧ (b.toInt ≠ 0 → cw_rmo (189 : Int) o.toInt o'.toInt))) tb d (cw_nP 35 (some (.inl (0, 1)))) [.ref (52 + 35), .int 189] s h := by
  obtain ⟨d, rfl⟩ : ∃ e, d = e + 1 := ⟨d - 1, by omega⟩
  have hP' := hP
  obtain ⟨⟨x5, g, f5, l5, a36, lo⟩, f6, f14, f4, fp, a31⟩ := hP'
  refine cw_m (con := (cw_nP 35 (some (.inl (0, 1))))) aj_m35_at (Nat.le_of_ble_eq_true rfl) ?_
  show cw_W _ _ _ _ _ _ _ _ _ _ 0 [(0, .ref (52 + 35)), (1, .int 189)] []
  refine cw_n aj_d35 rfl rfl ?_
  refine cw_tsw (tgt := 173) (a := (189 : Int)) aj_d35 rfl rfl ⟨by decide, by decide⟩ rfl rfl ?_
  refine cw_n aj_d35 rfl rfl ?_
  refine cw_n aj_d35 rfl rfl ?_
  obtain ⟨v219, f219, g219⟩ := cw_tyF (i := 35) (t := 55) (c := 3) (k := 11) (y := (.inl ((-2147483648), 2147483647))) hT (cw_s0 hB rfl) rfl rfl rfl
  obtain ⟨x219, rfl, b219⟩ := ak_gi g219
  dsimp only [ak_win] at b219
  refine cw_g (i := 35) (v := .int x219) htb.1 aj_d35 rfl rfl (by decide) f219 ?_
  refine cw_n aj_d35 rfl rfl ?_
  refine cw_any aj_d35 rfl rfl (fun x220 ex220 => ?_)
  refine cw_p (i := 35) (t := 55) (c := 3) (k := 11) (v := .int x220) (y := (.inl ((-2147483648), 2147483647))) htb aj_d35 rfl rfl hT (cw_s0 hB rfl) rfl rfl rfl (cw_full _) (by decide) rfl rfl (fun hT221 => ?_)
  have f222 : cw_F (cw_sf h 35 11 (.int x220)) 35 3 5 (.int x5) := cw_sf_ne f5 (Or.inr (by decide))
  have f223 : cw_F (cw_sf h 35 11 (.int x220)) 35 3 6 (.int nx) := cw_sf_ne f6 (Or.inr (by decide))
  have f224 : cw_F (cw_sf h 35 11 (.int x220)) 35 3 14 (.int o) := cw_sf_ne f14 (Or.inr (by decide))
  have f225 : cw_F (cw_sf h 35 11 (.int x220)) 30 4 4 (.int n) := cw_sf_ne f4 (Or.inr (by decide))
  have f226 : cw_F (cw_sf h 35 11 (.int x220)) 30 4 5 (.int 0) := cw_sf_ne fp (Or.inr (by decide))
  have a227 : cw_A (cw_sf h 35 11 (.int x220)) 36 0 512 (.inl g) := cw_sf_A a36
  have a228 : cw_A (cw_sf h 35 11 (.int x220)) 31 0 2500 (.inl f) := cw_sf_A a31
  have f229 : cw_F (cw_sf h 35 11 (.int x220)) 35 3 11 (.int x220) := cw_sf_same f219
  refine cw_n aj_d35 rfl rfl ?_
  refine cw_g (i := 35) (v := .int x220) htb.1 aj_d35 rfl rfl (by decide) f229 ?_
  refine cw_n aj_d35 rfl rfl ?_
  refine cw_c (tgt := 196) aj_d35 rfl rfl (fun q230 => ?_) (fun q230 => ?_)
  · have q230 : x220.toInt > (12 : Int) := aw_t_gt (a := x220.toInt) (b := (12 : Int)) rfl rfl q230
    refine cw_n aj_d35 rfl rfl ?_
    refine cw_Wr aj_d35 rfl rfl hT221 ?_ ?_
    · exact ⟨rfl, (cw_ex_tr cw_ex_rf (cw_ex_of (cw_o_sf f219 (by decide)))), _, _, rfl, ⟨⟨_, _, f222, l5, a227, lo⟩, f223, f224, f225, f226, a228⟩, fun hb0 => absurd rfl hb0⟩
    · exact cw_gw (s := s) (a := 0) rfl (by decide) (by decide)
  · have q230 : x220.toInt ≤ (12 : Int) := aw_t_gt (a := x220.toInt) (b := (12 : Int)) rfl rfl q230
    refine cw_n aj_d35 rfl rfl ?_
    refine cw_n aj_d35 rfl rfl ?_
    refine cw_Wr aj_d35 rfl rfl hT221 ?_ ?_
    · exact ⟨rfl, (cw_ex_tr cw_ex_rf (cw_ex_of (cw_o_sf f219 (by decide)))), _, _, rfl, ⟨⟨_, _, f222, l5, a227, lo⟩, f223, f224, f225, f226, a228⟩, fun _ => ⟨by omega, by omega, by omega⟩⟩
    · exact cw_gw (s := s) (a := 1) rfl (by decide) (by decide)
theorem cw_room190 (htb : ak_tbOK ak_C0 tb) (hT : ak_Ty ak_C0 s h) (hB : cw_B s) (hd : 3 ≤ d)  (ho : 0 ≤ o.toInt ∧ o.toInt ≤ 8) (hP : cw_PV h σ nx o n f)  : cw_K ak_C0 (fun s' r h' => s' = s ∧ cw_ex cw_EP (cw_o h) (cw_o h') ∧ (∃ (o' b : Int32), r = some (.int b) ∧ cw_PV h' σ nx o' n f ∧ (b.toInt ≠ 0 → cw_rmo (190 : Int) o.toInt o'.toInt))) tb d (cw_nP 35 (some (.inl (0, 1)))) [.ref (52 + 35), .int 190] s h := by
  obtain ⟨d, rfl⟩ : ∃ e, d = e + 1 := ⟨d - 1, by omega⟩
  have hP' := hP
  obtain ⟨⟨x5, g, f5, l5, a36, lo⟩, f6, f14, f4, fp, a31⟩ := hP'
  refine cw_m (con := (cw_nP 35 (some (.inl (0, 1))))) aj_m35_at (Nat.le_of_ble_eq_true rfl) ?_
  show cw_W _ _ _ _ _ _ _ _ _ _ 0 [(0, .ref (52 + 35)), (1, .int 190)] []
  refine cw_n aj_d35 rfl rfl ?_
  refine cw_tsw (tgt := 285) (a := (190 : Int)) aj_d35 rfl rfl ⟨by decide, by decide⟩ rfl rfl ?_
  refine cw_n aj_d35 rfl rfl ?_
  refine cw_Wr aj_d35 rfl rfl hT ?_ ?_
  · exact ⟨rfl, cw_ex_rf, _, _, rfl, ⟨⟨_, _, f5, l5, a36, lo⟩, f6, f14, f4, fp, a31⟩, fun _ => ⟨by omega, by omega, by omega⟩⟩
  · exact cw_gw (s := s) (a := 1) rfl (by decide) (by decide)
theorem cw_room191 (htb : ak_tbOK ak_C0 tb) (hT : ak_Ty ak_C0 s h) (hB : cw_B s) (hd : 3 ≤ d)  (ho : 0 ≤ o.toInt ∧ o.toInt ≤ 8) (hP : cw_PV h σ nx o n f)  : cw_K ak_C0 (fun s' r h' => s' = s ∧ cw_ex cw_EP (cw_o h) (cw_o h') ∧ (∃ (o' b : Int32), r = some (.int b) ∧ cw_PV h' σ nx o' n f ∧ (b.toInt ≠ 0 → cw_rmo (191 : Int) o.toInt o'.toInt))) tb d (cw_nP 35 (some (.inl (0, 1)))) [.ref (52 + 35), .int 191] s h := by
  obtain ⟨d, rfl⟩ : ∃ e, d = e + 1 := ⟨d - 1, by omega⟩
  have hP' := hP
  obtain ⟨⟨x5, g, f5, l5, a36, lo⟩, f6, f14, f4, fp, a31⟩ := hP'
  refine cw_m (con := (cw_nP 35 (some (.inl (0, 1))))) aj_m35_at (Nat.le_of_ble_eq_true rfl) ?_
  show cw_W _ _ _ _ _ _ _ _ _ _ 0 [(0, .ref (52 + 35)), (1, .int 191)] []
  refine cw_n aj_d35 rfl rfl ?_
  refine cw_tsw (tgt := 134) (a := (191 : Int)) aj_d35 rfl rfl ⟨by decide, by decide⟩ rfl rfl ?_
  refine cw_n aj_d35 rfl rfl ?_
  refine cw_n aj_d35 rfl rfl ?_
  refine cw_p (i := 35) (t := 55) (c := 3) (k := 10) (v := .int (Int32.ofInt 0)) (y := (.inl ((-2147483648), 2147483647))) htb aj_d35 rfl rfl hT (cw_s0 hB rfl) rfl rfl rfl (cw_full _) (by decide) rfl rfl (fun hT231 => ?_)
  obtain ⟨v232, f232, g232⟩ := cw_tyF (i := 35) (t := 55) (c := 3) (k := 10) (y := (.inl ((-2147483648), 2147483647))) hT (cw_s0 hB rfl) rfl rfl rfl
  obtain ⟨x232, rfl, b232⟩ := ak_gi g232
  dsimp only [ak_win] at b232
  have f233 : cw_F (cw_sf h 35 10 (.int (Int32.ofInt 0))) 35 3 5 (.int x5) := cw_sf_ne f5 (Or.inr (by decide))
  have f234 : cw_F (cw_sf h 35 10 (.int (Int32.ofInt 0))) 35 3 6 (.int nx) := cw_sf_ne f6 (Or.inr (by decide))
  have f235 : cw_F (cw_sf h 35 10 (.int (Int32.ofInt 0))) 35 3 14 (.int o) := cw_sf_ne f14 (Or.inr (by decide))
  have f236 : cw_F (cw_sf h 35 10 (.int (Int32.ofInt 0))) 30 4 4 (.int n) := cw_sf_ne f4 (Or.inr (by decide))
  have f237 : cw_F (cw_sf h 35 10 (.int (Int32.ofInt 0))) 30 4 5 (.int 0) := cw_sf_ne fp (Or.inr (by decide))
  have a238 : cw_A (cw_sf h 35 10 (.int (Int32.ofInt 0))) 36 0 512 (.inl g) := cw_sf_A a36
  have a239 : cw_A (cw_sf h 35 10 (.int (Int32.ofInt 0))) 31 0 2500 (.inl f) := cw_sf_A a31
  have f240 : cw_F (cw_sf h 35 10 (.int (Int32.ofInt 0))) 35 3 10 (.int (Int32.ofInt 0)) := cw_sf_same f232
  refine cw_n aj_d35 rfl rfl ?_
  refine cw_k (con' := ap_c36) aj_d35 htb hT231 rfl rfl [] rfl rfl (cw_cls hT231 (cw_s0 hB rfl) rfl) (Nat.le_of_ble_eq_true rfl) ⟨by decide, by decide⟩ (cw_a1 (by omega) (ap_0_36 htb (cw_SP1c _ _ rfl rfl) cw_hK) hT231 hB rfl ⟨(cw_gR (cw_s0 hB rfl) (by decide) (by decide)), trivial⟩) ?_
  rintro u241 ru241 h241 hT241 ⟨eu241, ho241⟩ hRu241 Eu241
  have eu241 := cw_u0 eu241
  subst eu241
  rw [List.append_nil] at hT241
  rw [List.append_nil]
  have hP242 := cw_PV_tr ho241 Eu241 (by decide) (show cw_PV _ _ _ _ _ _ from ⟨⟨_, _, f233, l5, a238, lo⟩, f234, f235, f236, f237, a239⟩)
  have hP242' := hP242
  obtain ⟨⟨x5hP242, ghP242, f5hP242, l5hP242, a36hP242, lohP242⟩, f6hP242, f14hP242, f4hP242, fphP242, a31hP242⟩ := hP242'
  obtain ⟨xu241, rfl, bu241⟩ := cw_rI hRu241
  show cw_W _ _ _ _ _ _ _ _ _ _ 143 [(0, .ref (52 + 35)), (1, .int 191)] [.int xu241]
  refine cw_Wr aj_d35 rfl (cw_irb rfl (by omega)) hT241 ?_ ?_
  · exact ⟨rfl, (cw_ex_tr (cw_ex_tr cw_ex_rf (cw_ex_of (cw_o_sf f232 (by decide)))) (cw_ex_of ho241)), _, _, rfl, ⟨⟨_, _, f5hP242, l5hP242, a36hP242, lohP242⟩, f6hP242, f14hP242, f4hP242, fphP242, a31hP242⟩, fun _ => ⟨by omega, by omega, by omega⟩⟩
  · exact cw_gw (s := s) (a := xu241.toInt) rfl (by omega) (by omega)
theorem cw_room192 (htb : ak_tbOK ak_C0 tb) (hT : ak_Ty ak_C0 s h) (hB : cw_B s) (hd : 3 ≤ d) {x : Int32} (hx : 192 ≤ x.toInt) (ho : 0 ≤ o.toInt ∧ o.toInt ≤ 8) (hP : cw_PV h σ nx o n f)  : cw_K ak_C0 (fun s' r h' => s' = s ∧ cw_ex cw_EP (cw_o h) (cw_o h') ∧ (∃ (o' b : Int32), r = some (.int b) ∧ cw_PV h' σ nx o' n f ∧ (b.toInt ≠ 0 → cw_rmo x.toInt o.toInt o'.toInt))) tb d (cw_nP 35 (some (.inl (0, 1)))) [.ref (52 + 35), .int x] s h := by
  obtain ⟨d, rfl⟩ : ∃ e, d = e + 1 := ⟨d - 1, by omega⟩
  have hP' := hP
  obtain ⟨⟨x5, g, f5, l5, a36, lo⟩, f6, f14, f4, fp, a31⟩ := hP'
  refine cw_m (con := (cw_nP 35 (some (.inl (0, 1))))) aj_m35_at (Nat.le_of_ble_eq_true rfl) ?_
  show cw_W _ _ _ _ _ _ _ _ _ _ 0 [(0, .ref (52 + 35)), (1, .int x)] []
  refine cw_n aj_d35 rfl rfl ?_
  refine cw_tsd (tgt := 285) (a := x.toInt) aj_d35 rfl rfl (by omega) rfl ?_
  refine cw_n aj_d35 rfl rfl ?_
  refine cw_Wr aj_d35 rfl rfl hT ?_ ?_
  · exact ⟨rfl, cw_ex_rf, _, _, rfl, ⟨⟨_, _, f5, l5, a36, lo⟩, f6, f14, f4, fp, a31⟩, fun _ => ⟨by omega, by omega, by omega⟩⟩
  · exact cw_gw (s := s) (a := 1) rfl (by decide) (by decide)
theorem cw_room (htb : ak_tbOK ak_C0 tb) (hT : ak_Ty ak_C0 s h) (hB : cw_B s) (hd : 3 ≤ d) {x : Int32} (hx : 170 ≤ x.toInt) (ho : 0 ≤ o.toInt ∧ o.toInt ≤ 8) (hP : cw_PV h σ nx o n f) : cw_K ak_C0 (fun s' r h' => s' = s ∧ cw_ex cw_EP (cw_o h) (cw_o h') ∧ (∃ (o' b : Int32), r = some (.int b) ∧ cw_PV h' σ nx o' n f ∧ (b.toInt ≠ 0 → cw_rmo x.toInt o.toInt o'.toInt))) tb d (cw_nP 35 (some (.inl (0, 1)))) [.ref (52 + 35), .int x] s h := by
  by_cases h1 : 192 ≤ x.toInt
  · exact cw_room192 htb hT hB hd h1 ho hP
  · have : x.toInt = 170 ∨ x.toInt = 171 ∨ x.toInt = 172 ∨ x.toInt = 173 ∨ x.toInt = 174 ∨ x.toInt = 175 ∨ x.toInt = 176 ∨ x.toInt = 177 ∨ x.toInt = 178 ∨ x.toInt = 179 ∨ x.toInt = 180 ∨ x.toInt = 181 ∨ x.toInt = 182 ∨ x.toInt = 183 ∨ x.toInt = 184 ∨ x.toInt = 185 ∨ x.toInt = 186 ∨ x.toInt = 187 ∨ x.toInt = 188 ∨ x.toInt = 189 ∨ x.toInt = 190 ∨ x.toInt = 191 := by omega
    rcases this with q | q | q | q | q | q | q | q | q | q | q | q | q | q | q | q | q | q | q | q | q | q
    · obtain rfl := cw_lit (n := 170) q rfl
      exact cw_room170 htb hT hB hd ho hP
    · obtain rfl := cw_lit (n := 171) q rfl
      exact cw_room171 htb hT hB hd ho hP
    · obtain rfl := cw_lit (n := 172) q rfl
      exact cw_room172 htb hT hB hd ho hP
    · obtain rfl := cw_lit (n := 173) q rfl
      exact cw_room173 htb hT hB hd ho hP
    · obtain rfl := cw_lit (n := 174) q rfl
      exact cw_room174 htb hT hB hd ho hP
    · obtain rfl := cw_lit (n := 175) q rfl
      exact cw_room175 htb hT hB hd ho hP
    · obtain rfl := cw_lit (n := 176) q rfl
      exact cw_room176 htb hT hB hd ho hP
    · obtain rfl := cw_lit (n := 177) q rfl
      exact cw_room177 htb hT hB hd ho hP
    · obtain rfl := cw_lit (n := 178) q rfl
      exact cw_room178 htb hT hB hd ho hP
    · obtain rfl := cw_lit (n := 179) q rfl
      exact cw_room179 htb hT hB hd ho hP
    · obtain rfl := cw_lit (n := 180) q rfl
      exact cw_room180 htb hT hB hd ho hP
    · obtain rfl := cw_lit (n := 181) q rfl
      exact cw_room181 htb hT hB hd ho hP
    · obtain rfl := cw_lit (n := 182) q rfl
      exact cw_room182 htb hT hB hd ho hP
    · obtain rfl := cw_lit (n := 183) q rfl
      exact cw_room183 htb hT hB hd ho hP
    · obtain rfl := cw_lit (n := 184) q rfl
      exact cw_room184 htb hT hB hd ho hP
    · obtain rfl := cw_lit (n := 185) q rfl
      exact cw_room185 htb hT hB hd ho hP
    · obtain rfl := cw_lit (n := 186) q rfl
      exact cw_room186 htb hT hB hd ho hP
    · obtain rfl := cw_lit (n := 187) q rfl
      exact cw_room187 htb hT hB hd ho hP
    · obtain rfl := cw_lit (n := 188) q rfl
      exact cw_room188 htb hT hB hd ho hP
    · obtain rfl := cw_lit (n := 189) q rfl
      exact cw_room189 htb hT hB hd ho hP
    · obtain rfl := cw_lit (n := 190) q rfl
      exact cw_room190 htb hT hB hd ho hP
    · obtain rfl := cw_lit (n := 191) q rfl
      exact cw_room191 htb hT hB hd ho hP
theorem cw_padd (htb : ak_tbOK ak_C0 tb) (hT : ak_Ty ak_C0 s h) (hB : cw_B s) (hd : 1 ≤ d) {x y : Int32} (hy : 0 ≤ y.toInt ∧ y.toInt ≤ 1000000) (l z : Int32) (hn : 0 ≤ n.toInt ∧ n.toInt < 2500) (hP : cw_PV h σ nx o n f)  : cw_K ak_C0 (fun s' r h' => s' = s ∧ cw_ex cw_EP (cw_o h) (cw_o h') ∧ (∃ n' : Int32, n'.toInt = n.toInt + 1 ∧ cw_PV h' σ nx o n' (upd f n.toInt.toNat x))) tb d (cw_nP 42 none) [.ref (52 + 30), .int x, .int y, .int l, .int z] s h := by
  obtain ⟨d, rfl⟩ : ∃ e, d = e + 1 := ⟨d - 1, by omega⟩
  have hP' := hP
  obtain ⟨⟨x5, g, f5, l5, a36, lo⟩, f6, f14, f4, fp, a31⟩ := hP'
  refine cw_m (con := (cw_nP 42 none)) aj_m42_at (Nat.le_of_ble_eq_true rfl) ?_
  show cw_W _ _ _ _ _ _ _ _ _ _ 0 [(0, .ref (52 + 30)), (1, .int x), (2, .int y), (3, .int l), (4, .int z)] []
  refine cw_n aj_d42 rfl rfl ?_
  refine cw_g (i := 30) (v := .int n) htb.1 aj_d42 rfl rfl (by decide) f4 ?_
  refine cw_n aj_d42 rfl rfl ?_
  refine cw_c (tgt := 61) aj_d42 rfl rfl (fun q243 => ?_) (fun q243 => ?_)
  · have q243 : n.toInt ≥ (2500 : Int) := aw_t_ge (a := n.toInt) (b := (2500 : Int)) rfl rfl q243
    exfalso
    omega
  · have q243 : n.toInt < (2500 : Int) := aw_t_ge (a := n.toInt) (b := (2500 : Int)) rfl rfl q243
    refine cw_n aj_d42 rfl rfl ?_
    obtain ⟨v244, f244, g244⟩ := cw_tyF (i := 30) (t := 56) (c := 4) (k := 0) (y := (.inr (some ([79], false)))) hT (cw_s0 hB rfl) rfl rfl rfl
    obtain rfl := cw_gu (i := 31) hB g244 (by decide) (by decide) (by decide)
    refine cw_g (i := 30) (v := .ref (52 + 31)) htb.1 aj_d42 rfl rfl (by decide) f244 ?_
    refine cw_n aj_d42 rfl rfl ?_
    refine cw_g (i := 30) (v := .int n) htb.1 aj_d42 rfl rfl (by decide) f4 ?_
    refine cw_n aj_d42 rfl rfl ?_
    refine cw_st (i := 31) htb aj_d42 (Or.inl ⟨rfl, rfl⟩) rfl a31 hT (cw_s0 hB rfl) rfl (by decide) (a := n.toInt) rfl (by omega) (by omega) (cw_full _) (fun hT245 => ?_)
    have f246 : cw_F (cw_sa h 31 (.inl (upd f (n.toInt).toNat (aj_nar 0 x)))) 35 3 5 (.int x5) := cw_sa_F f5
    have f247 : cw_F (cw_sa h 31 (.inl (upd f (n.toInt).toNat (aj_nar 0 x)))) 35 3 6 (.int nx) := cw_sa_F f6
    have f248 : cw_F (cw_sa h 31 (.inl (upd f (n.toInt).toNat (aj_nar 0 x)))) 35 3 14 (.int o) := cw_sa_F f14
    have f249 : cw_F (cw_sa h 31 (.inl (upd f (n.toInt).toNat (aj_nar 0 x)))) 30 4 4 (.int n) := cw_sa_F f4
    have f250 : cw_F (cw_sa h 31 (.inl (upd f (n.toInt).toNat (aj_nar 0 x)))) 30 4 5 (.int 0) := cw_sa_F fp
    have f251 : cw_F (cw_sa h 31 (.inl (upd f (n.toInt).toNat (aj_nar 0 x)))) 30 4 0 (.ref (52 + 31)) := cw_sa_F f244
    have a252 : cw_A (cw_sa h 31 (.inl (upd f (n.toInt).toNat (aj_nar 0 x)))) 36 0 512 (.inl g) := cw_sa_ne a36 (by decide)
    have a253 : cw_A (cw_sa h 31 (.inl (upd f (n.toInt).toNat (aj_nar 0 x)))) 31 0 2500 (.inl (upd f (n.toInt).toNat (aj_nar 0 x))) := cw_sa_same a31
    refine cw_n aj_d42 rfl rfl ?_
    obtain ⟨v254, f254, g254⟩ := cw_tyF (i := 30) (t := 56) (c := 4) (k := 1) (y := (.inr (some ([80], false)))) hT245 (cw_s0 hB rfl) rfl rfl rfl
    obtain rfl := cw_gu (i := 32) hB g254 (by decide) (by decide) (by decide)
    refine cw_g (i := 30) (v := .ref (52 + 32)) htb.1 aj_d42 rfl rfl (by decide) f254 ?_
    refine cw_n aj_d42 rfl rfl ?_
    refine cw_g (i := 30) (v := .int n) htb.1 aj_d42 rfl rfl (by decide) f249 ?_
    refine cw_n aj_d42 rfl rfl ?_
    obtain ⟨n255, z255, a255, p255l, p255r, p255⟩ := cw_tyA (i := 32) (t := 80) (kd := 0) (n1 := 2500) (n2 := 2500) (y := (.inl (0, 1000000))) hT245 (cw_s0 hB rfl) rfl
    obtain rfl : n255 = 2500 := Nat.le_antisymm p255r p255l
    obtain ⟨fn255, rfl, p255c⟩ := cw_xi p255
    refine cw_st (i := 32) htb aj_d42 (Or.inl ⟨rfl, rfl⟩) rfl a255 hT245 (cw_s0 hB rfl) rfl (by decide) (a := n.toInt) rfl (by omega) (by omega) (cw_gw2 (a := y.toInt) rfl (by omega) (by omega)) (fun hT256 => ?_)
    have f257 : cw_F (cw_sa (cw_sa h 31 (.inl (upd f (n.toInt).toNat (aj_nar 0 x)))) 32 (.inl (upd fn255 (n.toInt).toNat (aj_nar 0 y)))) 35 3 5 (.int x5) := cw_sa_F f246
    have f258 : cw_F (cw_sa (cw_sa h 31 (.inl (upd f (n.toInt).toNat (aj_nar 0 x)))) 32 (.inl (upd fn255 (n.toInt).toNat (aj_nar 0 y)))) 35 3 6 (.int nx) := cw_sa_F f247
    have f259 : cw_F (cw_sa (cw_sa h 31 (.inl (upd f (n.toInt).toNat (aj_nar 0 x)))) 32 (.inl (upd fn255 (n.toInt).toNat (aj_nar 0 y)))) 35 3 14 (.int o) := cw_sa_F f248
    have f260 : cw_F (cw_sa (cw_sa h 31 (.inl (upd f (n.toInt).toNat (aj_nar 0 x)))) 32 (.inl (upd fn255 (n.toInt).toNat (aj_nar 0 y)))) 30 4 4 (.int n) := cw_sa_F f249
    have f261 : cw_F (cw_sa (cw_sa h 31 (.inl (upd f (n.toInt).toNat (aj_nar 0 x)))) 32 (.inl (upd fn255 (n.toInt).toNat (aj_nar 0 y)))) 30 4 5 (.int 0) := cw_sa_F f250
    have f262 : cw_F (cw_sa (cw_sa h 31 (.inl (upd f (n.toInt).toNat (aj_nar 0 x)))) 32 (.inl (upd fn255 (n.toInt).toNat (aj_nar 0 y)))) 30 4 0 (.ref (52 + 31)) := cw_sa_F f251
    have f263 : cw_F (cw_sa (cw_sa h 31 (.inl (upd f (n.toInt).toNat (aj_nar 0 x)))) 32 (.inl (upd fn255 (n.toInt).toNat (aj_nar 0 y)))) 30 4 1 (.ref (52 + 32)) := cw_sa_F f254
    have a264 : cw_A (cw_sa (cw_sa h 31 (.inl (upd f (n.toInt).toNat (aj_nar 0 x)))) 32 (.inl (upd fn255 (n.toInt).toNat (aj_nar 0 y)))) 36 0 512 (.inl g) := cw_sa_ne a252 (by decide)
    have a265 : cw_A (cw_sa (cw_sa h 31 (.inl (upd f (n.toInt).toNat (aj_nar 0 x)))) 32 (.inl (upd fn255 (n.toInt).toNat (aj_nar 0 y)))) 31 0 2500 (.inl (upd f (n.toInt).toNat (aj_nar 0 x))) := cw_sa_ne a253 (by decide)
    have a266 : cw_A (cw_sa (cw_sa h 31 (.inl (upd f (n.toInt).toNat (aj_nar 0 x)))) 32 (.inl (upd fn255 (n.toInt).toNat (aj_nar 0 y)))) 32 0 2500 (.inl (upd fn255 (n.toInt).toNat (aj_nar 0 y))) := cw_sa_same a255
    refine cw_n aj_d42 rfl rfl ?_
    obtain ⟨v267, f267, g267⟩ := cw_tyF (i := 30) (t := 56) (c := 4) (k := 2) (y := (.inr (some ([81], false)))) hT256 (cw_s0 hB rfl) rfl rfl rfl
    obtain rfl := cw_gu (i := 33) hB g267 (by decide) (by decide) (by decide)
    refine cw_g (i := 30) (v := .ref (52 + 33)) htb.1 aj_d42 rfl rfl (by decide) f267 ?_
    refine cw_n aj_d42 rfl rfl ?_
    refine cw_g (i := 30) (v := .int n) htb.1 aj_d42 rfl rfl (by decide) f260 ?_
    refine cw_n aj_d42 rfl rfl ?_
    obtain ⟨n268, z268, a268, p268l, p268r, p268⟩ := cw_tyA (i := 33) (t := 81) (kd := 0) (n1 := 2500) (n2 := 2500) (y := (.inl ((-2147483648), 2147483647))) hT256 (cw_s0 hB rfl) rfl
    obtain rfl : n268 = 2500 := Nat.le_antisymm p268r p268l
    obtain ⟨fn268, rfl, p268c⟩ := cw_xi p268
    refine cw_st (i := 33) htb aj_d42 (Or.inl ⟨rfl, rfl⟩) rfl a268 hT256 (cw_s0 hB rfl) rfl (by decide) (a := n.toInt) rfl (by omega) (by omega) (cw_full _) (fun hT269 => ?_)
    have f270 : cw_F (cw_sa (cw_sa (cw_sa h 31 (.inl (upd f (n.toInt).toNat (aj_nar 0 x)))) 32 (.inl (upd fn255 (n.toInt).toNat (aj_nar 0 y)))) 33 (.inl (upd fn268 (n.toInt).toNat (aj_nar 0 l)))) 35 3 5 (.int x5) := cw_sa_F f257
    have f271 : cw_F (cw_sa (cw_sa (cw_sa h 31 (.inl (upd f (n.toInt).toNat (aj_nar 0 x)))) 32 (.inl (upd fn255 (n.toInt).toNat (aj_nar 0 y)))) 33 (.inl (upd fn268 (n.toInt).toNat (aj_nar 0 l)))) 35 3 6 (.int nx) := cw_sa_F f258
    have f272 : cw_F (cw_sa (cw_sa (cw_sa h 31 (.inl (upd f (n.toInt).toNat (aj_nar 0 x)))) 32 (.inl (upd fn255 (n.toInt).toNat (aj_nar 0 y)))) 33 (.inl (upd fn268 (n.toInt).toNat (aj_nar 0 l)))) 35 3 14 (.int o) := cw_sa_F f259
    have f273 : cw_F (cw_sa (cw_sa (cw_sa h 31 (.inl (upd f (n.toInt).toNat (aj_nar 0 x)))) 32 (.inl (upd fn255 (n.toInt).toNat (aj_nar 0 y)))) 33 (.inl (upd fn268 (n.toInt).toNat (aj_nar 0 l)))) 30 4 4 (.int n) := cw_sa_F f260
    have f274 : cw_F (cw_sa (cw_sa (cw_sa h 31 (.inl (upd f (n.toInt).toNat (aj_nar 0 x)))) 32 (.inl (upd fn255 (n.toInt).toNat (aj_nar 0 y)))) 33 (.inl (upd fn268 (n.toInt).toNat (aj_nar 0 l)))) 30 4 5 (.int 0) := cw_sa_F f261
    have f275 : cw_F (cw_sa (cw_sa (cw_sa h 31 (.inl (upd f (n.toInt).toNat (aj_nar 0 x)))) 32 (.inl (upd fn255 (n.toInt).toNat (aj_nar 0 y)))) 33 (.inl (upd fn268 (n.toInt).toNat (aj_nar 0 l)))) 30 4 0 (.ref (52 + 31)) := cw_sa_F f262
    have f276 : cw_F (cw_sa (cw_sa (cw_sa h 31 (.inl (upd f (n.toInt).toNat (aj_nar 0 x)))) 32 (.inl (upd fn255 (n.toInt).toNat (aj_nar 0 y)))) 33 (.inl (upd fn268 (n.toInt).toNat (aj_nar 0 l)))) 30 4 1 (.ref (52 + 32)) := cw_sa_F f263
    have f277 : cw_F (cw_sa (cw_sa (cw_sa h 31 (.inl (upd f (n.toInt).toNat (aj_nar 0 x)))) 32 (.inl (upd fn255 (n.toInt).toNat (aj_nar 0 y)))) 33 (.inl (upd fn268 (n.toInt).toNat (aj_nar 0 l)))) 30 4 2 (.ref (52 + 33)) := cw_sa_F f267
    have a278 : cw_A (cw_sa (cw_sa (cw_sa h 31 (.inl (upd f (n.toInt).toNat (aj_nar 0 x)))) 32 (.inl (upd fn255 (n.toInt).toNat (aj_nar 0 y)))) 33 (.inl (upd fn268 (n.toInt).toNat (aj_nar 0 l)))) 36 0 512 (.inl g) := cw_sa_ne a264 (by decide)
    have a279 : cw_A (cw_sa (cw_sa (cw_sa h 31 (.inl (upd f (n.toInt).toNat (aj_nar 0 x)))) 32 (.inl (upd fn255 (n.toInt).toNat (aj_nar 0 y)))) 33 (.inl (upd fn268 (n.toInt).toNat (aj_nar 0 l)))) 31 0 2500 (.inl (upd f (n.toInt).toNat (aj_nar 0 x))) := cw_sa_ne a265 (by decide)
    have a280 : cw_A (cw_sa (cw_sa (cw_sa h 31 (.inl (upd f (n.toInt).toNat (aj_nar 0 x)))) 32 (.inl (upd fn255 (n.toInt).toNat (aj_nar 0 y)))) 33 (.inl (upd fn268 (n.toInt).toNat (aj_nar 0 l)))) 32 0 2500 (.inl (upd fn255 (n.toInt).toNat (aj_nar 0 y))) := cw_sa_ne a266 (by decide)
    have a281 : cw_A (cw_sa (cw_sa (cw_sa h 31 (.inl (upd f (n.toInt).toNat (aj_nar 0 x)))) 32 (.inl (upd fn255 (n.toInt).toNat (aj_nar 0 y)))) 33 (.inl (upd fn268 (n.toInt).toNat (aj_nar 0 l)))) 33 0 2500 (.inl (upd fn268 (n.toInt).toNat (aj_nar 0 l))) := cw_sa_same a268
    refine cw_n aj_d42 rfl rfl ?_
    obtain ⟨v282, f282, g282⟩ := cw_tyF (i := 30) (t := 56) (c := 4) (k := 3) (y := (.inr (some ([82], false)))) hT269 (cw_s0 hB rfl) rfl rfl rfl
    obtain rfl := cw_gu (i := 34) hB g282 (by decide) (by decide) (by decide)
    refine cw_g (i := 30) (v := .ref (52 + 34)) htb.1 aj_d42 rfl rfl (by decide) f282 ?_
    refine cw_n aj_d42 rfl rfl ?_
    refine cw_g (i := 30) (v := .int n) htb.1 aj_d42 rfl rfl (by decide) f273 ?_
    refine cw_n aj_d42 rfl rfl ?_
    obtain ⟨n283, z283, a283, p283l, p283r, p283⟩ := cw_tyA (i := 34) (t := 82) (kd := 0) (n1 := 2500) (n2 := 2500) (y := (.inl ((-2147483648), 2147483647))) hT269 (cw_s0 hB rfl) rfl
    obtain rfl : n283 = 2500 := Nat.le_antisymm p283r p283l
    obtain ⟨fn283, rfl, p283c⟩ := cw_xi p283
    refine cw_st (i := 34) htb aj_d42 (Or.inl ⟨rfl, rfl⟩) rfl a283 hT269 (cw_s0 hB rfl) rfl (by decide) (a := n.toInt) rfl (by omega) (by omega) (cw_full _) (fun hT284 => ?_)
    have f285 : cw_F (cw_sa (cw_sa (cw_sa (cw_sa h 31 (.inl (upd f (n.toInt).toNat (aj_nar 0 x)))) 32 (.inl (upd fn255 (n.toInt).toNat (aj_nar 0 y)))) 33 (.inl (upd fn268 (n.toInt).toNat (aj_nar 0 l)))) 34 (.inl (upd fn283 (n.toInt).toNat (aj_nar 0 z)))) 35 3 5 (.int x5) := cw_sa_F f270
    have f286 : cw_F (cw_sa (cw_sa (cw_sa (cw_sa h 31 (.inl (upd f (n.toInt).toNat (aj_nar 0 x)))) 32 (.inl (upd fn255 (n.toInt).toNat (aj_nar 0 y)))) 33 (.inl (upd fn268 (n.toInt).toNat (aj_nar 0 l)))) 34 (.inl (upd fn283 (n.toInt).toNat (aj_nar 0 z)))) 35 3 6 (.int nx) := cw_sa_F f271
    have f287 : cw_F (cw_sa (cw_sa (cw_sa (cw_sa h 31 (.inl (upd f (n.toInt).toNat (aj_nar 0 x)))) 32 (.inl (upd fn255 (n.toInt).toNat (aj_nar 0 y)))) 33 (.inl (upd fn268 (n.toInt).toNat (aj_nar 0 l)))) 34 (.inl (upd fn283 (n.toInt).toNat (aj_nar 0 z)))) 35 3 14 (.int o) := cw_sa_F f272
    have f288 : cw_F (cw_sa (cw_sa (cw_sa (cw_sa h 31 (.inl (upd f (n.toInt).toNat (aj_nar 0 x)))) 32 (.inl (upd fn255 (n.toInt).toNat (aj_nar 0 y)))) 33 (.inl (upd fn268 (n.toInt).toNat (aj_nar 0 l)))) 34 (.inl (upd fn283 (n.toInt).toNat (aj_nar 0 z)))) 30 4 4 (.int n) := cw_sa_F f273
    have f289 : cw_F (cw_sa (cw_sa (cw_sa (cw_sa h 31 (.inl (upd f (n.toInt).toNat (aj_nar 0 x)))) 32 (.inl (upd fn255 (n.toInt).toNat (aj_nar 0 y)))) 33 (.inl (upd fn268 (n.toInt).toNat (aj_nar 0 l)))) 34 (.inl (upd fn283 (n.toInt).toNat (aj_nar 0 z)))) 30 4 5 (.int 0) := cw_sa_F f274
    have f290 : cw_F (cw_sa (cw_sa (cw_sa (cw_sa h 31 (.inl (upd f (n.toInt).toNat (aj_nar 0 x)))) 32 (.inl (upd fn255 (n.toInt).toNat (aj_nar 0 y)))) 33 (.inl (upd fn268 (n.toInt).toNat (aj_nar 0 l)))) 34 (.inl (upd fn283 (n.toInt).toNat (aj_nar 0 z)))) 30 4 0 (.ref (52 + 31)) := cw_sa_F f275
    have f291 : cw_F (cw_sa (cw_sa (cw_sa (cw_sa h 31 (.inl (upd f (n.toInt).toNat (aj_nar 0 x)))) 32 (.inl (upd fn255 (n.toInt).toNat (aj_nar 0 y)))) 33 (.inl (upd fn268 (n.toInt).toNat (aj_nar 0 l)))) 34 (.inl (upd fn283 (n.toInt).toNat (aj_nar 0 z)))) 30 4 1 (.ref (52 + 32)) := cw_sa_F f276
    have f292 : cw_F (cw_sa (cw_sa (cw_sa (cw_sa h 31 (.inl (upd f (n.toInt).toNat (aj_nar 0 x)))) 32 (.inl (upd fn255 (n.toInt).toNat (aj_nar 0 y)))) 33 (.inl (upd fn268 (n.toInt).toNat (aj_nar 0 l)))) 34 (.inl (upd fn283 (n.toInt).toNat (aj_nar 0 z)))) 30 4 2 (.ref (52 + 33)) := cw_sa_F f277
    have f293 : cw_F (cw_sa (cw_sa (cw_sa (cw_sa h 31 (.inl (upd f (n.toInt).toNat (aj_nar 0 x)))) 32 (.inl (upd fn255 (n.toInt).toNat (aj_nar 0 y)))) 33 (.inl (upd fn268 (n.toInt).toNat (aj_nar 0 l)))) 34 (.inl (upd fn283 (n.toInt).toNat (aj_nar 0 z)))) 30 4 3 (.ref (52 + 34)) := cw_sa_F f282
    have a294 : cw_A (cw_sa (cw_sa (cw_sa (cw_sa h 31 (.inl (upd f (n.toInt).toNat (aj_nar 0 x)))) 32 (.inl (upd fn255 (n.toInt).toNat (aj_nar 0 y)))) 33 (.inl (upd fn268 (n.toInt).toNat (aj_nar 0 l)))) 34 (.inl (upd fn283 (n.toInt).toNat (aj_nar 0 z)))) 36 0 512 (.inl g) := cw_sa_ne a278 (by decide)
    have a295 : cw_A (cw_sa (cw_sa (cw_sa (cw_sa h 31 (.inl (upd f (n.toInt).toNat (aj_nar 0 x)))) 32 (.inl (upd fn255 (n.toInt).toNat (aj_nar 0 y)))) 33 (.inl (upd fn268 (n.toInt).toNat (aj_nar 0 l)))) 34 (.inl (upd fn283 (n.toInt).toNat (aj_nar 0 z)))) 31 0 2500 (.inl (upd f (n.toInt).toNat (aj_nar 0 x))) := cw_sa_ne a279 (by decide)
    have a296 : cw_A (cw_sa (cw_sa (cw_sa (cw_sa h 31 (.inl (upd f (n.toInt).toNat (aj_nar 0 x)))) 32 (.inl (upd fn255 (n.toInt).toNat (aj_nar 0 y)))) 33 (.inl (upd fn268 (n.toInt).toNat (aj_nar 0 l)))) 34 (.inl (upd fn283 (n.toInt).toNat (aj_nar 0 z)))) 32 0 2500 (.inl (upd fn255 (n.toInt).toNat (aj_nar 0 y))) := cw_sa_ne a280 (by decide)
    have a297 : cw_A (cw_sa (cw_sa (cw_sa (cw_sa h 31 (.inl (upd f (n.toInt).toNat (aj_nar 0 x)))) 32 (.inl (upd fn255 (n.toInt).toNat (aj_nar 0 y)))) 33 (.inl (upd fn268 (n.toInt).toNat (aj_nar 0 l)))) 34 (.inl (upd fn283 (n.toInt).toNat (aj_nar 0 z)))) 33 0 2500 (.inl (upd fn268 (n.toInt).toNat (aj_nar 0 l))) := cw_sa_ne a281 (by decide)
    have a298 : cw_A (cw_sa (cw_sa (cw_sa (cw_sa h 31 (.inl (upd f (n.toInt).toNat (aj_nar 0 x)))) 32 (.inl (upd fn255 (n.toInt).toNat (aj_nar 0 y)))) 33 (.inl (upd fn268 (n.toInt).toNat (aj_nar 0 l)))) 34 (.inl (upd fn283 (n.toInt).toNat (aj_nar 0 z)))) 34 0 2500 (.inl (upd fn283 (n.toInt).toNat (aj_nar 0 z))) := cw_sa_same a283
    refine cw_n aj_d42 rfl rfl ?_
    refine cw_n aj_d42 rfl rfl ?_
    refine cw_g (i := 30) (v := .int n) htb.1 aj_d42 rfl rfl (by decide) f288 ?_
    refine cw_n aj_d42 rfl rfl ?_
    refine cw_add aj_d42 rfl (a := n.toInt) (b := (1 : Int)) rfl rfl (by omega) (by omega) (fun x299 ex299 => ?_)
    refine cw_p (i := 30) (t := 56) (c := 4) (k := 4) (v := .int x299) (y := (.inl (0, 2500))) htb aj_d42 rfl rfl hT284 (cw_s0 hB rfl) rfl rfl rfl (cw_gw (a := x299.toInt) rfl (by omega) (by omega)) (by decide) rfl rfl (fun hT300 => ?_)
    have f301 : cw_F (cw_sf (cw_sa (cw_sa (cw_sa (cw_sa h 31 (.inl (upd f (n.toInt).toNat (aj_nar 0 x)))) 32 (.inl (upd fn255 (n.toInt).toNat (aj_nar 0 y)))) 33 (.inl (upd fn268 (n.toInt).toNat (aj_nar 0 l)))) 34 (.inl (upd fn283 (n.toInt).toNat (aj_nar 0 z)))) 30 4 (.int x299)) 35 3 5 (.int x5) := cw_sf_ne f285 (Or.inr (by decide))
    have f302 : cw_F (cw_sf (cw_sa (cw_sa (cw_sa (cw_sa h 31 (.inl (upd f (n.toInt).toNat (aj_nar 0 x)))) 32 (.inl (upd fn255 (n.toInt).toNat (aj_nar 0 y)))) 33 (.inl (upd fn268 (n.toInt).toNat (aj_nar 0 l)))) 34 (.inl (upd fn283 (n.toInt).toNat (aj_nar 0 z)))) 30 4 (.int x299)) 35 3 6 (.int nx) := cw_sf_ne f286 (Or.inr (by decide))
    have f303 : cw_F (cw_sf (cw_sa (cw_sa (cw_sa (cw_sa h 31 (.inl (upd f (n.toInt).toNat (aj_nar 0 x)))) 32 (.inl (upd fn255 (n.toInt).toNat (aj_nar 0 y)))) 33 (.inl (upd fn268 (n.toInt).toNat (aj_nar 0 l)))) 34 (.inl (upd fn283 (n.toInt).toNat (aj_nar 0 z)))) 30 4 (.int x299)) 35 3 14 (.int o) := cw_sf_ne f287 (Or.inr (by decide))
    have f304 : cw_F (cw_sf (cw_sa (cw_sa (cw_sa (cw_sa h 31 (.inl (upd f (n.toInt).toNat (aj_nar 0 x)))) 32 (.inl (upd fn255 (n.toInt).toNat (aj_nar 0 y)))) 33 (.inl (upd fn268 (n.toInt).toNat (aj_nar 0 l)))) 34 (.inl (upd fn283 (n.toInt).toNat (aj_nar 0 z)))) 30 4 (.int x299)) 30 4 5 (.int 0) := cw_sf_ne f289 (Or.inr (by decide))
    have f305 : cw_F (cw_sf (cw_sa (cw_sa (cw_sa (cw_sa h 31 (.inl (upd f (n.toInt).toNat (aj_nar 0 x)))) 32 (.inl (upd fn255 (n.toInt).toNat (aj_nar 0 y)))) 33 (.inl (upd fn268 (n.toInt).toNat (aj_nar 0 l)))) 34 (.inl (upd fn283 (n.toInt).toNat (aj_nar 0 z)))) 30 4 (.int x299)) 30 4 0 (.ref (52 + 31)) := cw_sf_ne f290 (Or.inr (by decide))
    have f306 : cw_F (cw_sf (cw_sa (cw_sa (cw_sa (cw_sa h 31 (.inl (upd f (n.toInt).toNat (aj_nar 0 x)))) 32 (.inl (upd fn255 (n.toInt).toNat (aj_nar 0 y)))) 33 (.inl (upd fn268 (n.toInt).toNat (aj_nar 0 l)))) 34 (.inl (upd fn283 (n.toInt).toNat (aj_nar 0 z)))) 30 4 (.int x299)) 30 4 1 (.ref (52 + 32)) := cw_sf_ne f291 (Or.inr (by decide))
    have f307 : cw_F (cw_sf (cw_sa (cw_sa (cw_sa (cw_sa h 31 (.inl (upd f (n.toInt).toNat (aj_nar 0 x)))) 32 (.inl (upd fn255 (n.toInt).toNat (aj_nar 0 y)))) 33 (.inl (upd fn268 (n.toInt).toNat (aj_nar 0 l)))) 34 (.inl (upd fn283 (n.toInt).toNat (aj_nar 0 z)))) 30 4 (.int x299)) 30 4 2 (.ref (52 + 33)) := cw_sf_ne f292 (Or.inr (by decide))
    have f308 : cw_F (cw_sf (cw_sa (cw_sa (cw_sa (cw_sa h 31 (.inl (upd f (n.toInt).toNat (aj_nar 0 x)))) 32 (.inl (upd fn255 (n.toInt).toNat (aj_nar 0 y)))) 33 (.inl (upd fn268 (n.toInt).toNat (aj_nar 0 l)))) 34 (.inl (upd fn283 (n.toInt).toNat (aj_nar 0 z)))) 30 4 (.int x299)) 30 4 3 (.ref (52 + 34)) := cw_sf_ne f293 (Or.inr (by decide))
    have a309 : cw_A (cw_sf (cw_sa (cw_sa (cw_sa (cw_sa h 31 (.inl (upd f (n.toInt).toNat (aj_nar 0 x)))) 32 (.inl (upd fn255 (n.toInt).toNat (aj_nar 0 y)))) 33 (.inl (upd fn268 (n.toInt).toNat (aj_nar 0 l)))) 34 (.inl (upd fn283 (n.toInt).toNat (aj_nar 0 z)))) 30 4 (.int x299)) 36 0 512 (.inl g) := cw_sf_A a294
    have a310 : cw_A (cw_sf (cw_sa (cw_sa (cw_sa (cw_sa h 31 (.inl (upd f (n.toInt).toNat (aj_nar 0 x)))) 32 (.inl (upd fn255 (n.toInt).toNat (aj_nar 0 y)))) 33 (.inl (upd fn268 (n.toInt).toNat (aj_nar 0 l)))) 34 (.inl (upd fn283 (n.toInt).toNat (aj_nar 0 z)))) 30 4 (.int x299)) 31 0 2500 (.inl (upd f (n.toInt).toNat (aj_nar 0 x))) := cw_sf_A a295
    have a311 : cw_A (cw_sf (cw_sa (cw_sa (cw_sa (cw_sa h 31 (.inl (upd f (n.toInt).toNat (aj_nar 0 x)))) 32 (.inl (upd fn255 (n.toInt).toNat (aj_nar 0 y)))) 33 (.inl (upd fn268 (n.toInt).toNat (aj_nar 0 l)))) 34 (.inl (upd fn283 (n.toInt).toNat (aj_nar 0 z)))) 30 4 (.int x299)) 32 0 2500 (.inl (upd fn255 (n.toInt).toNat (aj_nar 0 y))) := cw_sf_A a296
    have a312 : cw_A (cw_sf (cw_sa (cw_sa (cw_sa (cw_sa h 31 (.inl (upd f (n.toInt).toNat (aj_nar 0 x)))) 32 (.inl (upd fn255 (n.toInt).toNat (aj_nar 0 y)))) 33 (.inl (upd fn268 (n.toInt).toNat (aj_nar 0 l)))) 34 (.inl (upd fn283 (n.toInt).toNat (aj_nar 0 z)))) 30 4 (.int x299)) 33 0 2500 (.inl (upd fn268 (n.toInt).toNat (aj_nar 0 l))) := cw_sf_A a297
    have a313 : cw_A (cw_sf (cw_sa (cw_sa (cw_sa (cw_sa h 31 (.inl (upd f (n.toInt).toNat (aj_nar 0 x)))) 32 (.inl (upd fn255 (n.toInt).toNat (aj_nar 0 y)))) 33 (.inl (upd fn268 (n.toInt).toNat (aj_nar 0 l)))) 34 (.inl (upd fn283 (n.toInt).toNat (aj_nar 0 z)))) 30 4 (.int x299)) 34 0 2500 (.inl (upd fn283 (n.toInt).toNat (aj_nar 0 z))) := cw_sf_A a298
    have f314 : cw_F (cw_sf (cw_sa (cw_sa (cw_sa (cw_sa h 31 (.inl (upd f (n.toInt).toNat (aj_nar 0 x)))) 32 (.inl (upd fn255 (n.toInt).toNat (aj_nar 0 y)))) 33 (.inl (upd fn268 (n.toInt).toNat (aj_nar 0 l)))) 34 (.inl (upd fn283 (n.toInt).toNat (aj_nar 0 z)))) 30 4 (.int x299)) 30 4 4 (.int x299) := cw_sf_same f288
    refine cw_Wr aj_d42 rfl rfl hT300 ?_ ?_
    · exact ⟨rfl, (cw_ex_tr (cw_ex_tr (cw_ex_tr (cw_ex_tr (cw_ex_tr cw_ex_rf (cw_ex_sa (by decide))) (cw_ex_sa (by decide))) (cw_ex_sa (by decide))) (cw_ex_sa (by decide))) (cw_ex_sf (by decide))), _, by omega, ⟨⟨_, _, f301, l5, a309, lo⟩, f302, f303, f314, f304, a310⟩⟩
    · trivial
/-- an arg is set -/
def cw_sta (x y : Int32) (h h' : aj_H) : Prop := cw_ex [34] (cw_o h) (cw_o h') ∧ (∀ j c k v, cw_F h j c k v → cw_F h' j c k v) ∧ ∃ g g' : Nat → Int32, cw_A h 34 0 2500 (.inl g) ∧ cw_A h' 34 0 2500 (.inl g') ∧ (∀ j : Nat, (j : Int) ≠ x.toInt → g' j = g j) ∧ (0 ≤ x.toInt → x.toInt < 2500 → g' x.toInt.toNat = y)
theorem cw_sta_PV {x y : Int32} (h0 : cw_sta x y h h') (hP : cw_PV h σ nx o n f) : cw_PV h' σ nx o n f := by
  obtain ⟨⟨x5, g, f5, l5, a36, lo⟩, f6, f14, f4, fp, a31⟩ := hP
  obtain ⟨e, q, -⟩ := h0
  exact ⟨⟨x5, g, q _ _ _ _ f5, l5, (cw_oa_A (by decide)).mp ((e 36 (by decide)).2.trans ((cw_oa_A (by decide)).mpr a36)), lo⟩, q _ _ _ _ f6, q _ _ _ _ f14, q _ _ _ _ f4, q _ _ _ _ fp, (cw_oa_A (by decide)).mp ((e 31 (by decide)).2.trans ((cw_oa_A (by decide)).mpr a31))⟩
theorem cw_setA0 (htb : ak_tbOK ak_C0 tb) (hT : ak_Ty ak_C0 s h) (hB : cw_B s) (hd : 1 ≤ d) (x y : Int32) : cw_K ak_C0 (fun s' r h' => s' = s ∧ cw_sta x y h h') tb d ap_c41 [.ref (52 + 30), .int x, .int y] s h := by
  obtain ⟨d, rfl⟩ : ∃ e, d = e + 1 := ⟨d - 1, by omega⟩
  obtain ⟨n34, z34, a34, m1, m2, p34⟩ := cw_tyA (i := 34) (t := 82) (kd := 0) (n1 := 2500) (n2 := 2500) (y := .inl (-2147483648, 2147483647)) hT (cw_s0 hB rfl) rfl
  obtain rfl : n34 = 2500 := Nat.le_antisymm m2 m1
  obtain ⟨g, rfl, -⟩ := cw_xi p34
  refine cw_m (con := ap_c41) aj_m41_at (Nat.le_of_ble_eq_true rfl) ?_
  show cw_W _ _ _ _ _ _ _ _ _ _ 0 [(0, .ref (52 + 30)), (1, .int x), (2, .int y)] []
  refine cw_n aj_d41 rfl rfl ?_
  refine cw_z (tgt := 20) aj_d41 rfl rfl (fun q315 => ?_) (fun q315 => ?_)
  · have q315 : x.toInt < (0 : Int) := aw_t_lt (a := x.toInt) (b := (0 : Int)) rfl rfl q315
    refine cw_Wr aj_d41 rfl rfl hT ?_ ?_
    · exact ⟨rfl, cw_ex_rf, fun _ _ _ _ z => z, g, g, a34, a34, fun _ _ => rfl, fun _ _ => by omega⟩
    · trivial
  · have q315 : x.toInt ≥ (0 : Int) := aw_t_lt (a := x.toInt) (b := (0 : Int)) rfl rfl q315
    refine cw_n aj_d41 rfl rfl ?_
    refine cw_n aj_d41 rfl rfl ?_
    obtain ⟨v316, f316, g316⟩ := cw_tyF (i := 30) (t := 56) (c := 4) (k := 3) (y := (.inr (some ([82], false)))) hT (cw_s0 hB rfl) rfl rfl rfl
    obtain rfl := cw_gu (i := 34) hB g316 (by decide) (by decide) (by decide)
    refine cw_g (i := 30) (v := .ref (52 + 34)) htb.1 aj_d41 rfl rfl (by decide) f316 ?_
    refine cw_alen (i := 34) htb.1 aj_d41 rfl a34 (by decide) (by omega) (fun x317 ex317 => ?_)
    refine cw_c (tgt := 20) aj_d41 rfl rfl (fun q318 => ?_) (fun q318 => ?_)
    · have q318 : x.toInt ≥ (2500 : Int) := aw_t_ge (a := x.toInt) (b := (2500 : Int)) rfl ex317 q318
      refine cw_Wr aj_d41 rfl rfl hT ?_ ?_
      · exact ⟨rfl, cw_ex_rf, fun _ _ _ _ z => z, g, g, a34, a34, fun _ _ => rfl, fun _ _ => by omega⟩
      · trivial
    · have q318 : x.toInt < (2500 : Int) := aw_t_ge (a := x.toInt) (b := (2500 : Int)) rfl ex317 q318
      refine cw_n aj_d41 rfl rfl ?_
      refine cw_g (i := 30) (v := .ref (52 + 34)) htb.1 aj_d41 rfl rfl (by decide) f316 ?_
      refine cw_n aj_d41 rfl rfl ?_
      refine cw_n aj_d41 rfl rfl ?_
      refine cw_st (i := 34) htb aj_d41 (Or.inl ⟨rfl, rfl⟩) rfl a34 hT (cw_s0 hB rfl) rfl (by decide) (a := x.toInt) rfl (by omega) (by omega) (cw_full _) (fun hT319 => ?_)
      have f320 : cw_F (cw_sa h 34 (.inl (upd g (x.toInt).toNat (aj_nar 0 y)))) 30 4 3 (.ref (52 + 34)) := cw_sa_F f316
      have a321 : cw_A (cw_sa h 34 (.inl (upd g (x.toInt).toNat (aj_nar 0 y)))) 34 0 2500 (.inl (upd g (x.toInt).toNat (aj_nar 0 y))) := cw_sa_same a34
      refine cw_Wr aj_d41 rfl rfl hT319 ?_ ?_
      · refine ⟨rfl, cw_ex_sa (by decide), fun _ _ _ _ z => cw_sa_F z, g, _, a34, a321, fun j hj => ?_, fun _ _ => ?_⟩
        · unfold upd
          rw [if_neg (by omega)]
        · unfold upd
          rw [if_pos rfl]
          rfl
      · trivial
theorem cw_setA1 (htb : ak_tbOK ak_C1 tb) (hT : ak_Ty ak_C1 s h) (hB : cw_B s) (hd : 1 ≤ d) (x y : Int32) : cw_K ak_C1 (fun s' r h' => s' = s ∧ cw_sta x y h h') tb d ap_c41 [.ref (52 + 30), .int x, .int y] s h := by
  obtain ⟨d, rfl⟩ : ∃ e, d = e + 1 := ⟨d - 1, by omega⟩
  obtain ⟨n34, z34, a34, m1, m2, p34⟩ := cw_tyA (i := 34) (t := 82) (kd := 0) (n1 := 2500) (n2 := 2500) (y := .inl (-2147483648, 2147483647)) hT (cw_s0 hB rfl) rfl
  obtain rfl : n34 = 2500 := Nat.le_antisymm m2 m1
  obtain ⟨g, rfl, -⟩ := cw_xi p34
  refine cw_m (con := ap_c41) aj_m41_at (Nat.le_of_ble_eq_true rfl) ?_
  show cw_W _ _ _ _ _ _ _ _ _ _ 0 [(0, .ref (52 + 30)), (1, .int x), (2, .int y)] []
  refine cw_n aj_d41 rfl rfl ?_
  refine cw_z (tgt := 20) aj_d41 rfl rfl (fun q322 => ?_) (fun q322 => ?_)
  · have q322 : x.toInt < (0 : Int) := aw_t_lt (a := x.toInt) (b := (0 : Int)) rfl rfl q322
    refine cw_Wr aj_d41 rfl rfl hT ?_ ?_
    · exact ⟨rfl, cw_ex_rf, fun _ _ _ _ z => z, g, g, a34, a34, fun _ _ => rfl, fun _ _ => by omega⟩
    · trivial
  · have q322 : x.toInt ≥ (0 : Int) := aw_t_lt (a := x.toInt) (b := (0 : Int)) rfl rfl q322
    refine cw_n aj_d41 rfl rfl ?_
    refine cw_n aj_d41 rfl rfl ?_
    obtain ⟨v323, f323, g323⟩ := cw_tyF (i := 30) (t := 56) (c := 4) (k := 3) (y := (.inr (some ([82], false)))) hT (cw_s0 hB rfl) rfl rfl rfl
    obtain rfl := cw_gu (i := 34) hB g323 (by decide) (by decide) (by decide)
    refine cw_g (i := 30) (v := .ref (52 + 34)) htb.1 aj_d41 rfl rfl (by decide) f323 ?_
    refine cw_alen (i := 34) htb.1 aj_d41 rfl a34 (by decide) (by omega) (fun x324 ex324 => ?_)
    refine cw_c (tgt := 20) aj_d41 rfl rfl (fun q325 => ?_) (fun q325 => ?_)
    · have q325 : x.toInt ≥ (2500 : Int) := aw_t_ge (a := x.toInt) (b := (2500 : Int)) rfl ex324 q325
      refine cw_Wr aj_d41 rfl rfl hT ?_ ?_
      · exact ⟨rfl, cw_ex_rf, fun _ _ _ _ z => z, g, g, a34, a34, fun _ _ => rfl, fun _ _ => by omega⟩
      · trivial
    · have q325 : x.toInt < (2500 : Int) := aw_t_ge (a := x.toInt) (b := (2500 : Int)) rfl ex324 q325
      refine cw_n aj_d41 rfl rfl ?_
      refine cw_g (i := 30) (v := .ref (52 + 34)) htb.1 aj_d41 rfl rfl (by decide) f323 ?_
      refine cw_n aj_d41 rfl rfl ?_
      refine cw_n aj_d41 rfl rfl ?_
      refine cw_st (i := 34) htb aj_d41 (Or.inl ⟨rfl, rfl⟩) rfl a34 hT (cw_s0 hB rfl) rfl (by decide) (a := x.toInt) rfl (by omega) (by omega) (cw_full _) (fun hT326 => ?_)
      have f327 : cw_F (cw_sa h 34 (.inl (upd g (x.toInt).toNat (aj_nar 0 y)))) 30 4 3 (.ref (52 + 34)) := cw_sa_F f323
      have a328 : cw_A (cw_sa h 34 (.inl (upd g (x.toInt).toNat (aj_nar 0 y)))) 34 0 2500 (.inl (upd g (x.toInt).toNat (aj_nar 0 y))) := cw_sa_same a34
      refine cw_Wr aj_d41 rfl rfl hT326 ?_ ?_
      · refine ⟨rfl, cw_ex_sa (by decide), fun _ _ _ _ z => cw_sa_F z, g, _, a34, a328, fun j hj => ?_, fun _ _ => ?_⟩
        · unfold upd
          rw [if_neg (by omega)]
        · unfold upd
          rw [if_pos rfl]
          rfl
      · trivial
theorem cw_keep0 (htb : ak_tbOK ak_C0 tb) (hT : ak_Ty ak_C0 s h) (hB : cw_B s) (hd : 3 ≤ d) {x : Int32} (hx : x.toInt = 170 ∨ x.toInt = 171 ∨ x.toInt = 172) (l : Int32) (hP : cw_PV h σ nx o n f)  : cw_K ak_C0 (fun s' r h' => s' = s ∧ cw_ex cw_EP (cw_o h) (cw_o h') ∧ (cw_PV h' σ nx o n f)) tb d (cw_nP 39 none) [.ref (52 + 35), .int x, .int l] s h := by
  obtain ⟨d, rfl⟩ : ∃ e, d = e + 1 := ⟨d - 1, by omega⟩
  have hP' := hP
  obtain ⟨⟨x5, g, f5, l5, a36, lo⟩, f6, f14, f4, fp, a31⟩ := hP'
  refine cw_m (con := (cw_nP 39 none)) aj_m39_at (Nat.le_of_ble_eq_true rfl) ?_
  show cw_W _ _ _ _ _ _ _ _ _ _ 0 [(0, .ref (52 + 35)), (1, .int x), (2, .int l)] []
  refine cw_n aj_d39 rfl rfl ?_
  rcases hx with q | q | q
  · refine cw_lsw (tgt := 52) (a := 170) aj_d39 rfl q rfl rfl rfl ?_
    refine cw_Wr aj_d39 rfl rfl hT ?_ ?_
    · exact ⟨rfl, cw_ex_rf, hP⟩
    · trivial
  · refine cw_lsw (tgt := 52) (a := 171) aj_d39 rfl q rfl rfl rfl ?_
    refine cw_Wr aj_d39 rfl rfl hT ?_ ?_
    · exact ⟨rfl, cw_ex_rf, hP⟩
    · trivial
  · refine cw_lsw (tgt := 52) (a := 172) aj_d39 rfl q rfl rfl rfl ?_
    refine cw_Wr aj_d39 rfl rfl hT ?_ ?_
    · exact ⟨rfl, cw_ex_rf, hP⟩
    · trivial
theorem cw_ls39 {x : Int} (h1 : 173 ≤ x) (h2 : x ≠ 186 ∧ x ≠ 187) : Op.lookupswitch.offset [(170, 51), (171, 51), (172, 51), (186, 52), (187, 66)] 93 x = 93 := by
  rw [Op.lookupswitch.offset_cons, if_neg (by omega), Op.lookupswitch.offset_cons, if_neg (by omega), Op.lookupswitch.offset_cons, if_neg (by omega), Op.lookupswitch.offset_cons, if_neg (by omega), Op.lookupswitch.offset_cons, if_neg (by omega)]
  rfl
theorem cw_keep1 (htb : ak_tbOK ak_C0 tb) (hT : ak_Ty ak_C0 s h) (hB : cw_B s) (hd : 3 ≤ d) {x : Int32} (hx : 173 ≤ x.toInt) (l : Int32) (hn : 0 ≤ n.toInt ∧ n.toInt < 2500) (hP : cw_PV h σ nx o n f)  : cw_K ak_C0 (fun s' r h' => s' = s ∧ cw_ex cw_EP (cw_o h) (cw_o h') ∧ (∃ n' : Int32, n'.toInt = n.toInt + 1 ∧ cw_PV h' σ nx o n' (upd f n.toInt.toNat x))) tb d (cw_nP 39 none) [.ref (52 + 35), .int x, .int l] s h := by
  obtain ⟨d, rfl⟩ : ∃ e, d = e + 1 := ⟨d - 1, by omega⟩
  have hP' := hP
  obtain ⟨⟨x5, g, f5, l5, a36, lo⟩, f6, f14, f4, fp, a31⟩ := hP'
  refine cw_m (con := (cw_nP 39 none)) aj_m39_at (Nat.le_of_ble_eq_true rfl) ?_
  show cw_W _ _ _ _ _ _ _ _ _ _ 0 [(0, .ref (52 + 35)), (1, .int x), (2, .int l)] []
  refine cw_n aj_d39 rfl rfl ?_
  rcases (by omega : x.toInt = 186 ∨ x.toInt = 187 ∨ (x.toInt ≠ 186 ∧ x.toInt ≠ 187)) with q | q | q
  · refine cw_lsw (tgt := 53) (a := 186) aj_d39 rfl q rfl rfl rfl ?_
    refine cw_n aj_d39 rfl rfl ?_
    refine cw_n aj_d39 rfl rfl ?_
    obtain ⟨v329, f329, g329⟩ := cw_tyF (i := 35) (t := 55) (c := 3) (k := 1) (y := (.inr (some ([56], false)))) hT (cw_s0 hB rfl) rfl rfl rfl
    obtain rfl := cw_gu (i := 30) hB g329 (by decide) (by decide) (by decide)
    refine cw_g (i := 35) (v := .ref (52 + 30)) htb.1 aj_d39 rfl rfl (by decide) f329 ?_
    refine cw_g (i := 30) (v := .int n) htb.1 aj_d39 rfl rfl (by decide) f4 ?_
    refine cw_p (i := 35) (t := 55) (c := 3) (k := 15) (v := .int n) (y := (.inl ((-2147483648), 2147483647))) htb aj_d39 rfl rfl hT (cw_s0 hB rfl) rfl rfl rfl (cw_full _) (by decide) rfl rfl (fun hT330 => ?_)
    obtain ⟨v331, f331, g331⟩ := cw_tyF (i := 35) (t := 55) (c := 3) (k := 15) (y := (.inl ((-2147483648), 2147483647))) hT (cw_s0 hB rfl) rfl rfl rfl
    obtain ⟨x331, rfl, b331⟩ := ak_gi g331
    dsimp only [ak_win] at b331
    have f332 : cw_F (cw_sf h 35 15 (.int n)) 35 3 5 (.int x5) := cw_sf_ne f5 (Or.inr (by decide))
    have f333 : cw_F (cw_sf h 35 15 (.int n)) 35 3 6 (.int nx) := cw_sf_ne f6 (Or.inr (by decide))
    have f334 : cw_F (cw_sf h 35 15 (.int n)) 35 3 14 (.int o) := cw_sf_ne f14 (Or.inr (by decide))
    have f335 : cw_F (cw_sf h 35 15 (.int n)) 30 4 4 (.int n) := cw_sf_ne f4 (Or.inr (by decide))
    have f336 : cw_F (cw_sf h 35 15 (.int n)) 30 4 5 (.int 0) := cw_sf_ne fp (Or.inr (by decide))
    have f337 : cw_F (cw_sf h 35 15 (.int n)) 35 3 1 (.ref (52 + 30)) := cw_sf_ne f329 (Or.inr (by decide))
    have a338 : cw_A (cw_sf h 35 15 (.int n)) 36 0 512 (.inl g) := cw_sf_A a36
    have a339 : cw_A (cw_sf h 35 15 (.int n)) 31 0 2500 (.inl f) := cw_sf_A a31
    have f340 : cw_F (cw_sf h 35 15 (.int n)) 35 3 15 (.int n) := cw_sf_same f331
    refine cw_n aj_d39 rfl rfl ?_
    refine cw_n aj_d39 rfl rfl ?_
    refine cw_g (i := 35) (v := .ref (52 + 30)) htb.1 aj_d39 rfl rfl (by decide) f337 ?_
    refine cw_n aj_d39 rfl rfl ?_
    refine cw_n aj_d39 rfl rfl ?_
    obtain ⟨v341, f341, g341⟩ := cw_tyF (i := 35) (t := 55) (c := 3) (k := 7) (y := (.inl (0, 1000000))) hT330 (cw_s0 hB rfl) rfl rfl rfl
    obtain ⟨x341, rfl, b341⟩ := ak_gi g341
    dsimp only [ak_win] at b341
    refine cw_g (i := 35) (v := .int x341) htb.1 aj_d39 rfl rfl (by decide) f341 ?_
    refine cw_n aj_d39 rfl rfl ?_
    refine cw_n aj_d39 rfl rfl ?_
    refine cw_k0 (i := 30) (t := 56) (con' := (cw_nP 42 none)) aj_d39 htb hT330 rfl rfl [_, _, _, _] rfl rfl (cw_s0 hB rfl) rfl (Nat.le_of_ble_eq_true rfl) ⟨by decide, by decide⟩ (cw_padd htb hT330 hB (by omega) (x := x) (y := x341) (by omega) l (Int32.ofInt 0) hn ⟨⟨_, _, f332, l5, a338, lo⟩, f333, f334, f335, f336, a339⟩) ?_
    rintro ra ha hTa ⟨exa, na, ena, hPa⟩ hRa
    obtain rfl := cw_rN hRa
    show cw_W _ _ _ _ _ _ _ _ _ _ 108 [(0, .ref (52 + 35)), (1, .int x), (2, .int l)] []
    refine cw_Wr aj_d39 rfl rfl hTa ?_ ?_
    · exact ⟨rfl, (cw_ex_tr (cw_ex_tr cw_ex_rf (cw_ex_of (cw_o_sf f331 (by decide)))) exa), na, ena, hPa⟩
    · trivial
  · refine cw_lsw (tgt := 67) (a := 187) aj_d39 rfl q rfl rfl rfl ?_
    refine cw_n aj_d39 rfl rfl ?_
    obtain ⟨v342, f342, g342⟩ := cw_tyF (i := 35) (t := 55) (c := 3) (k := 1) (y := (.inr (some ([56], false)))) hT (cw_s0 hB rfl) rfl rfl rfl
    obtain rfl := cw_gu (i := 30) hB g342 (by decide) (by decide) (by decide)
    refine cw_g (i := 35) (v := .ref (52 + 30)) htb.1 aj_d39 rfl rfl (by decide) f342 ?_
    refine cw_n aj_d39 rfl rfl ?_
    obtain ⟨v343, f343, g343⟩ := cw_tyF (i := 35) (t := 55) (c := 3) (k := 15) (y := (.inl ((-2147483648), 2147483647))) hT (cw_s0 hB rfl) rfl rfl rfl
    obtain ⟨x343, rfl, b343⟩ := ak_gi g343
    dsimp only [ak_win] at b343
    refine cw_g (i := 35) (v := .int x343) htb.1 aj_d39 rfl rfl (by decide) f343 ?_
    refine cw_n aj_d39 rfl rfl ?_
    refine cw_g (i := 35) (v := .ref (52 + 30)) htb.1 aj_d39 rfl rfl (by decide) f342 ?_
    refine cw_n aj_d39 rfl rfl ?_
    refine cw_g (i := 35) (v := .int x343) htb.1 aj_d39 rfl rfl (by decide) f343 ?_
    refine cw_k (con' := ap_c40) aj_d39 htb hT rfl rfl [_] rfl rfl (cw_cls hT (cw_s0 hB rfl) rfl) (Nat.le_of_ble_eq_true rfl) ⟨by decide, by decide⟩ (cw_a1 (by omega) (cw_0_40 htb (cw_SP1c _ _ rfl rfl) cw_hK) hT hB rfl ⟨(cw_gR (cw_s0 hB rfl) (by decide) (by decide)), (cw_full _), trivial⟩) ?_
    rintro u344 ru344 h344 hT344 ⟨eu344, ho344⟩ hRu344 Eu344
    have eu344 := cw_u0 eu344
    subst eu344
    rw [List.append_nil] at hT344
    rw [List.append_nil]
    have hP345 := cw_PV_tr ho344 Eu344 (by decide) (show cw_PV _ _ _ _ _ _ from ⟨⟨_, _, f5, l5, a36, lo⟩, f6, f14, f4, fp, a31⟩)
    have hP345' := hP345
    obtain ⟨⟨x5hP345, ghP345, f5hP345, l5hP345, a36hP345, lohP345⟩, f6hP345, f14hP345, f4hP345, fphP345, a31hP345⟩ := hP345'
    obtain ⟨xu344, rfl, bu344⟩ := cw_rI hRu344
    show cw_W _ _ _ _ _ _ _ _ _ _ 86 [(0, .ref (52 + 35)), (1, .int x), (2, .int l)] [.int xu344, .int x343, .ref (52 + 30)]
    refine cw_n aj_d39 rfl rfl ?_
    refine cw_any aj_d39 rfl rfl (fun x346 ex346 => ?_)
    refine cw_k0 (i := 30) (t := 56) (con' := ap_c41) aj_d39 htb hT344 rfl rfl [_, _] rfl rfl (cw_s0 hB rfl) rfl (Nat.le_of_ble_eq_true rfl) ⟨by decide, by decide⟩ (cw_setA0 htb hT344 hB (by omega) x343 x346) ?_
    rintro ru347 h347 hT347 qu347 hRu347
    have hP348 := cw_sta_PV qu347 (show cw_PV _ _ _ _ _ _ from ⟨⟨_, _, f5hP345, l5hP345, a36hP345, lohP345⟩, f6hP345, f14hP345, f4hP345, fphP345, a31hP345⟩)
    have hP348' := hP348
    obtain ⟨⟨x5hP348, ghP348, f5hP348, l5hP348, a36hP348, lohP348⟩, f6hP348, f14hP348, f4hP348, fphP348, a31hP348⟩ := hP348'
    obtain rfl := cw_rN hRu347
    show cw_W _ _ _ _ _ _ _ _ _ _ 91 [(0, .ref (52 + 35)), (1, .int x), (2, .int l)] []
    refine cw_n aj_d39 rfl rfl ?_
    refine cw_n aj_d39 rfl rfl ?_
    obtain ⟨v349, f349, g349⟩ := cw_tyF (i := 35) (t := 55) (c := 3) (k := 1) (y := (.inr (some ([56], false)))) hT347 (cw_s0 hB rfl) rfl rfl rfl
    obtain rfl := cw_gu (i := 30) hB g349 (by decide) (by decide) (by decide)
    refine cw_g (i := 35) (v := .ref (52 + 30)) htb.1 aj_d39 rfl rfl (by decide) f349 ?_
    refine cw_n aj_d39 rfl rfl ?_
    refine cw_n aj_d39 rfl rfl ?_
    obtain ⟨v350, f350, g350⟩ := cw_tyF (i := 35) (t := 55) (c := 3) (k := 7) (y := (.inl (0, 1000000))) hT347 (cw_s0 hB rfl) rfl rfl rfl
    obtain ⟨x350, rfl, b350⟩ := ak_gi g350
    dsimp only [ak_win] at b350
    refine cw_g (i := 35) (v := .int x350) htb.1 aj_d39 rfl rfl (by decide) f350 ?_
    refine cw_n aj_d39 rfl rfl ?_
    refine cw_n aj_d39 rfl rfl ?_
    refine cw_k0 (i := 30) (t := 56) (con' := (cw_nP 42 none)) aj_d39 htb hT347 rfl rfl [_, _, _, _] rfl rfl (cw_s0 hB rfl) rfl (Nat.le_of_ble_eq_true rfl) ⟨by decide, by decide⟩ (cw_padd htb hT347 hB (by omega) (x := x) (y := x350) (by omega) l (Int32.ofInt 0) hn ⟨⟨_, _, f5hP348, l5hP348, a36hP348, lohP348⟩, f6hP348, f14hP348, f4hP348, fphP348, a31hP348⟩) ?_
    rintro ra ha hTa ⟨exa, na, ena, hPa⟩ hRa
    obtain rfl := cw_rN hRa
    show cw_W _ _ _ _ _ _ _ _ _ _ 108 [(0, .ref (52 + 35)), (1, .int x), (2, .int l)] []
    refine cw_Wr aj_d39 rfl rfl hTa ?_ ?_
    · exact ⟨rfl, (cw_ex_tr (cw_ex_tr (cw_ex_tr cw_ex_rf (cw_ex_of ho344)) (fun i hi => qu347.1 i (fun z => hi (by rw [List.mem_singleton.mp z]; decide)))) exa), na, ena, hPa⟩
    · trivial
  · refine cw_lsw (tgt := 94) (a := x.toInt) (off := 93) aj_d39 rfl rfl rfl (cw_ls39 (by omega) (by omega)) rfl ?_
    refine cw_n aj_d39 rfl rfl ?_
    obtain ⟨v351, f351, g351⟩ := cw_tyF (i := 35) (t := 55) (c := 3) (k := 1) (y := (.inr (some ([56], false)))) hT (cw_s0 hB rfl) rfl rfl rfl
    obtain rfl := cw_gu (i := 30) hB g351 (by decide) (by decide) (by decide)
    refine cw_g (i := 35) (v := .ref (52 + 30)) htb.1 aj_d39 rfl rfl (by decide) f351 ?_
    refine cw_n aj_d39 rfl rfl ?_
    refine cw_n aj_d39 rfl rfl ?_
    obtain ⟨v352, f352, g352⟩ := cw_tyF (i := 35) (t := 55) (c := 3) (k := 7) (y := (.inl (0, 1000000))) hT (cw_s0 hB rfl) rfl rfl rfl
    obtain ⟨x352, rfl, b352⟩ := ak_gi g352
    dsimp only [ak_win] at b352
    refine cw_g (i := 35) (v := .int x352) htb.1 aj_d39 rfl rfl (by decide) f352 ?_
    refine cw_n aj_d39 rfl rfl ?_
    refine cw_n aj_d39 rfl rfl ?_
    refine cw_k0 (i := 30) (t := 56) (con' := (cw_nP 42 none)) aj_d39 htb hT rfl rfl [_, _, _, _] rfl rfl (cw_s0 hB rfl) rfl (Nat.le_of_ble_eq_true rfl) ⟨by decide, by decide⟩ (cw_padd htb hT hB (by omega) (x := x) (y := x352) (by omega) l (Int32.ofInt 0) hn ⟨⟨_, _, f5, l5, a36, lo⟩, f6, f14, f4, fp, a31⟩) ?_
    rintro ra ha hTa ⟨exa, na, ena, hPa⟩ hRa
    obtain rfl := cw_rN hRa
    show cw_W _ _ _ _ _ _ _ _ _ _ 108 [(0, .ref (52 + 35)), (1, .int x), (2, .int l)] []
    refine cw_Wr aj_d39 rfl rfl hTa ?_ ?_
    · exact ⟨rfl, (cw_ex_tr cw_ex_rf exa), na, ena, hPa⟩
    · trivial
theorem cw_note (htb : ak_tbOK ak_C0 tb) (hT : ak_Ty ak_C0 s h) (hB : cw_B s) (hd : 4 ≤ d) {x : Int32} (hx : 170 ≤ x.toInt ∧ x.toInt ≤ 255) (l : Int32) (ho : 0 ≤ o.toInt ∧ o.toInt ≤ 8) (hn : 173 ≤ x.toInt → 0 ≤ n.toInt ∧ n.toInt < 2500) (hP : cw_PV h σ nx o n f)  : cw_K ak_C0 (fun s' r h' => s' = s ∧ cw_ex cw_EP (cw_o h) (cw_o h') ∧ (cw_bad h' ∨ ∃ (o' n' : Int32) (f' : Nat → Int32), cw_PV h' σ nx o' n' f' ∧ cw_rmo x.toInt o.toInt o'.toInt ∧ (x.toInt ≤ 172 → n' = n ∧ f' = f) ∧ (173 ≤ x.toInt → n'.toInt = n.toInt + 1 ∧ f' = upd f n.toInt.toNat x))) tb d (cw_nP 34 none) [.ref (52 + 35), .int x, .int l] s h := by
  obtain ⟨d, rfl⟩ : ∃ e, d = e + 1 := ⟨d - 1, by omega⟩
  have hP' := hP
  obtain ⟨⟨x5, g, f5, l5, a36, lo⟩, f6, f14, f4, fp, a31⟩ := hP'
  refine cw_m (con := (cw_nP 34 none)) aj_m34_at (Nat.le_of_ble_eq_true rfl) ?_
  show cw_W _ _ _ _ _ _ _ _ _ _ 0 [(0, .ref (52 + 35)), (1, .int x), (2, .int l)] []
  refine cw_n aj_d34 rfl rfl ?_
  refine cw_n aj_d34 rfl rfl ?_
  refine cw_k0 (i := 35) (t := 55) (con' := cw_nP 35 (some (.inl (0, 1)))) aj_d34 htb hT rfl rfl [_] rfl rfl (cw_s0 hB rfl) rfl (Nat.le_of_ble_eq_true rfl) ⟨by decide, by decide⟩ (cw_room htb hT hB (by omega) hx.1 ho hP) ?_
  rintro rr hr hTr ⟨exr, o', b, rfl, hPr, hor⟩ hRr
  obtain ⟨⟨x5r, gr, f5r, l5r, a36r, lor⟩, f6r, f14r, f4r, fpr, a31r⟩ := id hPr
  show cw_W _ _ _ _ _ _ _ _ _ _ 5 [(0, .ref (52 + 35)), (1, .int x), (2, .int l)] [.int b]
  refine cw_z (tgt := 17) aj_d34 rfl rfl (fun q353 => ?_) (fun q353 => ?_)
  · have q353 : b.toInt = (0 : Int) := aw_t_eq (a := b.toInt) (b := (0 : Int)) rfl rfl q353
    refine cw_n aj_d34 rfl rfl ?_
    obtain ⟨v354, f354, g354⟩ := cw_tyF (i := 35) (t := 55) (c := 3) (k := 1) (y := (.inr (some ([56], false)))) hTr (cw_s0 hB rfl) rfl rfl rfl
    obtain rfl := cw_gu (i := 30) hB g354 (by decide) (by decide) (by decide)
    refine cw_g (i := 35) (v := .ref (52 + 30)) htb.1 aj_d34 rfl rfl (by decide) f354 ?_
    refine cw_n aj_d34 rfl rfl ?_
    refine cw_n aj_d34 rfl rfl ?_
    obtain ⟨v355, f355, g355⟩ := cw_tyF (i := 35) (t := 55) (c := 3) (k := 0) (y := (.inr (some ([60], false)))) hTr (cw_s0 hB rfl) rfl rfl rfl
    obtain rfl := cw_gu (i := 26) hB g355 (by decide) (by decide) (by decide)
    refine cw_g (i := 35) (v := .ref (52 + 26)) htb.1 aj_d34 rfl rfl (by decide) f355 ?_
    refine cw_n aj_d34 rfl rfl ?_
    obtain ⟨v356, f356, g356⟩ := cw_tyF (i := 35) (t := 55) (c := 3) (k := 7) (y := (.inl (0, 1000000))) hTr (cw_s0 hB rfl) rfl rfl rfl
    obtain ⟨x356, rfl, b356⟩ := ak_gi g356
    dsimp only [ak_win] at b356
    refine cw_g (i := 35) (v := .int x356) htb.1 aj_d34 rfl rfl (by decide) f356 ?_
    refine cw_k (con' := ap_c43) aj_d34 htb hTr rfl rfl [_] rfl rfl (cw_cls hTr (cw_s0 hB rfl) rfl) (Nat.le_of_ble_eq_true rfl) ⟨by decide, by decide⟩ (cw_a1 (by omega) (ap_0_43 htb (cw_SP1c _ _ rfl rfl) cw_hK) hTr hB rfl ⟨(cw_gR (cw_s0 hB rfl) (by decide) (by decide)), (cw_full _), trivial⟩) ?_
    rintro u357 ru357 h357 hT357 ⟨eu357, ho357⟩ hRu357 Eu357
    have eu357 := cw_u0 eu357
    subst eu357
    rw [List.append_nil] at hT357
    rw [List.append_nil]
    have hP358 := cw_PV_tr ho357 Eu357 (by decide) (show cw_PV _ _ _ _ _ _ from ⟨⟨_, _, f5r, l5r, a36r, lor⟩, f6r, f14r, f4r, fpr, a31r⟩)
    have hP358' := hP358
    obtain ⟨⟨x5hP358, ghP358, f5hP358, l5hP358, a36hP358, lohP358⟩, f6hP358, f14hP358, f4hP358, fphP358, a31hP358⟩ := hP358'
    obtain ⟨xu357, rfl, bu357⟩ := cw_rI hRu357
    show cw_W _ _ _ _ _ _ _ _ _ _ 33 [(0, .ref (52 + 35)), (1, .int x), (2, .int l)] [.int xu357, .int (Int32.ofInt 2), .ref (52 + 30)]
    refine cw_k0 (i := 30) (t := 56) (con' := cw_nP 44 none) aj_d34 htb hT357 rfl rfl [_, _] rfl rfl (cw_s0 hB rfl) rfl (Nat.le_of_ble_eq_true rfl) ⟨by decide, by decide⟩ (cw_failP htb hT357 hB (by omega) (m := (Int32.ofInt 2)) (by decide) xu357 hP358) ?_
    rintro rh359 h359 hT360 ⟨exh359, bdh359, f6h359⟩ hRh359
    obtain rfl := cw_rN hRh359
    show cw_W _ _ _ _ _ _ _ _ _ _ 36 [(0, .ref (52 + 35)), (1, .int x), (2, .int l)] []
    refine cw_Wr aj_d34 rfl rfl hT360 ?_ ?_
    · exact ⟨rfl, (cw_ex_tr (cw_ex_tr (cw_ex_tr cw_ex_rf exr) (cw_ex_of ho357)) exh359), Or.inl bdh359⟩
    · trivial
  · have q353 : b.toInt ≠ (0 : Int) := aw_t_eq (a := b.toInt) (b := (0 : Int)) rfl rfl q353
    refine cw_n aj_d34 rfl rfl ?_
    refine cw_n aj_d34 rfl rfl ?_
    refine cw_n aj_d34 rfl rfl ?_
    by_cases h172 : x.toInt ≤ 172
    · skip
      refine cw_k0 (i := 35) (t := 55) (con' := (cw_nP 39 none)) aj_d34 htb hTr rfl rfl [_, _] rfl rfl (cw_s0 hB rfl) rfl (Nat.le_of_ble_eq_true rfl) ⟨by decide, by decide⟩ (cw_keep0 htb hTr hB (by omega) (by omega) l hPr) ?_
      rintro rk hk hTk ⟨exk, hPk⟩ hRk
      obtain rfl := cw_rN hRk
      show cw_W _ _ _ _ _ _ _ _ _ _ 14 [(0, .ref (52 + 35)), (1, .int x), (2, .int l)] []
      refine cw_n aj_d34 rfl rfl ?_
      refine cw_Wr aj_d34 rfl rfl hTk ?_ ?_
      · exact ⟨rfl, (cw_ex_tr (cw_ex_tr cw_ex_rf exr) exk), Or.inr ⟨_, _, _, hPk, hor (by omega), fun _ => ⟨rfl, rfl⟩, fun _ => by omega⟩⟩
      · trivial
    · skip
      refine cw_k0 (i := 35) (t := 55) (con' := (cw_nP 39 none)) aj_d34 htb hTr rfl rfl [_, _] rfl rfl (cw_s0 hB rfl) rfl (Nat.le_of_ble_eq_true rfl) ⟨by decide, by decide⟩ (cw_keep1 htb hTr hB (by omega) (by omega) l (hn (by omega)) hPr) ?_
      rintro rk hk hTk ⟨exk, nk, enk, hPk⟩ hRk
      obtain rfl := cw_rN hRk
      show cw_W _ _ _ _ _ _ _ _ _ _ 14 [(0, .ref (52 + 35)), (1, .int x), (2, .int l)] []
      refine cw_n aj_d34 rfl rfl ?_
      refine cw_Wr aj_d34 rfl rfl hTk ?_ ?_
      · exact ⟨rfl, (cw_ex_tr (cw_ex_tr cw_ex_rf exr) exk), Or.inr ⟨_, _, _, hPk, hor (by omega), fun _ => by omega, fun _ => ⟨enk, rfl⟩⟩⟩
      · trivial
end CW67
