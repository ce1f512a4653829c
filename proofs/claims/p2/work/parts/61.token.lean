/-! TOKENS OF THE CLASS BY HAND (printed by wip/p2/cwalk/g61.py) -/
section CW61
variable {tb : aj_T} {s : List Nat} {h : aj_H} {d : Nat}
abbrev cw_n24 : ak_Con := (24, [.inl (0, 65535)], some (.inl (0, 1)), ([], []), [], [], [], 0, 0, [], [], [])
theorem cw_isLetter (htb : ak_tbOK ak_C0 tb) (hT : ak_Ty ak_C0 s h) (hd : 1 ≤ d) (c : Int32) : cw_K ak_C0 (fun s' r h' => s' = s ∧ h' = h ∧ ∃ b : Int32, r = some (.int b) ∧ ((b.toInt = 1 ∧ 97 ≤ c.toInt ∧ c.toInt ≤ 122) ∨ b.toInt = 0)) tb d cw_n24 [.int c] s h := by
  obtain ⟨d, rfl⟩ : ∃ e, d = e + 1 := ⟨d - 1, by omega⟩
  refine cw_m (con := cw_n24) aj_m24_at (Nat.le_of_ble_eq_true rfl) ?_
  show cw_W _ _ _ _ _ _ _ _ _ _ 0 [(0, .int c)] []
  refine cw_n aj_d24 rfl rfl ?_
  refine cw_n aj_d24 rfl rfl ?_
  refine cw_c (tgt := 16) aj_d24 rfl rfl (fun q1 => ?_) (fun q1 => ?_)
  · have q1 : c.toInt < (97 : Int) := aw_t_lt (a := c.toInt) (b := (97 : Int)) rfl rfl q1
    refine cw_n aj_d24 rfl rfl ?_
    refine cw_Wr aj_d24 rfl rfl hT ?_ ?_
    · exact ⟨rfl, rfl, _, rfl, Or.inr rfl⟩
    · exact cw_gw (s := s) (a := 0) rfl (by decide) (by decide)
  · have q1 : c.toInt ≥ (97 : Int) := aw_t_lt (a := c.toInt) (b := (97 : Int)) rfl rfl q1
    refine cw_n aj_d24 rfl rfl ?_
    refine cw_n aj_d24 rfl rfl ?_
    refine cw_c (tgt := 16) aj_d24 rfl rfl (fun q2 => ?_) (fun q2 => ?_)
    · have q2 : c.toInt > (122 : Int) := aw_t_gt (a := c.toInt) (b := (122 : Int)) rfl rfl q2
      refine cw_n aj_d24 rfl rfl ?_
      refine cw_Wr aj_d24 rfl rfl hT ?_ ?_
      · exact ⟨rfl, rfl, _, rfl, Or.inr rfl⟩
      · exact cw_gw (s := s) (a := 0) rfl (by decide) (by decide)
    · have q2 : c.toInt ≤ (122 : Int) := aw_t_gt (a := c.toInt) (b := (122 : Int)) rfl rfl q2
      refine cw_n aj_d24 rfl rfl ?_
      refine cw_n aj_d24 rfl rfl ?_
      refine cw_Wr aj_d24 rfl rfl hT ?_ ?_
      · exact ⟨rfl, rfl, _, rfl, Or.inl ⟨rfl, by omega, by omega⟩⟩
      · exact cw_gw (s := s) (a := 1) rfl (by decide) (by decide)
abbrev cw_n26 : ak_Con := (26, [.inl (0, 65535)], some (.inl (0, 1)), ([], []), [], [], [], 0, 0, [], [], [])
theorem cw_isDigit (htb : ak_tbOK ak_C0 tb) (hT : ak_Ty ak_C0 s h) (hd : 1 ≤ d) (c : Int32) : cw_K ak_C0 (fun s' r h' => s' = s ∧ h' = h ∧ ∃ b : Int32, r = some (.int b) ∧ ((b.toInt = 1 ∧ 48 ≤ c.toInt ∧ c.toInt ≤ 57) ∨ b.toInt = 0)) tb d cw_n26 [.int c] s h := by
  obtain ⟨d, rfl⟩ : ∃ e, d = e + 1 := ⟨d - 1, by omega⟩
  refine cw_m (con := cw_n26) aj_m26_at (Nat.le_of_ble_eq_true rfl) ?_
  show cw_W _ _ _ _ _ _ _ _ _ _ 0 [(0, .int c)] []
  refine cw_n aj_d26 rfl rfl ?_
  refine cw_n aj_d26 rfl rfl ?_
  refine cw_c (tgt := 16) aj_d26 rfl rfl (fun q3 => ?_) (fun q3 => ?_)
  · have q3 : c.toInt < (48 : Int) := aw_t_lt (a := c.toInt) (b := (48 : Int)) rfl rfl q3
    refine cw_n aj_d26 rfl rfl ?_
    refine cw_Wr aj_d26 rfl rfl hT ?_ ?_
    · exact ⟨rfl, rfl, _, rfl, Or.inr rfl⟩
    · exact cw_gw (s := s) (a := 0) rfl (by decide) (by decide)
  · have q3 : c.toInt ≥ (48 : Int) := aw_t_lt (a := c.toInt) (b := (48 : Int)) rfl rfl q3
    refine cw_n aj_d26 rfl rfl ?_
    refine cw_n aj_d26 rfl rfl ?_
    refine cw_c (tgt := 16) aj_d26 rfl rfl (fun q4 => ?_) (fun q4 => ?_)
    · have q4 : c.toInt > (57 : Int) := aw_t_gt (a := c.toInt) (b := (57 : Int)) rfl rfl q4
      refine cw_n aj_d26 rfl rfl ?_
      refine cw_Wr aj_d26 rfl rfl hT ?_ ?_
      · exact ⟨rfl, rfl, _, rfl, Or.inr rfl⟩
      · exact cw_gw (s := s) (a := 0) rfl (by decide) (by decide)
    · have q4 : c.toInt ≤ (57 : Int) := aw_t_gt (a := c.toInt) (b := (57 : Int)) rfl rfl q4
      refine cw_n aj_d26 rfl rfl ?_
      refine cw_n aj_d26 rfl rfl ?_
      refine cw_Wr aj_d26 rfl rfl hT ?_ ?_
      · exact ⟨rfl, rfl, _, rfl, Or.inl ⟨rfl, by omega, by omega⟩⟩
      · exact cw_gw (s := s) (a := 1) rfl (by decide) (by decide)
abbrev cw_n27 : ak_Con := (27, [.inr (some ([60], false)), .inl ((-2147483648), 2147483647), .inl ((-2147483648), 2147483647), .inr none], none, ([76, 77, 78], [(8, 3)]), [], [], [], 0, 0, [], [], [])
/-- a token more -/
theorem cw_tadd (htb : ak_tbOK ak_C0 tb) (hT : ak_Ty ak_C0 s h) (hB : cw_B s) (hd : 1 ≤ d) (hW : cw_wds (cw_o h)) (m a : Int32) (w : Int64) (hw : 0 ≤ w.toInt32.toInt ∧ w.toInt32.toInt ≤ 2139095039) : cw_K ak_C0 (fun s' r h' => s' = s ∧ r = none ∧ cw_ex [26, 27, 28, 29] (cw_o h) (cw_o h') ∧ cw_wds (cw_o h')) tb d cw_n27 [.ref (52 + 26), .int m, .int a, .long w] s h := by
  obtain ⟨d, rfl⟩ : ∃ e, d = e + 1 := ⟨d - 1, by omega⟩
  have hW' := hW
  obtain ⟨fw, aw, hW2⟩ := hW'
  have aw : cw_A h 29 1 1002 (.inr (.inl fw)) := (cw_oa_A (h := h) (i := 29) (by decide)).mp aw
  refine cw_m (con := cw_n27) aj_m27_at (Nat.le_of_ble_eq_true rfl) ?_
  show cw_W _ _ _ _ _ _ _ _ _ _ 0 [(0, .ref (52 + 26)), (1, .int m), (2, .int a), (3, .long w)] []
  refine cw_n aj_d27 rfl rfl ?_
  obtain ⟨v5, f5, g5⟩ := cw_tyF (i := 26) (t := 60) (c := 8) (k := 3) (y := (.inl (0, 1002))) hT (cw_s0 hB rfl) rfl rfl rfl
  obtain ⟨x5, rfl, b5⟩ := ak_gi g5
  dsimp only [ak_win] at b5
  refine cw_g (i := 26) (v := .int x5) htb.1 aj_d27 rfl rfl (by decide) f5 ?_
  refine cw_n aj_d27 rfl rfl ?_
  obtain ⟨v6, f6, g6⟩ := cw_tyF (i := 26) (t := 60) (c := 8) (k := 0) (y := (.inr (some ([76], false)))) hT (cw_s0 hB rfl) rfl rfl rfl
  obtain rfl := cw_gu (i := 27) hB g6 (by decide) (by decide) (by decide)
  refine cw_g (i := 26) (v := .ref (52 + 27)) htb.1 aj_d27 rfl rfl (by decide) f6 ?_
  obtain ⟨n8, z8, a8, p8l, p8r, p8⟩ := cw_tyA (i := 27) (t := 76) (kd := 0) (n1 := 1002) (n2 := 1002) (y := (.inl ((-2147483648), 2147483647))) hT (cw_s0 hB rfl) rfl
  obtain rfl : n8 = 1002 := Nat.le_antisymm p8r p8l
  obtain ⟨fn8, rfl, p8c⟩ := cw_xi p8
  refine cw_alen (i := 27) htb.1 aj_d27 rfl a8 (by decide) (by omega) (fun x7 ex7 => ?_)
  refine cw_c (tgt := 76) aj_d27 rfl rfl (fun q9 => ?_) (fun q9 => ?_)
  · have q9 : x5.toInt ≥ (1002 : Int) := aw_t_ge (a := x5.toInt) (b := (1002 : Int)) rfl ex7 q9
    refine cw_Wr aj_d27 rfl rfl hT ?_ ?_
    · exact ⟨rfl, rfl, cw_ex_rf, hW⟩
    · trivial
  · have q9 : x5.toInt < (1002 : Int) := aw_t_ge (a := x5.toInt) (b := (1002 : Int)) rfl ex7 q9
    refine cw_n aj_d27 rfl rfl ?_
    refine cw_g (i := 26) (v := .int x5) htb.1 aj_d27 rfl rfl (by decide) f5 ?_
    refine cw_n aj_d27 rfl rfl ?_
    obtain ⟨v10, f10, g10⟩ := cw_tyF (i := 26) (t := 60) (c := 8) (k := 1) (y := (.inr (some ([77], false)))) hT (cw_s0 hB rfl) rfl rfl rfl
    obtain rfl := cw_gu (i := 28) hB g10 (by decide) (by decide) (by decide)
    refine cw_g (i := 26) (v := .ref (52 + 28)) htb.1 aj_d27 rfl rfl (by decide) f10 ?_
    obtain ⟨n12, z12, a12, p12l, p12r, p12⟩ := cw_tyA (i := 28) (t := 77) (kd := 0) (n1 := 1002) (n2 := 1002) (y := (.inl ((-2147483648), 2147483647))) hT (cw_s0 hB rfl) rfl
    obtain rfl : n12 = 1002 := Nat.le_antisymm p12r p12l
    obtain ⟨fn12, rfl, p12c⟩ := cw_xi p12
    refine cw_alen (i := 28) htb.1 aj_d27 rfl a12 (by decide) (by omega) (fun x11 ex11 => ?_)
    refine cw_c (tgt := 76) aj_d27 rfl rfl (fun q13 => ?_) (fun q13 => ?_)
    · have q13 : x5.toInt ≥ (1002 : Int) := aw_t_ge (a := x5.toInt) (b := (1002 : Int)) rfl ex11 q13
      refine cw_Wr aj_d27 rfl rfl hT ?_ ?_
      · exact ⟨rfl, rfl, cw_ex_rf, hW⟩
      · trivial
    · have q13 : x5.toInt < (1002 : Int) := aw_t_ge (a := x5.toInt) (b := (1002 : Int)) rfl ex11 q13
      refine cw_n aj_d27 rfl rfl ?_
      refine cw_g (i := 26) (v := .int x5) htb.1 aj_d27 rfl rfl (by decide) f5 ?_
      refine cw_n aj_d27 rfl rfl ?_
      obtain ⟨v14, f14, g14⟩ := cw_tyF (i := 26) (t := 60) (c := 8) (k := 2) (y := (.inr (some ([78], false)))) hT (cw_s0 hB rfl) rfl rfl rfl
      obtain rfl := cw_gu (i := 29) hB g14 (by decide) (by decide) (by decide)
      refine cw_g (i := 26) (v := .ref (52 + 29)) htb.1 aj_d27 rfl rfl (by decide) f14 ?_
      refine cw_alen (i := 29) htb.1 aj_d27 rfl aw (by decide) (by omega) (fun x15 ex15 => ?_)
      refine cw_c (tgt := 76) aj_d27 rfl rfl (fun q16 => ?_) (fun q16 => ?_)
      · have q16 : x5.toInt ≥ (1002 : Int) := aw_t_ge (a := x5.toInt) (b := (1002 : Int)) rfl ex15 q16
        refine cw_Wr aj_d27 rfl rfl hT ?_ ?_
        · exact ⟨rfl, rfl, cw_ex_rf, hW⟩
        · trivial
      · have q16 : x5.toInt < (1002 : Int) := aw_t_ge (a := x5.toInt) (b := (1002 : Int)) rfl ex15 q16
        refine cw_n aj_d27 rfl rfl ?_
        refine cw_g (i := 26) (v := .ref (52 + 27)) htb.1 aj_d27 rfl rfl (by decide) f6 ?_
        refine cw_n aj_d27 rfl rfl ?_
        refine cw_g (i := 26) (v := .int x5) htb.1 aj_d27 rfl rfl (by decide) f5 ?_
        refine cw_n aj_d27 rfl rfl ?_
        refine cw_st (i := 27) htb aj_d27 (Or.inl ⟨rfl, rfl⟩) rfl a8 hT (cw_s0 hB rfl) rfl (by decide) (a := x5.toInt) rfl (by omega) (by omega) (cw_full _) (fun hT17 => ?_)
        have f18 : cw_F (cw_sa h 27 (.inl (upd fn8 (x5.toInt).toNat (aj_nar 0 m)))) 26 8 3 (.int x5) := cw_sa_F f5
        have f19 : cw_F (cw_sa h 27 (.inl (upd fn8 (x5.toInt).toNat (aj_nar 0 m)))) 26 8 0 (.ref (52 + 27)) := cw_sa_F f6
        have f20 : cw_F (cw_sa h 27 (.inl (upd fn8 (x5.toInt).toNat (aj_nar 0 m)))) 26 8 1 (.ref (52 + 28)) := cw_sa_F f10
        have f21 : cw_F (cw_sa h 27 (.inl (upd fn8 (x5.toInt).toNat (aj_nar 0 m)))) 26 8 2 (.ref (52 + 29)) := cw_sa_F f14
        have a22 : cw_A (cw_sa h 27 (.inl (upd fn8 (x5.toInt).toNat (aj_nar 0 m)))) 29 1 1002 (.inr (.inl fw)) := cw_sa_ne aw (by decide)
        have a23 : cw_A (cw_sa h 27 (.inl (upd fn8 (x5.toInt).toNat (aj_nar 0 m)))) 28 0 1002 (.inl fn12) := cw_sa_ne a12 (by decide)
        have a24 : cw_A (cw_sa h 27 (.inl (upd fn8 (x5.toInt).toNat (aj_nar 0 m)))) 27 0 1002 (.inl (upd fn8 (x5.toInt).toNat (aj_nar 0 m))) := cw_sa_same a8
        refine cw_n aj_d27 rfl rfl ?_
        refine cw_g (i := 26) (v := .ref (52 + 28)) htb.1 aj_d27 rfl rfl (by decide) f20 ?_
        refine cw_n aj_d27 rfl rfl ?_
        refine cw_g (i := 26) (v := .int x5) htb.1 aj_d27 rfl rfl (by decide) f18 ?_
        refine cw_n aj_d27 rfl rfl ?_
        refine cw_st (i := 28) htb aj_d27 (Or.inl ⟨rfl, rfl⟩) rfl a23 hT17 (cw_s0 hB rfl) rfl (by decide) (a := x5.toInt) rfl (by omega) (by omega) (cw_full _) (fun hT25 => ?_)
        have f26 : cw_F (cw_sa (cw_sa h 27 (.inl (upd fn8 (x5.toInt).toNat (aj_nar 0 m)))) 28 (.inl (upd fn12 (x5.toInt).toNat (aj_nar 0 a)))) 26 8 3 (.int x5) := cw_sa_F f18
        have f27 : cw_F (cw_sa (cw_sa h 27 (.inl (upd fn8 (x5.toInt).toNat (aj_nar 0 m)))) 28 (.inl (upd fn12 (x5.toInt).toNat (aj_nar 0 a)))) 26 8 0 (.ref (52 + 27)) := cw_sa_F f19
        have f28 : cw_F (cw_sa (cw_sa h 27 (.inl (upd fn8 (x5.toInt).toNat (aj_nar 0 m)))) 28 (.inl (upd fn12 (x5.toInt).toNat (aj_nar 0 a)))) 26 8 1 (.ref (52 + 28)) := cw_sa_F f20
        have f29 : cw_F (cw_sa (cw_sa h 27 (.inl (upd fn8 (x5.toInt).toNat (aj_nar 0 m)))) 28 (.inl (upd fn12 (x5.toInt).toNat (aj_nar 0 a)))) 26 8 2 (.ref (52 + 29)) := cw_sa_F f21
        have a30 : cw_A (cw_sa (cw_sa h 27 (.inl (upd fn8 (x5.toInt).toNat (aj_nar 0 m)))) 28 (.inl (upd fn12 (x5.toInt).toNat (aj_nar 0 a)))) 29 1 1002 (.inr (.inl fw)) := cw_sa_ne a22 (by decide)
        have a31 : cw_A (cw_sa (cw_sa h 27 (.inl (upd fn8 (x5.toInt).toNat (aj_nar 0 m)))) 28 (.inl (upd fn12 (x5.toInt).toNat (aj_nar 0 a)))) 27 0 1002 (.inl (upd fn8 (x5.toInt).toNat (aj_nar 0 m))) := cw_sa_ne a24 (by decide)
        have a32 : cw_A (cw_sa (cw_sa h 27 (.inl (upd fn8 (x5.toInt).toNat (aj_nar 0 m)))) 28 (.inl (upd fn12 (x5.toInt).toNat (aj_nar 0 a)))) 28 0 1002 (.inl (upd fn12 (x5.toInt).toNat (aj_nar 0 a))) := cw_sa_same a23
        refine cw_n aj_d27 rfl rfl ?_
        refine cw_g (i := 26) (v := .ref (52 + 29)) htb.1 aj_d27 rfl rfl (by decide) f29 ?_
        refine cw_n aj_d27 rfl rfl ?_
        refine cw_g (i := 26) (v := .int x5) htb.1 aj_d27 rfl rfl (by decide) f26 ?_
        refine cw_n aj_d27 rfl rfl ?_
        refine cw_stl (i := 29) htb aj_d27 rfl a30 hT25 (cw_s0 hB rfl) rfl (by decide) (a := x5.toInt) rfl (by omega) (by omega) (fun hT33 => ?_)
        have f34 : cw_F (cw_sa (cw_sa (cw_sa h 27 (.inl (upd fn8 (x5.toInt).toNat (aj_nar 0 m)))) 28 (.inl (upd fn12 (x5.toInt).toNat (aj_nar 0 a)))) 29 (.inr (.inl (vp_updL fw (x5.toInt).toNat w)))) 26 8 3 (.int x5) := cw_sa_F f26
        have f35 : cw_F (cw_sa (cw_sa (cw_sa h 27 (.inl (upd fn8 (x5.toInt).toNat (aj_nar 0 m)))) 28 (.inl (upd fn12 (x5.toInt).toNat (aj_nar 0 a)))) 29 (.inr (.inl (vp_updL fw (x5.toInt).toNat w)))) 26 8 0 (.ref (52 + 27)) := cw_sa_F f27
        have f36 : cw_F (cw_sa (cw_sa (cw_sa h 27 (.inl (upd fn8 (x5.toInt).toNat (aj_nar 0 m)))) 28 (.inl (upd fn12 (x5.toInt).toNat (aj_nar 0 a)))) 29 (.inr (.inl (vp_updL fw (x5.toInt).toNat w)))) 26 8 1 (.ref (52 + 28)) := cw_sa_F f28
        have f37 : cw_F (cw_sa (cw_sa (cw_sa h 27 (.inl (upd fn8 (x5.toInt).toNat (aj_nar 0 m)))) 28 (.inl (upd fn12 (x5.toInt).toNat (aj_nar 0 a)))) 29 (.inr (.inl (vp_updL fw (x5.toInt).toNat w)))) 26 8 2 (.ref (52 + 29)) := cw_sa_F f29
        have a38 : cw_A (cw_sa (cw_sa (cw_sa h 27 (.inl (upd fn8 (x5.toInt).toNat (aj_nar 0 m)))) 28 (.inl (upd fn12 (x5.toInt).toNat (aj_nar 0 a)))) 29 (.inr (.inl (vp_updL fw (x5.toInt).toNat w)))) 27 0 1002 (.inl (upd fn8 (x5.toInt).toNat (aj_nar 0 m))) := cw_sa_ne a31 (by decide)
        have a39 : cw_A (cw_sa (cw_sa (cw_sa h 27 (.inl (upd fn8 (x5.toInt).toNat (aj_nar 0 m)))) 28 (.inl (upd fn12 (x5.toInt).toNat (aj_nar 0 a)))) 29 (.inr (.inl (vp_updL fw (x5.toInt).toNat w)))) 28 0 1002 (.inl (upd fn12 (x5.toInt).toNat (aj_nar 0 a))) := cw_sa_ne a32 (by decide)
        have a40 : cw_A (cw_sa (cw_sa (cw_sa h 27 (.inl (upd fn8 (x5.toInt).toNat (aj_nar 0 m)))) 28 (.inl (upd fn12 (x5.toInt).toNat (aj_nar 0 a)))) 29 (.inr (.inl (vp_updL fw (x5.toInt).toNat w)))) 29 1 1002 (.inr (.inl (vp_updL fw (x5.toInt).toNat w))) := cw_sa_same a30
        refine cw_n aj_d27 rfl rfl ?_
        refine cw_n aj_d27 rfl rfl ?_
        refine cw_g (i := 26) (v := .int x5) htb.1 aj_d27 rfl rfl (by decide) f34 ?_
        refine cw_n aj_d27 rfl rfl ?_
        refine cw_add aj_d27 rfl (a := x5.toInt) (b := (1 : Int)) rfl rfl (by omega) (by omega) (fun x41 ex41 => ?_)
        refine cw_p (i := 26) (t := 60) (c := 8) (k := 3) (v := .int x41) (y := (.inl (0, 1002))) htb aj_d27 rfl rfl hT33 (cw_s0 hB rfl) rfl rfl rfl (cw_gw (a := x41.toInt) rfl (by omega) (by omega)) (by decide) rfl rfl (fun hT42 => ?_)
        have f43 : cw_F (cw_sf (cw_sa (cw_sa (cw_sa h 27 (.inl (upd fn8 (x5.toInt).toNat (aj_nar 0 m)))) 28 (.inl (upd fn12 (x5.toInt).toNat (aj_nar 0 a)))) 29 (.inr (.inl (vp_updL fw (x5.toInt).toNat w)))) 26 3 (.int x41)) 26 8 0 (.ref (52 + 27)) := cw_sf_ne f35 (Or.inr (by decide))
        have f44 : cw_F (cw_sf (cw_sa (cw_sa (cw_sa h 27 (.inl (upd fn8 (x5.toInt).toNat (aj_nar 0 m)))) 28 (.inl (upd fn12 (x5.toInt).toNat (aj_nar 0 a)))) 29 (.inr (.inl (vp_updL fw (x5.toInt).toNat w)))) 26 3 (.int x41)) 26 8 1 (.ref (52 + 28)) := cw_sf_ne f36 (Or.inr (by decide))
        have f45 : cw_F (cw_sf (cw_sa (cw_sa (cw_sa h 27 (.inl (upd fn8 (x5.toInt).toNat (aj_nar 0 m)))) 28 (.inl (upd fn12 (x5.toInt).toNat (aj_nar 0 a)))) 29 (.inr (.inl (vp_updL fw (x5.toInt).toNat w)))) 26 3 (.int x41)) 26 8 2 (.ref (52 + 29)) := cw_sf_ne f37 (Or.inr (by decide))
        have a46 : cw_A (cw_sf (cw_sa (cw_sa (cw_sa h 27 (.inl (upd fn8 (x5.toInt).toNat (aj_nar 0 m)))) 28 (.inl (upd fn12 (x5.toInt).toNat (aj_nar 0 a)))) 29 (.inr (.inl (vp_updL fw (x5.toInt).toNat w)))) 26 3 (.int x41)) 27 0 1002 (.inl (upd fn8 (x5.toInt).toNat (aj_nar 0 m))) := cw_sf_A a38
        have a47 : cw_A (cw_sf (cw_sa (cw_sa (cw_sa h 27 (.inl (upd fn8 (x5.toInt).toNat (aj_nar 0 m)))) 28 (.inl (upd fn12 (x5.toInt).toNat (aj_nar 0 a)))) 29 (.inr (.inl (vp_updL fw (x5.toInt).toNat w)))) 26 3 (.int x41)) 28 0 1002 (.inl (upd fn12 (x5.toInt).toNat (aj_nar 0 a))) := cw_sf_A a39
        have a48 : cw_A (cw_sf (cw_sa (cw_sa (cw_sa h 27 (.inl (upd fn8 (x5.toInt).toNat (aj_nar 0 m)))) 28 (.inl (upd fn12 (x5.toInt).toNat (aj_nar 0 a)))) 29 (.inr (.inl (vp_updL fw (x5.toInt).toNat w)))) 26 3 (.int x41)) 29 1 1002 (.inr (.inl (vp_updL fw (x5.toInt).toNat w))) := cw_sf_A a40
        have f49 : cw_F (cw_sf (cw_sa (cw_sa (cw_sa h 27 (.inl (upd fn8 (x5.toInt).toNat (aj_nar 0 m)))) 28 (.inl (upd fn12 (x5.toInt).toNat (aj_nar 0 a)))) 29 (.inr (.inl (vp_updL fw (x5.toInt).toNat w)))) 26 3 (.int x41)) 26 8 3 (.int x41) := cw_sf_same f34
        refine cw_Wr aj_d27 rfl rfl hT42 ?_ ?_
        · refine ⟨rfl, rfl, (by first | exact cw_ex_rf | (refine cw_ex_tr ?_ (cw_ex_sf (by decide)); first | exact cw_ex_rf | (refine cw_ex_tr ?_ (cw_ex_sa (by decide)); refine cw_ex_tr ?_ (cw_ex_sa (by decide)); exact cw_ex_sa (by decide)))), ?_⟩
          refine ⟨_, (cw_oa_A (by decide)).mpr a48, fun j hj => ?_⟩
          unfold vp_updL
          split
          · exact hw
          · exact hW2 j hj
        · trivial
abbrev cw_n25 : ak_Con := (25, [.inr (some ([60], false)), .inr (some ([64], false)), .inl (0, 4000), .inl (0, 4000)], some (.inl (0, 4002)), ([76, 77, 78], [(8, 3)]), [], [], [], 0, 0, [], [], [])
abbrev cw_n29 : ak_Con := (29, [.inr (some ([60], false)), .inr (some ([64], false)), .inl (0, 4000), .inl (0, 4000)], some (.inl (0, 4002)), ([76, 77, 78], [(8, 3)]), [], [], [], 0, 0, [], [], [])
abbrev cw_n23 : ak_Con := (23, [.inr (some ([60], false)), .inr (some ([64], false)), .inl (0, 4000), .inl (0, 4000)], some (.inl (0, 4002)), ([76, 77, 78], [(8, 3)]), [], [], [], 0, 0, [], [], [])
theorem cw_scanName_x45 (htb : ak_tbOK ak_C0 tb) (hT : ak_Ty ak_C0 s h) (hB : cw_B s) (hd : 2 ≤ d) (hW : cw_wds (cw_o h)) {kc ks : Nat} {a e : Int32} (ha : 0 ≤ a.toInt) (he : e.toInt ≤ 4000) {x : Int32} {w : Int64} (hk : cw_wok w) (h1 : a.toInt ≤ x.toInt) (h2 : x.toInt ≤ 4000) : cw_W ak_C0 (fun s' _ h' => s' = s ∧ cw_ex [26, 27, 28, 29] (cw_o h) (cw_o h') ∧ cw_wds (cw_o h')) tb d aj_m25 cw_n25 s h kc ks 58 [(4, .int x), (5, .long w), (0, .ref (52 + 26)), (1, .ref (52 + 1)), (2, .int e), (3, .int a)] [] := by
  have hwr := cw_wok_r hk
  refine cw_n aj_d25 rfl rfl ?_
  refine cw_n aj_d25 rfl rfl ?_
  refine cw_sub aj_d25 rfl (a := x.toInt) (b := a.toInt) rfl rfl (by omega) (by omega) (fun x50 ex50 => ?_)
  refine cw_n aj_d25 rfl rfl ?_
  refine cw_c (tgt := 76) aj_d25 rfl rfl (fun q51 => ?_) (fun q51 => ?_)
  · have q51 : x50.toInt ≤ (8 : Int) := aw_t_le (a := x50.toInt) (b := (8 : Int)) rfl rfl q51
    refine cw_n aj_d25 rfl rfl ?_
    refine cw_n aj_d25 rfl rfl ?_
    refine cw_ks0 (con' := ap_c28) aj_d25 hT rfl rfl rfl [_] rfl rfl (Nat.le_of_ble_eq_true rfl) ⟨by decide, by decide⟩ (cw_a1 (by omega) (ap_0_28 htb (cw_SP1c _ _ rfl rfl) cw_hK) hT hB rfl ⟨trivial, trivial⟩) ?_
    rintro ru52 h52 hT52 ho52 hRu52
    obtain ⟨x53, rfl, bx53⟩ := cw_rI hRu52
    show cw_W _ _ _ _ _ _ _ _ _ _ 82 [(4, .int x), (5, .long w), (0, .ref (52 + 26)), (1, .ref (52 + 1)), (2, .int e), (3, .int a)] [.int x53, .ref (52 + 26)]
    refine cw_n aj_d25 rfl rfl ?_
    refine cw_n aj_d25 rfl rfl ?_
    refine cw_k0 (i := 26) (t := 60) (con' := cw_n27) aj_d25 htb hT52 rfl rfl [_, _, _] rfl rfl (cw_s0 hB rfl) rfl (Nat.le_of_ble_eq_true rfl) ⟨by decide, by decide⟩ (cw_tadd htb hT52 hB (by omega) (ho52.symm ▸ hW) x53 a w hwr) ?_
    rintro _ h54 hT55 ⟨rfl, hx, hw⟩ _
    show cw_W _ _ _ _ _ _ _ _ _ _ 88 [(4, .int x), (5, .long w), (0, .ref (52 + 26)), (1, .ref (52 + 1)), (2, .int e), (3, .int a)] []
    refine cw_n aj_d25 rfl rfl ?_
    refine cw_Wr aj_d25 rfl rfl hT55 ?_ ?_
    · exact ⟨rfl, (cw_ex_tr (cw_ex_of ho52) hx), hw⟩
    · exact cw_gw (s := s) (a := _) rfl (by omega) (by omega)
  · have q51 : x50.toInt > (8 : Int) := aw_t_le (a := x50.toInt) (b := (8 : Int)) rfl rfl q51
    refine cw_n aj_d25 rfl rfl ?_
    refine cw_n aj_d25 rfl rfl ?_
    refine cw_n aj_d25 rfl rfl ?_
    refine cw_anyl aj_d25 rfl rfl (fun y56 ey56 => ?_)
    refine cw_k0 (i := 26) (t := 60) (con' := cw_n27) aj_d25 htb hT rfl rfl [_, _, _] rfl rfl (cw_s0 hB rfl) rfl (Nat.le_of_ble_eq_true rfl) ⟨by decide, by decide⟩ (cw_tadd htb hT hB (by omega) hW (Int32.ofInt 2) a y56 (by rw [ey56]; decide)) ?_
    rintro _ h57 hT58 ⟨rfl, hx, hw⟩ _
    show cw_W _ _ _ _ _ _ _ _ _ _ 74 [(4, .int x), (5, .long w), (0, .ref (52 + 26)), (1, .ref (52 + 1)), (2, .int e), (3, .int a)] []
    refine cw_n aj_d25 rfl rfl ?_
    refine cw_Wr aj_d25 rfl rfl hT58 ?_ ?_
    · exact ⟨rfl, (cw_ex_tr cw_ex_rf hx), hw⟩
    · exact cw_gw (s := s) (a := _) rfl (by omega) (by omega)
theorem cw_scanName_x54 (htb : ak_tbOK ak_C0 tb) (hT : ak_Ty ak_C0 s h) (hB : cw_B s) (hd : 2 ≤ d) (hW : cw_wds (cw_o h)) {kc ks : Nat} {a e : Int32} (ha : 0 ≤ a.toInt) (he : e.toInt ≤ 4000) {x : Int32} {w : Int64} (hk : cw_wok w) (h1 : a.toInt ≤ x.toInt) (h2 : x.toInt ≤ 4000) : cw_W ak_C0 (fun s' _ h' => s' = s ∧ cw_ex [26, 27, 28, 29] (cw_o h) (cw_o h') ∧ cw_wds (cw_o h')) tb d aj_m25 cw_n25 s h kc ks 58 [(5, .long w), (4, .int x), (0, .ref (52 + 26)), (1, .ref (52 + 1)), (2, .int e), (3, .int a)] [] := by
  have hwr := cw_wok_r hk
  refine cw_n aj_d25 rfl rfl ?_
  refine cw_n aj_d25 rfl rfl ?_
  refine cw_sub aj_d25 rfl (a := x.toInt) (b := a.toInt) rfl rfl (by omega) (by omega) (fun x59 ex59 => ?_)
  refine cw_n aj_d25 rfl rfl ?_
  refine cw_c (tgt := 76) aj_d25 rfl rfl (fun q60 => ?_) (fun q60 => ?_)
  · have q60 : x59.toInt ≤ (8 : Int) := aw_t_le (a := x59.toInt) (b := (8 : Int)) rfl rfl q60
    refine cw_n aj_d25 rfl rfl ?_
    refine cw_n aj_d25 rfl rfl ?_
    refine cw_ks0 (con' := ap_c28) aj_d25 hT rfl rfl rfl [_] rfl rfl (Nat.le_of_ble_eq_true rfl) ⟨by decide, by decide⟩ (cw_a1 (by omega) (ap_0_28 htb (cw_SP1c _ _ rfl rfl) cw_hK) hT hB rfl ⟨trivial, trivial⟩) ?_
    rintro ru61 h61 hT61 ho61 hRu61
    obtain ⟨x62, rfl, bx62⟩ := cw_rI hRu61
    show cw_W _ _ _ _ _ _ _ _ _ _ 82 [(5, .long w), (4, .int x), (0, .ref (52 + 26)), (1, .ref (52 + 1)), (2, .int e), (3, .int a)] [.int x62, .ref (52 + 26)]
    refine cw_n aj_d25 rfl rfl ?_
    refine cw_n aj_d25 rfl rfl ?_
    refine cw_k0 (i := 26) (t := 60) (con' := cw_n27) aj_d25 htb hT61 rfl rfl [_, _, _] rfl rfl (cw_s0 hB rfl) rfl (Nat.le_of_ble_eq_true rfl) ⟨by decide, by decide⟩ (cw_tadd htb hT61 hB (by omega) (ho61.symm ▸ hW) x62 a w hwr) ?_
    rintro _ h63 hT64 ⟨rfl, hx, hw⟩ _
    show cw_W _ _ _ _ _ _ _ _ _ _ 88 [(5, .long w), (4, .int x), (0, .ref (52 + 26)), (1, .ref (52 + 1)), (2, .int e), (3, .int a)] []
    refine cw_n aj_d25 rfl rfl ?_
    refine cw_Wr aj_d25 rfl rfl hT64 ?_ ?_
    · exact ⟨rfl, (cw_ex_tr (cw_ex_of ho61) hx), hw⟩
    · exact cw_gw (s := s) (a := _) rfl (by omega) (by omega)
  · have q60 : x59.toInt > (8 : Int) := aw_t_le (a := x59.toInt) (b := (8 : Int)) rfl rfl q60
    refine cw_n aj_d25 rfl rfl ?_
    refine cw_n aj_d25 rfl rfl ?_
    refine cw_n aj_d25 rfl rfl ?_
    refine cw_anyl aj_d25 rfl rfl (fun y65 ey65 => ?_)
    refine cw_k0 (i := 26) (t := 60) (con' := cw_n27) aj_d25 htb hT rfl rfl [_, _, _] rfl rfl (cw_s0 hB rfl) rfl (Nat.le_of_ble_eq_true rfl) ⟨by decide, by decide⟩ (cw_tadd htb hT hB (by omega) hW (Int32.ofInt 2) a y65 (by rw [ey65]; decide)) ?_
    rintro _ h66 hT67 ⟨rfl, hx, hw⟩ _
    show cw_W _ _ _ _ _ _ _ _ _ _ 74 [(5, .long w), (4, .int x), (0, .ref (52 + 26)), (1, .ref (52 + 1)), (2, .int e), (3, .int a)] []
    refine cw_n aj_d25 rfl rfl ?_
    refine cw_Wr aj_d25 rfl rfl hT67 ?_ ?_
    · exact ⟨rfl, (cw_ex_tr cw_ex_rf hx), hw⟩
    · exact cw_gw (s := s) (a := _) rfl (by omega) (by omega)
theorem cw_scanName_l (htb : ak_tbOK ak_C0 tb) (hT : ak_Ty ak_C0 s h) (hB : cw_B s) (hd : 2 ≤ d) (hW : cw_wds (cw_o h)) {kc ks : Nat} {a e : Int32} (ha : 0 ≤ a.toInt) (he : e.toInt ≤ 4000) : ∀ (g : Nat) (x : Int32) {w : Int64} (hk : cw_wok w) (h1 : a.toInt ≤ x.toInt) (h2 : x.toInt ≤ 4000), 4000 - x.toInt ≤ g → cw_W ak_C0 (fun s' _ h' => s' = s ∧ cw_ex [26, 27, 28, 29] (cw_o h) (cw_o h') ∧ cw_wds (cw_o h')) tb d aj_m25 cw_n25 s h kc ks 6 [(4, .int x), (5, .long w), (0, .ref (52 + 26)), (1, .ref (52 + 1)), (2, .int e), (3, .int a)] [] := by
  intro g
  induction g with
  | zero =>
    intro x w hk h1 h2 hg
    refine cw_n aj_d25 rfl rfl ?_
    refine cw_n aj_d25 rfl rfl ?_
    refine cw_c (tgt := 58) aj_d25 rfl rfl (fun q92 => ?_) (fun q92 => ?_)
    · have q92 : x.toInt ≥ e.toInt := aw_t_ge (a := x.toInt) (b := e.toInt) rfl rfl q92
      exact cw_scanName_x45 htb hT hB hd hW ha he hk h1 (by omega)
    · have q92 : x.toInt < e.toInt := aw_t_ge (a := x.toInt) (b := e.toInt) rfl rfl q92
      exfalso
      omega
  | succ g ih =>
    intro x w hk h1 h2 hg
    refine cw_n aj_d25 rfl rfl ?_
    refine cw_n aj_d25 rfl rfl ?_
    refine cw_c (tgt := 58) aj_d25 rfl rfl (fun q68 => ?_) (fun q68 => ?_)
    · have q68 : x.toInt ≥ e.toInt := aw_t_ge (a := x.toInt) (b := e.toInt) rfl rfl q68
      exact cw_scanName_x45 htb hT hB hd hW ha he hk h1 (by omega)
    · have q68 : x.toInt < e.toInt := aw_t_ge (a := x.toInt) (b := e.toInt) rfl rfl q68
      refine cw_n aj_d25 rfl rfl ?_
      refine cw_n aj_d25 rfl rfl ?_
      obtain ⟨n70, z70, a70, p70l, p70r, p70⟩ := cw_tyA (i := 1) (t := 64) (kd := 3) (n1 := 4000) (n2 := 4000) (y := (.inl (0, 65535))) hT (cw_s0 hB rfl) rfl
      obtain rfl : n70 = 4000 := Nat.le_antisymm p70r p70l
      obtain ⟨fn70, rfl, p70c⟩ := cw_xi p70
      refine cw_alen (i := 1) htb.1 aj_d25 rfl a70 (by decide) (by omega) (fun x69 ex69 => ?_)
      refine cw_c (tgt := 58) aj_d25 rfl rfl (fun q71 => ?_) (fun q71 => ?_)
      · have q71 : x.toInt ≥ (4000 : Int) := aw_t_ge (a := x.toInt) (b := (4000 : Int)) rfl ex69 q71
        exact cw_scanName_x45 htb hT hB hd hW ha he hk h1 (by omega)
      · have q71 : x.toInt < (4000 : Int) := aw_t_ge (a := x.toInt) (b := (4000 : Int)) rfl ex69 q71
        refine cw_n aj_d25 rfl rfl ?_
        refine cw_n aj_d25 rfl rfl ?_
        refine cw_ld (i := 1) htb.1 aj_d25 (Or.inr (Or.inl ⟨rfl, rfl⟩)) rfl a70 (a := x.toInt) rfl (by omega) (by omega) (fun x72 ex72 => ?_)
        have b72 : 0 ≤ x72.toInt ∧ x72.toInt ≤ 65535 := by
          rw [ex72]
          exact p70c _ (by omega)
        refine cw_ks0 (con' := cw_n24) aj_d25 hT rfl rfl rfl [_] rfl rfl (Nat.le_of_ble_eq_true rfl) ⟨by decide, by decide⟩ (cw_isLetter htb hT (by omega) x72) ?_
        rintro _ h73 hT74 ⟨rfl, x75, rfl, hbx75⟩ _
        show cw_W _ _ _ _ _ _ _ _ _ _ 26 [(4, .int x), (5, .long w), (0, .ref (52 + 26)), (1, .ref (52 + 1)), (2, .int e), (3, .int a)] [.int x75]
        refine cw_z (tgt := 39) aj_d25 rfl rfl (fun q76 => ?_) (fun q76 => ?_)
        · have q76 : x75.toInt ≠ (0 : Int) := aw_t_ne (a := x75.toInt) (b := (0 : Int)) rfl rfl q76
          have hcc : 48 ≤ x72.toInt ∧ x72.toInt ≤ 122 := by
            rcases hbx75 with z | z <;> omega
          refine cw_n aj_d25 rfl rfl ?_
          refine cw_n aj_d25 rfl rfl ?_
          refine cw_anyl aj_d25 rfl rfl (fun y77 ey77 => ?_)
          refine cw_n aj_d25 rfl rfl ?_
          refine cw_n aj_d25 rfl rfl ?_
          refine cw_ld (i := 1) htb.1 aj_d25 (Or.inr (Or.inl ⟨rfl, rfl⟩)) rfl a70 (a := x.toInt) rfl (by omega) (by omega) (fun x78 ex78 => ?_)
          have b78 : 0 ≤ x78.toInt ∧ x78.toInt ≤ 65535 := by
            rw [ex78]
            exact p70c _ (by omega)
          have hx78 : 48 ≤ x78.toInt ∧ x78.toInt ≤ 122 := by
            have hz : x78 = x72 := by rw [ex78, ex72]
            rw [hz]
            exact hcc
          refine cw_anyl aj_d25 rfl rfl (fun y79 ey79 => ?_)
          refine cw_anyl aj_d25 rfl rfl (fun y80 ey80 => ?_)
          refine cw_n aj_d25 rfl rfl ?_
          show cw_W _ _ _ _ _ _ _ _ _ _ 52 [(5, .long y80), (4, .int x), (0, .ref (52 + 26)), (1, .ref (52 + 1)), (2, .int e), (3, .int a)] []
          refine cw_inc aj_d25 rfl rfl (a := x.toInt) rfl (by omega) (by omega) (by decide) (by decide) (fun x81 ex81 => ?_)
          show cw_W _ _ _ _ _ _ _ _ _ _ 55 [(4, .int x81), (5, .long y80), (0, .ref (52 + 26)), (1, .ref (52 + 1)), (2, .int e), (3, .int a)] []
          refine cw_n aj_d25 rfl rfl ?_
          refine ih x81 (w := y80) ?_ (by omega) (by omega) (by omega)
          rw [ey80, ey77, ey79]
          exact cw_wok_s hk (by omega) (by omega)
        · have q76 : x75.toInt = (0 : Int) := aw_t_ne (a := x75.toInt) (b := (0 : Int)) rfl rfl q76
          refine cw_n aj_d25 rfl rfl ?_
          refine cw_n aj_d25 rfl rfl ?_
          refine cw_ld (i := 1) htb.1 aj_d25 (Or.inr (Or.inl ⟨rfl, rfl⟩)) rfl a70 (a := x.toInt) rfl (by omega) (by omega) (fun x82 ex82 => ?_)
          have b82 : 0 ≤ x82.toInt ∧ x82.toInt ≤ 65535 := by
            rw [ex82]
            exact p70c _ (by omega)
          refine cw_ks0 (con' := cw_n26) aj_d25 hT74 rfl rfl rfl [_] rfl rfl (Nat.le_of_ble_eq_true rfl) ⟨by decide, by decide⟩ (cw_isDigit htb hT74 (by omega) x82) ?_
          rintro _ h83 hT84 ⟨rfl, x85, rfl, hbx85⟩ _
          show cw_W _ _ _ _ _ _ _ _ _ _ 36 [(4, .int x), (5, .long w), (0, .ref (52 + 26)), (1, .ref (52 + 1)), (2, .int e), (3, .int a)] [.int x85]
          refine cw_z (tgt := 58) aj_d25 rfl rfl (fun q86 => ?_) (fun q86 => ?_)
          · have q86 : x85.toInt = (0 : Int) := aw_t_eq (a := x85.toInt) (b := (0 : Int)) rfl rfl q86
            exact cw_scanName_x45 htb hT84 hB hd hW ha he hk h1 (by omega)
          · have q86 : x85.toInt ≠ (0 : Int) := aw_t_eq (a := x85.toInt) (b := (0 : Int)) rfl rfl q86
            have hcc : 48 ≤ x82.toInt ∧ x82.toInt ≤ 122 := by
              rcases hbx85 with z | z <;> omega
            refine cw_n aj_d25 rfl rfl ?_
            refine cw_n aj_d25 rfl rfl ?_
            refine cw_anyl aj_d25 rfl rfl (fun y87 ey87 => ?_)
            refine cw_n aj_d25 rfl rfl ?_
            refine cw_n aj_d25 rfl rfl ?_
            refine cw_ld (i := 1) htb.1 aj_d25 (Or.inr (Or.inl ⟨rfl, rfl⟩)) rfl a70 (a := x.toInt) rfl (by omega) (by omega) (fun x88 ex88 => ?_)
            have b88 : 0 ≤ x88.toInt ∧ x88.toInt ≤ 65535 := by
              rw [ex88]
              exact p70c _ (by omega)
            have hx88 : 48 ≤ x88.toInt ∧ x88.toInt ≤ 122 := by
              have hz : x88 = x82 := by rw [ex88, ex82]
              rw [hz]
              exact hcc
            refine cw_anyl aj_d25 rfl rfl (fun y89 ey89 => ?_)
            refine cw_anyl aj_d25 rfl rfl (fun y90 ey90 => ?_)
            refine cw_n aj_d25 rfl rfl ?_
            show cw_W _ _ _ _ _ _ _ _ _ _ 52 [(5, .long y90), (4, .int x), (0, .ref (52 + 26)), (1, .ref (52 + 1)), (2, .int e), (3, .int a)] []
            refine cw_inc aj_d25 rfl rfl (a := x.toInt) rfl (by omega) (by omega) (by decide) (by decide) (fun x91 ex91 => ?_)
            show cw_W _ _ _ _ _ _ _ _ _ _ 55 [(4, .int x91), (5, .long y90), (0, .ref (52 + 26)), (1, .ref (52 + 1)), (2, .int e), (3, .int a)] []
            refine cw_n aj_d25 rfl rfl ?_
            refine ih x91 (w := y90) ?_ (by omega) (by omega) (by omega)
            rw [ey90, ey87, ey89]
            exact cw_wok_s hk (by omega) (by omega)
theorem cw_scanName_f (htb : ak_tbOK ak_C0 tb) (hT : ak_Ty ak_C0 s h) (hB : cw_B s) (hd : 2 ≤ d) (hW : cw_wds (cw_o h)) {kc ks : Nat} {a e : Int32} (ha : 0 ≤ a.toInt) (he : e.toInt ≤ 4000) {x : Int32} {w : Int64} (hk : cw_wok w) (h1 : a.toInt ≤ x.toInt) (h2 : x.toInt ≤ 4000) : cw_W ak_C0 (fun s' _ h' => s' = s ∧ cw_ex [26, 27, 28, 29] (cw_o h) (cw_o h') ∧ cw_wds (cw_o h')) tb d aj_m25 cw_n25 s h kc ks 6 [(5, .long w), (4, .int x), (0, .ref (52 + 26)), (1, .ref (52 + 1)), (2, .int e), (3, .int a)] [] := by
  refine cw_n aj_d25 rfl rfl ?_
  refine cw_n aj_d25 rfl rfl ?_
  refine cw_c (tgt := 58) aj_d25 rfl rfl (fun q93 => ?_) (fun q93 => ?_)
  · have q93 : x.toInt ≥ e.toInt := aw_t_ge (a := x.toInt) (b := e.toInt) rfl rfl q93
    exact cw_scanName_x54 htb hT hB hd hW ha he hk h1 (by omega)
  · have q93 : x.toInt < e.toInt := aw_t_ge (a := x.toInt) (b := e.toInt) rfl rfl q93
    refine cw_n aj_d25 rfl rfl ?_
    refine cw_n aj_d25 rfl rfl ?_
    obtain ⟨n95, z95, a95, p95l, p95r, p95⟩ := cw_tyA (i := 1) (t := 64) (kd := 3) (n1 := 4000) (n2 := 4000) (y := (.inl (0, 65535))) hT (cw_s0 hB rfl) rfl
    obtain rfl : n95 = 4000 := Nat.le_antisymm p95r p95l
    obtain ⟨fn95, rfl, p95c⟩ := cw_xi p95
    refine cw_alen (i := 1) htb.1 aj_d25 rfl a95 (by decide) (by omega) (fun x94 ex94 => ?_)
    refine cw_c (tgt := 58) aj_d25 rfl rfl (fun q96 => ?_) (fun q96 => ?_)
    · have q96 : x.toInt ≥ (4000 : Int) := aw_t_ge (a := x.toInt) (b := (4000 : Int)) rfl ex94 q96
      exact cw_scanName_x54 htb hT hB hd hW ha he hk h1 (by omega)
    · have q96 : x.toInt < (4000 : Int) := aw_t_ge (a := x.toInt) (b := (4000 : Int)) rfl ex94 q96
      refine cw_n aj_d25 rfl rfl ?_
      refine cw_n aj_d25 rfl rfl ?_
      refine cw_ld (i := 1) htb.1 aj_d25 (Or.inr (Or.inl ⟨rfl, rfl⟩)) rfl a95 (a := x.toInt) rfl (by omega) (by omega) (fun x97 ex97 => ?_)
      have b97 : 0 ≤ x97.toInt ∧ x97.toInt ≤ 65535 := by
        rw [ex97]
        exact p95c _ (by omega)
      refine cw_ks0 (con' := cw_n24) aj_d25 hT rfl rfl rfl [_] rfl rfl (Nat.le_of_ble_eq_true rfl) ⟨by decide, by decide⟩ (cw_isLetter htb hT (by omega) x97) ?_
      rintro _ h98 hT99 ⟨rfl, x100, rfl, hbx100⟩ _
      show cw_W _ _ _ _ _ _ _ _ _ _ 26 [(5, .long w), (4, .int x), (0, .ref (52 + 26)), (1, .ref (52 + 1)), (2, .int e), (3, .int a)] [.int x100]
      refine cw_z (tgt := 39) aj_d25 rfl rfl (fun q101 => ?_) (fun q101 => ?_)
      · have q101 : x100.toInt ≠ (0 : Int) := aw_t_ne (a := x100.toInt) (b := (0 : Int)) rfl rfl q101
        have hcc : 48 ≤ x97.toInt ∧ x97.toInt ≤ 122 := by
          rcases hbx100 with z | z <;> omega
        refine cw_n aj_d25 rfl rfl ?_
        refine cw_n aj_d25 rfl rfl ?_
        refine cw_anyl aj_d25 rfl rfl (fun y102 ey102 => ?_)
        refine cw_n aj_d25 rfl rfl ?_
        refine cw_n aj_d25 rfl rfl ?_
        refine cw_ld (i := 1) htb.1 aj_d25 (Or.inr (Or.inl ⟨rfl, rfl⟩)) rfl a95 (a := x.toInt) rfl (by omega) (by omega) (fun x103 ex103 => ?_)
        have b103 : 0 ≤ x103.toInt ∧ x103.toInt ≤ 65535 := by
          rw [ex103]
          exact p95c _ (by omega)
        have hx103 : 48 ≤ x103.toInt ∧ x103.toInt ≤ 122 := by
          have hz : x103 = x97 := by rw [ex103, ex97]
          rw [hz]
          exact hcc
        refine cw_anyl aj_d25 rfl rfl (fun y104 ey104 => ?_)
        refine cw_anyl aj_d25 rfl rfl (fun y105 ey105 => ?_)
        refine cw_n aj_d25 rfl rfl ?_
        show cw_W _ _ _ _ _ _ _ _ _ _ 52 [(5, .long y105), (4, .int x), (0, .ref (52 + 26)), (1, .ref (52 + 1)), (2, .int e), (3, .int a)] []
        refine cw_inc aj_d25 rfl rfl (a := x.toInt) rfl (by omega) (by omega) (by decide) (by decide) (fun x106 ex106 => ?_)
        show cw_W _ _ _ _ _ _ _ _ _ _ 55 [(4, .int x106), (5, .long y105), (0, .ref (52 + 26)), (1, .ref (52 + 1)), (2, .int e), (3, .int a)] []
        refine cw_n aj_d25 rfl rfl ?_
        refine cw_scanName_l htb hT hB hd hW ha he 4000 x106 (w := y105) ?_ (by omega) (by omega) (by omega)
        rw [ey105, ey102, ey104]
        exact cw_wok_s hk (by omega) (by omega)
      · have q101 : x100.toInt = (0 : Int) := aw_t_ne (a := x100.toInt) (b := (0 : Int)) rfl rfl q101
        refine cw_n aj_d25 rfl rfl ?_
        refine cw_n aj_d25 rfl rfl ?_
        refine cw_ld (i := 1) htb.1 aj_d25 (Or.inr (Or.inl ⟨rfl, rfl⟩)) rfl a95 (a := x.toInt) rfl (by omega) (by omega) (fun x107 ex107 => ?_)
        have b107 : 0 ≤ x107.toInt ∧ x107.toInt ≤ 65535 := by
          rw [ex107]
          exact p95c _ (by omega)
        refine cw_ks0 (con' := cw_n26) aj_d25 hT99 rfl rfl rfl [_] rfl rfl (Nat.le_of_ble_eq_true rfl) ⟨by decide, by decide⟩ (cw_isDigit htb hT99 (by omega) x107) ?_
        rintro _ h108 hT109 ⟨rfl, x110, rfl, hbx110⟩ _
        show cw_W _ _ _ _ _ _ _ _ _ _ 36 [(5, .long w), (4, .int x), (0, .ref (52 + 26)), (1, .ref (52 + 1)), (2, .int e), (3, .int a)] [.int x110]
        refine cw_z (tgt := 58) aj_d25 rfl rfl (fun q111 => ?_) (fun q111 => ?_)
        · have q111 : x110.toInt = (0 : Int) := aw_t_eq (a := x110.toInt) (b := (0 : Int)) rfl rfl q111
          exact cw_scanName_x54 htb hT109 hB hd hW ha he hk h1 (by omega)
        · have q111 : x110.toInt ≠ (0 : Int) := aw_t_eq (a := x110.toInt) (b := (0 : Int)) rfl rfl q111
          have hcc : 48 ≤ x107.toInt ∧ x107.toInt ≤ 122 := by
            rcases hbx110 with z | z <;> omega
          refine cw_n aj_d25 rfl rfl ?_
          refine cw_n aj_d25 rfl rfl ?_
          refine cw_anyl aj_d25 rfl rfl (fun y112 ey112 => ?_)
          refine cw_n aj_d25 rfl rfl ?_
          refine cw_n aj_d25 rfl rfl ?_
          refine cw_ld (i := 1) htb.1 aj_d25 (Or.inr (Or.inl ⟨rfl, rfl⟩)) rfl a95 (a := x.toInt) rfl (by omega) (by omega) (fun x113 ex113 => ?_)
          have b113 : 0 ≤ x113.toInt ∧ x113.toInt ≤ 65535 := by
            rw [ex113]
            exact p95c _ (by omega)
          have hx113 : 48 ≤ x113.toInt ∧ x113.toInt ≤ 122 := by
            have hz : x113 = x107 := by rw [ex113, ex107]
            rw [hz]
            exact hcc
          refine cw_anyl aj_d25 rfl rfl (fun y114 ey114 => ?_)
          refine cw_anyl aj_d25 rfl rfl (fun y115 ey115 => ?_)
          refine cw_n aj_d25 rfl rfl ?_
          show cw_W _ _ _ _ _ _ _ _ _ _ 52 [(5, .long y115), (4, .int x), (0, .ref (52 + 26)), (1, .ref (52 + 1)), (2, .int e), (3, .int a)] []
          refine cw_inc aj_d25 rfl rfl (a := x.toInt) rfl (by omega) (by omega) (by decide) (by decide) (fun x116 ex116 => ?_)
          show cw_W _ _ _ _ _ _ _ _ _ _ 55 [(4, .int x116), (5, .long y115), (0, .ref (52 + 26)), (1, .ref (52 + 1)), (2, .int e), (3, .int a)] []
          refine cw_n aj_d25 rfl rfl ?_
          refine cw_scanName_l htb hT hB hd hW ha he 4000 x116 (w := y115) ?_ (by omega) (by omega) (by omega)
          rw [ey115, ey112, ey114]
          exact cw_wok_s hk (by omega) (by omega)
theorem cw_scanName (htb : ak_tbOK ak_C0 tb) (hT : ak_Ty ak_C0 s h) (hB : cw_B s) (hd : 3 ≤ d) (hW : cw_wds (cw_o h)) {a e : Int32} (ha : 0 ≤ a.toInt) (ha2 : a.toInt ≤ 4000) (he : e.toInt ≤ 4000) : cw_K ak_C0 (fun s' _ h' => s' = s ∧ cw_ex [26, 27, 28, 29] (cw_o h) (cw_o h') ∧ cw_wds (cw_o h')) tb d cw_n25 [.ref (52 + 26), .ref (52 + 1), .int e, .int a] s h := by
  obtain ⟨d, rfl⟩ : ∃ e, d = e + 1 := ⟨d - 1, by omega⟩
  refine cw_m (con := cw_n25) aj_m25_at (Nat.le_of_ble_eq_true rfl) ?_
  show cw_W _ _ _ _ _ _ _ _ _ _ 0 [(0, .ref (52 + 26)), (1, .ref (52 + 1)), (2, .int e), (3, .int a)] []
  refine cw_n aj_d25 rfl rfl ?_
  refine cw_n aj_d25 rfl rfl ?_
  show cw_W _ _ _ _ _ _ _ _ _ _ 3 [(4, .int a), (0, .ref (52 + 26)), (1, .ref (52 + 1)), (2, .int e), (3, .int a)] []
  refine cw_anyl aj_d25 rfl rfl (fun y117 ey117 => ?_)
  refine cw_n aj_d25 rfl rfl ?_
  show cw_W _ _ _ _ _ _ _ _ _ _ 6 [(5, .long y117), (4, .int a), (0, .ref (52 + 26)), (1, .ref (52 + 1)), (2, .int e), (3, .int a)] []
  exact cw_scanName_f htb hT hB (by omega) hW ha he (by rw [ey117]; exact cw_wok0) (Int.le_refl _) (by omega)
theorem cw_scanNumber_x45 (htb : ak_tbOK ak_C0 tb) (hT : ak_Ty ak_C0 s h) (hB : cw_B s) (hd : 2 ≤ d) (hW : cw_wds (cw_o h)) {kc ks : Nat} {a e : Int32} (ha : 0 ≤ a.toInt) (he : e.toInt ≤ 4000) {x : Int32} {w : Int64} (hk : x.toInt - a.toInt ≤ 4 → 0 ≤ w.toInt ∧ w.toInt < 10 ^ (x.toInt - a.toInt).toNat) (h1 : a.toInt ≤ x.toInt) (h2 : x.toInt ≤ 4000) : cw_W ak_C0 (fun s' _ h' => s' = s ∧ cw_ex [26, 27, 28, 29] (cw_o h) (cw_o h') ∧ cw_wds (cw_o h')) tb d aj_m29 cw_n29 s h kc ks 52 [(4, .int x), (5, .long w), (0, .ref (52 + 26)), (1, .ref (52 + 1)), (2, .int e), (3, .int a)] [] := by
  refine cw_n aj_d29 rfl rfl ?_
  refine cw_n aj_d29 rfl rfl ?_
  refine cw_sub aj_d29 rfl (a := x.toInt) (b := a.toInt) rfl rfl (by omega) (by omega) (fun x118 ex118 => ?_)
  refine cw_n aj_d29 rfl rfl ?_
  refine cw_c (tgt := 69) aj_d29 rfl rfl (fun q119 => ?_) (fun q119 => ?_)
  · have q119 : x118.toInt ≤ (4 : Int) := aw_t_le (a := x118.toInt) (b := (4 : Int)) rfl rfl q119
    have hwr : 0 ≤ w.toInt32.toInt ∧ w.toInt32.toInt ≤ 2139095039 := cw_num_f hk (by omega) (by omega)
    refine cw_n aj_d29 rfl rfl ?_
    refine cw_n aj_d29 rfl rfl ?_
    refine cw_n aj_d29 rfl rfl ?_
    refine cw_n aj_d29 rfl rfl ?_
    refine cw_k0 (i := 26) (t := 60) (con' := cw_n27) aj_d29 htb hT rfl rfl [_, _, _] rfl rfl (cw_s0 hB rfl) rfl (Nat.le_of_ble_eq_true rfl) ⟨by decide, by decide⟩ (cw_tadd htb hT hB (by omega) hW (Int32.ofInt 4) a w hwr) ?_
    rintro _ h120 hT121 ⟨rfl, hx, hw⟩ _
    show cw_W _ _ _ _ _ _ _ _ _ _ 77 [(4, .int x), (5, .long w), (0, .ref (52 + 26)), (1, .ref (52 + 1)), (2, .int e), (3, .int a)] []
    refine cw_n aj_d29 rfl rfl ?_
    refine cw_Wr aj_d29 rfl rfl hT121 ?_ ?_
    · exact ⟨rfl, (cw_ex_tr cw_ex_rf hx), hw⟩
    · exact cw_gw (s := s) (a := _) rfl (by omega) (by omega)
  · have q119 : x118.toInt > (4 : Int) := aw_t_le (a := x118.toInt) (b := (4 : Int)) rfl rfl q119
    refine cw_n aj_d29 rfl rfl ?_
    refine cw_n aj_d29 rfl rfl ?_
    refine cw_n aj_d29 rfl rfl ?_
    refine cw_anyl aj_d29 rfl rfl (fun y122 ey122 => ?_)
    refine cw_k0 (i := 26) (t := 60) (con' := cw_n27) aj_d29 htb hT rfl rfl [_, _, _] rfl rfl (cw_s0 hB rfl) rfl (Nat.le_of_ble_eq_true rfl) ⟨by decide, by decide⟩ (cw_tadd htb hT hB (by omega) hW (Int32.ofInt 2) a y122 (by rw [ey122]; decide)) ?_
    rintro _ h123 hT124 ⟨rfl, hx, hw⟩ _
    show cw_W _ _ _ _ _ _ _ _ _ _ 67 [(4, .int x), (5, .long w), (0, .ref (52 + 26)), (1, .ref (52 + 1)), (2, .int e), (3, .int a)] []
    refine cw_n aj_d29 rfl rfl ?_
    refine cw_Wr aj_d29 rfl rfl hT124 ?_ ?_
    · exact ⟨rfl, (cw_ex_tr cw_ex_rf hx), hw⟩
    · exact cw_gw (s := s) (a := _) rfl (by omega) (by omega)
theorem cw_scanNumber_x54 (htb : ak_tbOK ak_C0 tb) (hT : ak_Ty ak_C0 s h) (hB : cw_B s) (hd : 2 ≤ d) (hW : cw_wds (cw_o h)) {kc ks : Nat} {a e : Int32} (ha : 0 ≤ a.toInt) (he : e.toInt ≤ 4000) {x : Int32} {w : Int64} (hk : x.toInt - a.toInt ≤ 4 → 0 ≤ w.toInt ∧ w.toInt < 10 ^ (x.toInt - a.toInt).toNat) (h1 : a.toInt ≤ x.toInt) (h2 : x.toInt ≤ 4000) : cw_W ak_C0 (fun s' _ h' => s' = s ∧ cw_ex [26, 27, 28, 29] (cw_o h) (cw_o h') ∧ cw_wds (cw_o h')) tb d aj_m29 cw_n29 s h kc ks 52 [(5, .long w), (4, .int x), (0, .ref (52 + 26)), (1, .ref (52 + 1)), (2, .int e), (3, .int a)] [] := by
  refine cw_n aj_d29 rfl rfl ?_
  refine cw_n aj_d29 rfl rfl ?_
  refine cw_sub aj_d29 rfl (a := x.toInt) (b := a.toInt) rfl rfl (by omega) (by omega) (fun x125 ex125 => ?_)
  refine cw_n aj_d29 rfl rfl ?_
  refine cw_c (tgt := 69) aj_d29 rfl rfl (fun q126 => ?_) (fun q126 => ?_)
  · have q126 : x125.toInt ≤ (4 : Int) := aw_t_le (a := x125.toInt) (b := (4 : Int)) rfl rfl q126
    have hwr : 0 ≤ w.toInt32.toInt ∧ w.toInt32.toInt ≤ 2139095039 := cw_num_f hk (by omega) (by omega)
    refine cw_n aj_d29 rfl rfl ?_
    refine cw_n aj_d29 rfl rfl ?_
    refine cw_n aj_d29 rfl rfl ?_
    refine cw_n aj_d29 rfl rfl ?_
    refine cw_k0 (i := 26) (t := 60) (con' := cw_n27) aj_d29 htb hT rfl rfl [_, _, _] rfl rfl (cw_s0 hB rfl) rfl (Nat.le_of_ble_eq_true rfl) ⟨by decide, by decide⟩ (cw_tadd htb hT hB (by omega) hW (Int32.ofInt 4) a w hwr) ?_
    rintro _ h127 hT128 ⟨rfl, hx, hw⟩ _
    show cw_W _ _ _ _ _ _ _ _ _ _ 77 [(5, .long w), (4, .int x), (0, .ref (52 + 26)), (1, .ref (52 + 1)), (2, .int e), (3, .int a)] []
    refine cw_n aj_d29 rfl rfl ?_
    refine cw_Wr aj_d29 rfl rfl hT128 ?_ ?_
    · exact ⟨rfl, (cw_ex_tr cw_ex_rf hx), hw⟩
    · exact cw_gw (s := s) (a := _) rfl (by omega) (by omega)
  · have q126 : x125.toInt > (4 : Int) := aw_t_le (a := x125.toInt) (b := (4 : Int)) rfl rfl q126
    refine cw_n aj_d29 rfl rfl ?_
    refine cw_n aj_d29 rfl rfl ?_
    refine cw_n aj_d29 rfl rfl ?_
    refine cw_anyl aj_d29 rfl rfl (fun y129 ey129 => ?_)
    refine cw_k0 (i := 26) (t := 60) (con' := cw_n27) aj_d29 htb hT rfl rfl [_, _, _] rfl rfl (cw_s0 hB rfl) rfl (Nat.le_of_ble_eq_true rfl) ⟨by decide, by decide⟩ (cw_tadd htb hT hB (by omega) hW (Int32.ofInt 2) a y129 (by rw [ey129]; decide)) ?_
    rintro _ h130 hT131 ⟨rfl, hx, hw⟩ _
    show cw_W _ _ _ _ _ _ _ _ _ _ 67 [(5, .long w), (4, .int x), (0, .ref (52 + 26)), (1, .ref (52 + 1)), (2, .int e), (3, .int a)] []
    refine cw_n aj_d29 rfl rfl ?_
    refine cw_Wr aj_d29 rfl rfl hT131 ?_ ?_
    · exact ⟨rfl, (cw_ex_tr cw_ex_rf hx), hw⟩
    · exact cw_gw (s := s) (a := _) rfl (by omega) (by omega)
theorem cw_scanNumber_l (htb : ak_tbOK ak_C0 tb) (hT : ak_Ty ak_C0 s h) (hB : cw_B s) (hd : 2 ≤ d) (hW : cw_wds (cw_o h)) {kc ks : Nat} {a e : Int32} (ha : 0 ≤ a.toInt) (he : e.toInt ≤ 4000) : ∀ (g : Nat) (x : Int32) {w : Int64} (hk : x.toInt - a.toInt ≤ 4 → 0 ≤ w.toInt ∧ w.toInt < 10 ^ (x.toInt - a.toInt).toNat) (h1 : a.toInt ≤ x.toInt) (h2 : x.toInt ≤ 4000), 4000 - x.toInt ≤ g → cw_W ak_C0 (fun s' _ h' => s' = s ∧ cw_ex [26, 27, 28, 29] (cw_o h) (cw_o h') ∧ cw_wds (cw_o h')) tb d aj_m29 cw_n29 s h kc ks 6 [(4, .int x), (5, .long w), (0, .ref (52 + 26)), (1, .ref (52 + 1)), (2, .int e), (3, .int a)] [] := by
  intro g
  induction g with
  | zero =>
    intro x w hk h1 h2 hg
    refine cw_n aj_d29 rfl rfl ?_
    refine cw_n aj_d29 rfl rfl ?_
    refine cw_c (tgt := 52) aj_d29 rfl rfl (fun q148 => ?_) (fun q148 => ?_)
    · have q148 : x.toInt ≥ e.toInt := aw_t_ge (a := x.toInt) (b := e.toInt) rfl rfl q148
      exact cw_scanNumber_x45 htb hT hB hd hW ha he hk h1 (by omega)
    · have q148 : x.toInt < e.toInt := aw_t_ge (a := x.toInt) (b := e.toInt) rfl rfl q148
      exfalso
      omega
  | succ g ih =>
    intro x w hk h1 h2 hg
    refine cw_n aj_d29 rfl rfl ?_
    refine cw_n aj_d29 rfl rfl ?_
    refine cw_c (tgt := 52) aj_d29 rfl rfl (fun q132 => ?_) (fun q132 => ?_)
    · have q132 : x.toInt ≥ e.toInt := aw_t_ge (a := x.toInt) (b := e.toInt) rfl rfl q132
      exact cw_scanNumber_x45 htb hT hB hd hW ha he hk h1 (by omega)
    · have q132 : x.toInt < e.toInt := aw_t_ge (a := x.toInt) (b := e.toInt) rfl rfl q132
      refine cw_n aj_d29 rfl rfl ?_
      refine cw_n aj_d29 rfl rfl ?_
      obtain ⟨n134, z134, a134, p134l, p134r, p134⟩ := cw_tyA (i := 1) (t := 64) (kd := 3) (n1 := 4000) (n2 := 4000) (y := (.inl (0, 65535))) hT (cw_s0 hB rfl) rfl
      obtain rfl : n134 = 4000 := Nat.le_antisymm p134r p134l
      obtain ⟨fn134, rfl, p134c⟩ := cw_xi p134
      refine cw_alen (i := 1) htb.1 aj_d29 rfl a134 (by decide) (by omega) (fun x133 ex133 => ?_)
      refine cw_c (tgt := 52) aj_d29 rfl rfl (fun q135 => ?_) (fun q135 => ?_)
      · have q135 : x.toInt ≥ (4000 : Int) := aw_t_ge (a := x.toInt) (b := (4000 : Int)) rfl ex133 q135
        exact cw_scanNumber_x45 htb hT hB hd hW ha he hk h1 (by omega)
      · have q135 : x.toInt < (4000 : Int) := aw_t_ge (a := x.toInt) (b := (4000 : Int)) rfl ex133 q135
        refine cw_n aj_d29 rfl rfl ?_
        refine cw_n aj_d29 rfl rfl ?_
        refine cw_ld (i := 1) htb.1 aj_d29 (Or.inr (Or.inl ⟨rfl, rfl⟩)) rfl a134 (a := x.toInt) rfl (by omega) (by omega) (fun x136 ex136 => ?_)
        have b136 : 0 ≤ x136.toInt ∧ x136.toInt ≤ 65535 := by
          rw [ex136]
          exact p134c _ (by omega)
        refine cw_ks0 (con' := cw_n26) aj_d29 hT rfl rfl rfl [_] rfl rfl (Nat.le_of_ble_eq_true rfl) ⟨by decide, by decide⟩ (cw_isDigit htb hT (by omega) x136) ?_
        rintro _ h137 hT138 ⟨rfl, x139, rfl, hbx139⟩ _
        show cw_W _ _ _ _ _ _ _ _ _ _ 26 [(4, .int x), (5, .long w), (0, .ref (52 + 26)), (1, .ref (52 + 1)), (2, .int e), (3, .int a)] [.int x139]
        refine cw_z (tgt := 52) aj_d29 rfl rfl (fun q140 => ?_) (fun q140 => ?_)
        · have q140 : x139.toInt = (0 : Int) := aw_t_eq (a := x139.toInt) (b := (0 : Int)) rfl rfl q140
          exact cw_scanNumber_x45 htb hT138 hB hd hW ha he hk h1 (by omega)
        · have q140 : x139.toInt ≠ (0 : Int) := aw_t_eq (a := x139.toInt) (b := (0 : Int)) rfl rfl q140
          have hcc : 48 ≤ x136.toInt ∧ x136.toInt ≤ 57 := by
            rcases hbx139 with z | z <;> omega
          refine cw_n aj_d29 rfl rfl ?_
          refine cw_anyl aj_d29 rfl rfl (fun y141 ey141 => ?_)
          refine cw_anyl aj_d29 rfl rfl (fun y142 ey142 => ?_)
          refine cw_n aj_d29 rfl rfl ?_
          refine cw_n aj_d29 rfl rfl ?_
          refine cw_ld (i := 1) htb.1 aj_d29 (Or.inr (Or.inl ⟨rfl, rfl⟩)) rfl a134 (a := x.toInt) rfl (by omega) (by omega) (fun x143 ex143 => ?_)
          have b143 : 0 ≤ x143.toInt ∧ x143.toInt ≤ 65535 := by
            rw [ex143]
            exact p134c _ (by omega)
          have hx143 : 48 ≤ x143.toInt ∧ x143.toInt ≤ 57 := by
            have hz : x143 = x136 := by rw [ex143, ex136]
            rw [hz]
            exact hcc
          refine cw_n aj_d29 rfl rfl ?_
          refine cw_sub aj_d29 rfl (a := x143.toInt) (b := (48 : Int)) rfl rfl (by omega) (by omega) (fun x144 ex144 => ?_)
          refine cw_anyl aj_d29 rfl rfl (fun y145 ey145 => ?_)
          refine cw_anyl aj_d29 rfl rfl (fun y146 ey146 => ?_)
          refine cw_n aj_d29 rfl rfl ?_
          show cw_W _ _ _ _ _ _ _ _ _ _ 46 [(5, .long y146), (4, .int x), (0, .ref (52 + 26)), (1, .ref (52 + 1)), (2, .int e), (3, .int a)] []
          refine cw_inc aj_d29 rfl rfl (a := x.toInt) rfl (by omega) (by omega) (by decide) (by decide) (fun x147 ex147 => ?_)
          show cw_W _ _ _ _ _ _ _ _ _ _ 49 [(4, .int x147), (5, .long y146), (0, .ref (52 + 26)), (1, .ref (52 + 1)), (2, .int e), (3, .int a)] []
          refine cw_n aj_d29 rfl rfl ?_
          refine ih x147 (w := y146) ?_ (by omega) (by omega) (by omega)
          intro hle
          have hk := hk (by omega)
          rw [ey146, ey142, ey145]
          exact cw_num_l hk (by rw [ey141]; decide) ex144 (by omega) (by omega) (by omega) (by omega)
theorem cw_scanNumber_f (htb : ak_tbOK ak_C0 tb) (hT : ak_Ty ak_C0 s h) (hB : cw_B s) (hd : 2 ≤ d) (hW : cw_wds (cw_o h)) {kc ks : Nat} {a e : Int32} (ha : 0 ≤ a.toInt) (he : e.toInt ≤ 4000) {x : Int32} {w : Int64} (hk : x.toInt - a.toInt ≤ 4 → 0 ≤ w.toInt ∧ w.toInt < 10 ^ (x.toInt - a.toInt).toNat) (h1 : a.toInt ≤ x.toInt) (h2 : x.toInt ≤ 4000) : cw_W ak_C0 (fun s' _ h' => s' = s ∧ cw_ex [26, 27, 28, 29] (cw_o h) (cw_o h') ∧ cw_wds (cw_o h')) tb d aj_m29 cw_n29 s h kc ks 6 [(5, .long w), (4, .int x), (0, .ref (52 + 26)), (1, .ref (52 + 1)), (2, .int e), (3, .int a)] [] := by
  refine cw_n aj_d29 rfl rfl ?_
  refine cw_n aj_d29 rfl rfl ?_
  refine cw_c (tgt := 52) aj_d29 rfl rfl (fun q149 => ?_) (fun q149 => ?_)
  · have q149 : x.toInt ≥ e.toInt := aw_t_ge (a := x.toInt) (b := e.toInt) rfl rfl q149
    exact cw_scanNumber_x54 htb hT hB hd hW ha he hk h1 (by omega)
  · have q149 : x.toInt < e.toInt := aw_t_ge (a := x.toInt) (b := e.toInt) rfl rfl q149
    refine cw_n aj_d29 rfl rfl ?_
    refine cw_n aj_d29 rfl rfl ?_
    obtain ⟨n151, z151, a151, p151l, p151r, p151⟩ := cw_tyA (i := 1) (t := 64) (kd := 3) (n1 := 4000) (n2 := 4000) (y := (.inl (0, 65535))) hT (cw_s0 hB rfl) rfl
    obtain rfl : n151 = 4000 := Nat.le_antisymm p151r p151l
    obtain ⟨fn151, rfl, p151c⟩ := cw_xi p151
    refine cw_alen (i := 1) htb.1 aj_d29 rfl a151 (by decide) (by omega) (fun x150 ex150 => ?_)
    refine cw_c (tgt := 52) aj_d29 rfl rfl (fun q152 => ?_) (fun q152 => ?_)
    · have q152 : x.toInt ≥ (4000 : Int) := aw_t_ge (a := x.toInt) (b := (4000 : Int)) rfl ex150 q152
      exact cw_scanNumber_x54 htb hT hB hd hW ha he hk h1 (by omega)
    · have q152 : x.toInt < (4000 : Int) := aw_t_ge (a := x.toInt) (b := (4000 : Int)) rfl ex150 q152
      refine cw_n aj_d29 rfl rfl ?_
      refine cw_n aj_d29 rfl rfl ?_
      refine cw_ld (i := 1) htb.1 aj_d29 (Or.inr (Or.inl ⟨rfl, rfl⟩)) rfl a151 (a := x.toInt) rfl (by omega) (by omega) (fun x153 ex153 => ?_)
      have b153 : 0 ≤ x153.toInt ∧ x153.toInt ≤ 65535 := by
        rw [ex153]
        exact p151c _ (by omega)
      refine cw_ks0 (con' := cw_n26) aj_d29 hT rfl rfl rfl [_] rfl rfl (Nat.le_of_ble_eq_true rfl) ⟨by decide, by decide⟩ (cw_isDigit htb hT (by omega) x153) ?_
      rintro _ h154 hT155 ⟨rfl, x156, rfl, hbx156⟩ _
      show cw_W _ _ _ _ _ _ _ _ _ _ 26 [(5, .long w), (4, .int x), (0, .ref (52 + 26)), (1, .ref (52 + 1)), (2, .int e), (3, .int a)] [.int x156]
      refine cw_z (tgt := 52) aj_d29 rfl rfl (fun q157 => ?_) (fun q157 => ?_)
      · have q157 : x156.toInt = (0 : Int) := aw_t_eq (a := x156.toInt) (b := (0 : Int)) rfl rfl q157
        exact cw_scanNumber_x54 htb hT155 hB hd hW ha he hk h1 (by omega)
      · have q157 : x156.toInt ≠ (0 : Int) := aw_t_eq (a := x156.toInt) (b := (0 : Int)) rfl rfl q157
        have hcc : 48 ≤ x153.toInt ∧ x153.toInt ≤ 57 := by
          rcases hbx156 with z | z <;> omega
        refine cw_n aj_d29 rfl rfl ?_
        refine cw_anyl aj_d29 rfl rfl (fun y158 ey158 => ?_)
        refine cw_anyl aj_d29 rfl rfl (fun y159 ey159 => ?_)
        refine cw_n aj_d29 rfl rfl ?_
        refine cw_n aj_d29 rfl rfl ?_
        refine cw_ld (i := 1) htb.1 aj_d29 (Or.inr (Or.inl ⟨rfl, rfl⟩)) rfl a151 (a := x.toInt) rfl (by omega) (by omega) (fun x160 ex160 => ?_)
        have b160 : 0 ≤ x160.toInt ∧ x160.toInt ≤ 65535 := by
          rw [ex160]
          exact p151c _ (by omega)
        have hx160 : 48 ≤ x160.toInt ∧ x160.toInt ≤ 57 := by
          have hz : x160 = x153 := by rw [ex160, ex153]
          rw [hz]
          exact hcc
        refine cw_n aj_d29 rfl rfl ?_
        refine cw_sub aj_d29 rfl (a := x160.toInt) (b := (48 : Int)) rfl rfl (by omega) (by omega) (fun x161 ex161 => ?_)
        refine cw_anyl aj_d29 rfl rfl (fun y162 ey162 => ?_)
        refine cw_anyl aj_d29 rfl rfl (fun y163 ey163 => ?_)
        refine cw_n aj_d29 rfl rfl ?_
        show cw_W _ _ _ _ _ _ _ _ _ _ 46 [(5, .long y163), (4, .int x), (0, .ref (52 + 26)), (1, .ref (52 + 1)), (2, .int e), (3, .int a)] []
        refine cw_inc aj_d29 rfl rfl (a := x.toInt) rfl (by omega) (by omega) (by decide) (by decide) (fun x164 ex164 => ?_)
        show cw_W _ _ _ _ _ _ _ _ _ _ 49 [(4, .int x164), (5, .long y163), (0, .ref (52 + 26)), (1, .ref (52 + 1)), (2, .int e), (3, .int a)] []
        refine cw_n aj_d29 rfl rfl ?_
        refine cw_scanNumber_l htb hT hB hd hW ha he 4000 x164 (w := y163) ?_ (by omega) (by omega) (by omega)
        intro hle
        have hk := hk (by omega)
        rw [ey163, ey159, ey162]
        exact cw_num_l hk (by rw [ey158]; decide) ex161 (by omega) (by omega) (by omega) (by omega)
theorem cw_scanNumber (htb : ak_tbOK ak_C0 tb) (hT : ak_Ty ak_C0 s h) (hB : cw_B s) (hd : 3 ≤ d) (hW : cw_wds (cw_o h)) {a e : Int32} (ha : 0 ≤ a.toInt) (ha2 : a.toInt ≤ 4000) (he : e.toInt ≤ 4000) : cw_K ak_C0 (fun s' _ h' => s' = s ∧ cw_ex [26, 27, 28, 29] (cw_o h) (cw_o h') ∧ cw_wds (cw_o h')) tb d cw_n29 [.ref (52 + 26), .ref (52 + 1), .int e, .int a] s h := by
  obtain ⟨d, rfl⟩ : ∃ e, d = e + 1 := ⟨d - 1, by omega⟩
  refine cw_m (con := cw_n29) aj_m29_at (Nat.le_of_ble_eq_true rfl) ?_
  show cw_W _ _ _ _ _ _ _ _ _ _ 0 [(0, .ref (52 + 26)), (1, .ref (52 + 1)), (2, .int e), (3, .int a)] []
  refine cw_n aj_d29 rfl rfl ?_
  refine cw_n aj_d29 rfl rfl ?_
  show cw_W _ _ _ _ _ _ _ _ _ _ 3 [(4, .int a), (0, .ref (52 + 26)), (1, .ref (52 + 1)), (2, .int e), (3, .int a)] []
  refine cw_anyl aj_d29 rfl rfl (fun y165 ey165 => ?_)
  refine cw_n aj_d29 rfl rfl ?_
  show cw_W _ _ _ _ _ _ _ _ _ _ 6 [(5, .long y165), (4, .int a), (0, .ref (52 + 26)), (1, .ref (52 + 1)), (2, .int e), (3, .int a)] []
  refine cw_scanNumber_f htb hT hB (by omega) hW ha he (fun _ => ?_) (Int.le_refl _) (by omega)
  rw [ey165]
  exact ⟨by decide, by rw [Int.sub_self]; decide⟩
theorem cw_scanOne (htb : ak_tbOK ak_C0 tb) (hT : ak_Ty ak_C0 s h) (hB : cw_B s) (hd : 4 ≤ d) (hW : cw_wds (cw_o h)) {a e : Int32} (ha : 0 ≤ a.toInt) (ha2 : a.toInt ≤ 3999) (he : e.toInt ≤ 4000) : cw_K ak_C0 (fun s' _ h' => s' = s ∧ cw_ex [26, 27, 28, 29] (cw_o h) (cw_o h') ∧ cw_wds (cw_o h')) tb d cw_n23 [.ref (52 + 26), .ref (52 + 1), .int e, .int a] s h := by
  obtain ⟨d, rfl⟩ : ∃ e, d = e + 1 := ⟨d - 1, by omega⟩
  refine cw_m (con := cw_n23) aj_m23_at (Nat.le_of_ble_eq_true rfl) ?_
  show cw_W _ _ _ _ _ _ _ _ _ _ 0 [(0, .ref (52 + 26)), (1, .ref (52 + 1)), (2, .int e), (3, .int a)] []
  refine cw_n aj_d23 rfl rfl ?_
  refine cw_n aj_d23 rfl rfl ?_
  obtain ⟨n167, z167, a167, p167l, p167r, p167⟩ := cw_tyA (i := 1) (t := 64) (kd := 3) (n1 := 4000) (n2 := 4000) (y := (.inl (0, 65535))) hT (cw_s0 hB rfl) rfl
  obtain rfl : n167 = 4000 := Nat.le_antisymm p167r p167l
  obtain ⟨fn167, rfl, p167c⟩ := cw_xi p167
  refine cw_alen (i := 1) htb.1 aj_d23 rfl a167 (by decide) (by omega) (fun x166 ex166 => ?_)
  refine cw_c (tgt := 12) aj_d23 rfl rfl (fun q168 => ?_) (fun q168 => ?_)
  · have q168 : a.toInt ≥ (4000 : Int) := aw_t_ge (a := a.toInt) (b := (4000 : Int)) rfl ex166 q168
    exfalso
    omega
  · have q168 : a.toInt < (4000 : Int) := aw_t_ge (a := a.toInt) (b := (4000 : Int)) rfl ex166 q168
    refine cw_n aj_d23 rfl rfl ?_
    refine cw_n aj_d23 rfl rfl ?_
    refine cw_ld (i := 1) htb.1 aj_d23 (Or.inr (Or.inl ⟨rfl, rfl⟩)) rfl a167 (a := a.toInt) rfl (by omega) (by omega) (fun x169 ex169 => ?_)
    have b169 : 0 ≤ x169.toInt ∧ x169.toInt ≤ 65535 := by
      rw [ex169]
      exact p167c _ (by omega)
    refine cw_n aj_d23 rfl rfl ?_
    refine cw_n aj_d23 rfl rfl ?_
    show cw_W _ _ _ _ _ _ _ _ _ _ 15 [(4, .int x169), (0, .ref (52 + 26)), (1, .ref (52 + 1)), (2, .int e), (3, .int a)] []
    refine cw_n aj_d23 rfl rfl ?_
    refine cw_ks0 (con' := cw_n24) aj_d23 hT rfl rfl rfl [_] rfl rfl (Nat.le_of_ble_eq_true rfl) ⟨by decide, by decide⟩ (cw_isLetter htb hT (by omega) x169) ?_
    rintro _ h170 hT171 ⟨rfl, x172, rfl, hbx172⟩ _
    show cw_W _ _ _ _ _ _ _ _ _ _ 20 [(4, .int x169), (0, .ref (52 + 26)), (1, .ref (52 + 1)), (2, .int e), (3, .int a)] [.int x172]
    refine cw_z (tgt := 31) aj_d23 rfl rfl (fun q173 => ?_) (fun q173 => ?_)
    · have q173 : x172.toInt = (0 : Int) := aw_t_eq (a := x172.toInt) (b := (0 : Int)) rfl rfl q173
      refine cw_n aj_d23 rfl rfl ?_
      refine cw_ks0 (con' := cw_n26) aj_d23 hT171 rfl rfl rfl [_] rfl rfl (Nat.le_of_ble_eq_true rfl) ⟨by decide, by decide⟩ (cw_isDigit htb hT171 (by omega) x169) ?_
      rintro _ h174 hT175 ⟨rfl, x176, rfl, hbx176⟩ _
      show cw_W _ _ _ _ _ _ _ _ _ _ 36 [(4, .int x169), (0, .ref (52 + 26)), (1, .ref (52 + 1)), (2, .int e), (3, .int a)] [.int x176]
      refine cw_z (tgt := 47) aj_d23 rfl rfl (fun q177 => ?_) (fun q177 => ?_)
      · have q177 : x176.toInt = (0 : Int) := aw_t_eq (a := x176.toInt) (b := (0 : Int)) rfl rfl q177
        refine cw_n aj_d23 rfl rfl ?_
        refine cw_n aj_d23 rfl rfl ?_
        refine cw_add aj_d23 rfl (a := a.toInt) (b := (1 : Int)) rfl rfl (by omega) (by omega) (fun x178 ex178 => ?_)
        refine cw_n aj_d23 rfl rfl ?_
        refine cw_c (tgt := 70) aj_d23 rfl rfl (fun q179 => ?_) (fun q179 => ?_)
        · have q179 : x178.toInt ≥ e.toInt := aw_t_ge (a := x178.toInt) (b := e.toInt) rfl rfl q179
          refine cw_n aj_d23 rfl rfl ?_
          refine cw_n aj_d23 rfl rfl ?_
          show cw_W _ _ _ _ _ _ _ _ _ _ 73 [(5, .int (Int32.ofInt 0)), (4, .int x169), (0, .ref (52 + 26)), (1, .ref (52 + 1)), (2, .int e), (3, .int a)] []
          refine cw_n aj_d23 rfl rfl ?_
          refine cw_n aj_d23 rfl rfl ?_
          refine cw_c (tgt := 98) aj_d23 rfl rfl (fun q180 => ?_) (fun q180 => ?_)
          · have q180 : x169.toInt ≠ (46 : Int) := aw_t_ne (a := x169.toInt) (b := (46 : Int)) rfl rfl q180
            refine cw_n aj_d23 rfl rfl ?_
            refine cw_n aj_d23 rfl rfl ?_
            refine cw_c (tgt := 143) aj_d23 rfl rfl (fun q181 => ?_) (fun q181 => ?_)
            · have q181 : (0 : Int) ≠ (61 : Int) := aw_t_ne (a := (0 : Int)) (b := (61 : Int)) rfl rfl q181
              refine cw_n aj_d23 rfl rfl ?_
              refine cw_ks0 (con' := ap_c30) aj_d23 hT175 rfl rfl rfl [_] rfl rfl (Nat.le_of_ble_eq_true rfl) ⟨by decide, by decide⟩ (cw_a1 (by omega) (ap_0_30 htb (cw_SP1c _ _ rfl rfl) cw_hK) hT175 hB rfl ⟨(cw_gw (a := x169.toInt) rfl (by omega) (by omega)), trivial⟩) ?_
              rintro ru182 h182 hT182 ho182 hRu182
              obtain ⟨x183, rfl, bx183⟩ := cw_rI hRu182
              show cw_W _ _ _ _ _ _ _ _ _ _ 148 [(5, .int (Int32.ofInt 0)), (4, .int x169), (0, .ref (52 + 26)), (1, .ref (52 + 1)), (2, .int e), (3, .int a)] [.int x183]
              refine cw_z (tgt := 160) aj_d23 rfl rfl (fun q184 => ?_) (fun q184 => ?_)
              · have q184 : x183.toInt ≠ (0 : Int) := aw_t_ne (a := x183.toInt) (b := (0 : Int)) rfl rfl q184
                refine cw_n aj_d23 rfl rfl ?_
                refine cw_n aj_d23 rfl rfl ?_
                refine cw_n aj_d23 rfl rfl ?_
                refine cw_anyl aj_d23 rfl rfl (fun y185 ey185 => ?_)
                refine cw_k0 (i := 26) (t := 60) (con' := cw_n27) aj_d23 htb hT182 rfl rfl [_, _, _] rfl rfl (cw_s0 hB rfl) rfl (Nat.le_of_ble_eq_true rfl) ⟨by decide, by decide⟩ (cw_tadd htb hT182 hB (by omega) (ho182.symm ▸ hW) x169 a y185 (by rw [ey185]; decide)) ?_
                rintro _ h186 hT187 ⟨rfl, hx, hw⟩ _
                show cw_W _ _ _ _ _ _ _ _ _ _ 168 [(5, .int (Int32.ofInt 0)), (4, .int x169), (0, .ref (52 + 26)), (1, .ref (52 + 1)), (2, .int e), (3, .int a)] []
                refine cw_n aj_d23 rfl rfl ?_
                refine cw_n aj_d23 rfl rfl ?_
                refine cw_add aj_d23 rfl (a := a.toInt) (b := (1 : Int)) rfl rfl (by omega) (by omega) (fun x188 ex188 => ?_)
                refine cw_Wr aj_d23 rfl rfl hT187 ?_ ?_
                · exact ⟨rfl, (cw_ex_tr (cw_ex_of ho182) hx), hw⟩
                · exact cw_gw (s := s) (a := _) rfl (by omega) (by omega)
              · have q184 : x183.toInt = (0 : Int) := aw_t_ne (a := x183.toInt) (b := (0 : Int)) rfl rfl q184
                refine cw_n aj_d23 rfl rfl ?_
                refine cw_n aj_d23 rfl rfl ?_
                refine cw_n aj_d23 rfl rfl ?_
                refine cw_anyl aj_d23 rfl rfl (fun y189 ey189 => ?_)
                refine cw_k0 (i := 26) (t := 60) (con' := cw_n27) aj_d23 htb hT182 rfl rfl [_, _, _] rfl rfl (cw_s0 hB rfl) rfl (Nat.le_of_ble_eq_true rfl) ⟨by decide, by decide⟩ (cw_tadd htb hT182 hB (by omega) (ho182.symm ▸ hW) (Int32.ofInt 2) a y189 (by rw [ey189]; decide)) ?_
                rintro _ h190 hT191 ⟨rfl, hx, hw⟩ _
                show cw_W _ _ _ _ _ _ _ _ _ _ 158 [(5, .int (Int32.ofInt 0)), (4, .int x169), (0, .ref (52 + 26)), (1, .ref (52 + 1)), (2, .int e), (3, .int a)] []
                refine cw_n aj_d23 rfl rfl ?_
                refine cw_Wr aj_d23 rfl rfl hT191 ?_ ?_
                · exact ⟨rfl, (cw_ex_tr (cw_ex_of ho182) hx), hw⟩
                · exact cw_gw (s := s) (a := _) rfl (by omega) (by omega)
            · have q181 : (0 : Int) = (61 : Int) := aw_t_ne (a := (0 : Int)) (b := (61 : Int)) rfl rfl q181
              refine cw_n aj_d23 rfl rfl ?_
              refine cw_n aj_d23 rfl rfl ?_
              refine cw_c (tgt := 119) aj_d23 rfl rfl (fun q192 => ?_) (fun q192 => ?_)
              · have q192 : x169.toInt = (33 : Int) := aw_t_eq (a := x169.toInt) (b := (33 : Int)) rfl rfl q192
                refine cw_n aj_d23 rfl rfl ?_
                refine cw_n aj_d23 rfl rfl ?_
                refine cw_n aj_d23 rfl rfl ?_
                refine cw_c (tgt := 132) aj_d23 rfl rfl (fun q193 => ?_) (fun q193 => ?_)
                · have q193 : x169.toInt ≠ (33 : Int) := aw_t_ne (a := x169.toInt) (b := (33 : Int)) rfl rfl q193
                  refine cw_n aj_d23 rfl rfl ?_
                  refine cw_n aj_d23 rfl rfl ?_
                  refine cw_anyl aj_d23 rfl rfl (fun y194 ey194 => ?_)
                  refine cw_k0 (i := 26) (t := 60) (con' := cw_n27) aj_d23 htb hT175 rfl rfl [_, _, _] rfl rfl (cw_s0 hB rfl) rfl (Nat.le_of_ble_eq_true rfl) ⟨by decide, by decide⟩ (cw_tadd htb hT175 hB (by omega) hW (Int8.ofInt 7).toInt32 a y194 (by rw [ey194]; decide)) ?_
                  rintro _ h195 hT196 ⟨rfl, hx, hw⟩ _
                  show cw_W _ _ _ _ _ _ _ _ _ _ 139 [(5, .int (Int32.ofInt 0)), (4, .int x169), (0, .ref (52 + 26)), (1, .ref (52 + 1)), (2, .int e), (3, .int a)] []
                  refine cw_n aj_d23 rfl rfl ?_
                  refine cw_n aj_d23 rfl rfl ?_
                  refine cw_add aj_d23 rfl (a := a.toInt) (b := (2 : Int)) rfl rfl (by omega) (by omega) (fun x197 ex197 => ?_)
                  refine cw_Wr aj_d23 rfl rfl hT196 ?_ ?_
                  · exact ⟨rfl, (cw_ex_tr cw_ex_rf hx), hw⟩
                  · exact cw_gw (s := s) (a := _) rfl (by omega) (by omega)
                · have q193 : x169.toInt = (33 : Int) := aw_t_ne (a := x169.toInt) (b := (33 : Int)) rfl rfl q193
                  refine cw_n aj_d23 rfl rfl ?_
                  refine cw_n aj_d23 rfl rfl ?_
                  refine cw_n aj_d23 rfl rfl ?_
                  refine cw_anyl aj_d23 rfl rfl (fun y198 ey198 => ?_)
                  refine cw_k0 (i := 26) (t := 60) (con' := cw_n27) aj_d23 htb hT175 rfl rfl [_, _, _] rfl rfl (cw_s0 hB rfl) rfl (Nat.le_of_ble_eq_true rfl) ⟨by decide, by decide⟩ (cw_tadd htb hT175 hB (by omega) hW (Int8.ofInt 6).toInt32 a y198 (by rw [ey198]; decide)) ?_
                  rintro _ h199 hT200 ⟨rfl, hx, hw⟩ _
                  show cw_W _ _ _ _ _ _ _ _ _ _ 139 [(5, .int (Int32.ofInt 0)), (4, .int x169), (0, .ref (52 + 26)), (1, .ref (52 + 1)), (2, .int e), (3, .int a)] []
                  refine cw_n aj_d23 rfl rfl ?_
                  refine cw_n aj_d23 rfl rfl ?_
                  refine cw_add aj_d23 rfl (a := a.toInt) (b := (2 : Int)) rfl rfl (by omega) (by omega) (fun x201 ex201 => ?_)
                  refine cw_Wr aj_d23 rfl rfl hT200 ?_ ?_
                  · exact ⟨rfl, (cw_ex_tr cw_ex_rf hx), hw⟩
                  · exact cw_gw (s := s) (a := _) rfl (by omega) (by omega)
              · have q192 : x169.toInt ≠ (33 : Int) := aw_t_eq (a := x169.toInt) (b := (33 : Int)) rfl rfl q192
                refine cw_n aj_d23 rfl rfl ?_
                refine cw_n aj_d23 rfl rfl ?_
                refine cw_c (tgt := 143) aj_d23 rfl rfl (fun q202 => ?_) (fun q202 => ?_)
                · have q202 : x169.toInt ≠ (60 : Int) := aw_t_ne (a := x169.toInt) (b := (60 : Int)) rfl rfl q202
                  refine cw_n aj_d23 rfl rfl ?_
                  refine cw_ks0 (con' := ap_c30) aj_d23 hT175 rfl rfl rfl [_] rfl rfl (Nat.le_of_ble_eq_true rfl) ⟨by decide, by decide⟩ (cw_a1 (by omega) (ap_0_30 htb (cw_SP1c _ _ rfl rfl) cw_hK) hT175 hB rfl ⟨(cw_gw (a := x169.toInt) rfl (by omega) (by omega)), trivial⟩) ?_
                  rintro ru203 h203 hT203 ho203 hRu203
                  obtain ⟨x204, rfl, bx204⟩ := cw_rI hRu203
                  show cw_W _ _ _ _ _ _ _ _ _ _ 148 [(5, .int (Int32.ofInt 0)), (4, .int x169), (0, .ref (52 + 26)), (1, .ref (52 + 1)), (2, .int e), (3, .int a)] [.int x204]
                  refine cw_z (tgt := 160) aj_d23 rfl rfl (fun q205 => ?_) (fun q205 => ?_)
                  · have q205 : x204.toInt ≠ (0 : Int) := aw_t_ne (a := x204.toInt) (b := (0 : Int)) rfl rfl q205
                    refine cw_n aj_d23 rfl rfl ?_
                    refine cw_n aj_d23 rfl rfl ?_
                    refine cw_n aj_d23 rfl rfl ?_
                    refine cw_anyl aj_d23 rfl rfl (fun y206 ey206 => ?_)
                    refine cw_k0 (i := 26) (t := 60) (con' := cw_n27) aj_d23 htb hT203 rfl rfl [_, _, _] rfl rfl (cw_s0 hB rfl) rfl (Nat.le_of_ble_eq_true rfl) ⟨by decide, by decide⟩ (cw_tadd htb hT203 hB (by omega) (ho203.symm ▸ hW) x169 a y206 (by rw [ey206]; decide)) ?_
                    rintro _ h207 hT208 ⟨rfl, hx, hw⟩ _
                    show cw_W _ _ _ _ _ _ _ _ _ _ 168 [(5, .int (Int32.ofInt 0)), (4, .int x169), (0, .ref (52 + 26)), (1, .ref (52 + 1)), (2, .int e), (3, .int a)] []
                    refine cw_n aj_d23 rfl rfl ?_
                    refine cw_n aj_d23 rfl rfl ?_
                    refine cw_add aj_d23 rfl (a := a.toInt) (b := (1 : Int)) rfl rfl (by omega) (by omega) (fun x209 ex209 => ?_)
                    refine cw_Wr aj_d23 rfl rfl hT208 ?_ ?_
                    · exact ⟨rfl, (cw_ex_tr (cw_ex_of ho203) hx), hw⟩
                    · exact cw_gw (s := s) (a := _) rfl (by omega) (by omega)
                  · have q205 : x204.toInt = (0 : Int) := aw_t_ne (a := x204.toInt) (b := (0 : Int)) rfl rfl q205
                    refine cw_n aj_d23 rfl rfl ?_
                    refine cw_n aj_d23 rfl rfl ?_
                    refine cw_n aj_d23 rfl rfl ?_
                    refine cw_anyl aj_d23 rfl rfl (fun y210 ey210 => ?_)
                    refine cw_k0 (i := 26) (t := 60) (con' := cw_n27) aj_d23 htb hT203 rfl rfl [_, _, _] rfl rfl (cw_s0 hB rfl) rfl (Nat.le_of_ble_eq_true rfl) ⟨by decide, by decide⟩ (cw_tadd htb hT203 hB (by omega) (ho203.symm ▸ hW) (Int32.ofInt 2) a y210 (by rw [ey210]; decide)) ?_
                    rintro _ h211 hT212 ⟨rfl, hx, hw⟩ _
                    show cw_W _ _ _ _ _ _ _ _ _ _ 158 [(5, .int (Int32.ofInt 0)), (4, .int x169), (0, .ref (52 + 26)), (1, .ref (52 + 1)), (2, .int e), (3, .int a)] []
                    refine cw_n aj_d23 rfl rfl ?_
                    refine cw_Wr aj_d23 rfl rfl hT212 ?_ ?_
                    · exact ⟨rfl, (cw_ex_tr (cw_ex_of ho203) hx), hw⟩
                    · exact cw_gw (s := s) (a := _) rfl (by omega) (by omega)
                · have q202 : x169.toInt = (60 : Int) := aw_t_ne (a := x169.toInt) (b := (60 : Int)) rfl rfl q202
                  refine cw_n aj_d23 rfl rfl ?_
                  refine cw_n aj_d23 rfl rfl ?_
                  refine cw_n aj_d23 rfl rfl ?_
                  refine cw_c (tgt := 132) aj_d23 rfl rfl (fun q213 => ?_) (fun q213 => ?_)
                  · have q213 : x169.toInt ≠ (33 : Int) := aw_t_ne (a := x169.toInt) (b := (33 : Int)) rfl rfl q213
                    refine cw_n aj_d23 rfl rfl ?_
                    refine cw_n aj_d23 rfl rfl ?_
                    refine cw_anyl aj_d23 rfl rfl (fun y214 ey214 => ?_)
                    refine cw_k0 (i := 26) (t := 60) (con' := cw_n27) aj_d23 htb hT175 rfl rfl [_, _, _] rfl rfl (cw_s0 hB rfl) rfl (Nat.le_of_ble_eq_true rfl) ⟨by decide, by decide⟩ (cw_tadd htb hT175 hB (by omega) hW (Int8.ofInt 7).toInt32 a y214 (by rw [ey214]; decide)) ?_
                    rintro _ h215 hT216 ⟨rfl, hx, hw⟩ _
                    show cw_W _ _ _ _ _ _ _ _ _ _ 139 [(5, .int (Int32.ofInt 0)), (4, .int x169), (0, .ref (52 + 26)), (1, .ref (52 + 1)), (2, .int e), (3, .int a)] []
                    refine cw_n aj_d23 rfl rfl ?_
                    refine cw_n aj_d23 rfl rfl ?_
                    refine cw_add aj_d23 rfl (a := a.toInt) (b := (2 : Int)) rfl rfl (by omega) (by omega) (fun x217 ex217 => ?_)
                    refine cw_Wr aj_d23 rfl rfl hT216 ?_ ?_
                    · exact ⟨rfl, (cw_ex_tr cw_ex_rf hx), hw⟩
                    · exact cw_gw (s := s) (a := _) rfl (by omega) (by omega)
                  · have q213 : x169.toInt = (33 : Int) := aw_t_ne (a := x169.toInt) (b := (33 : Int)) rfl rfl q213
                    refine cw_n aj_d23 rfl rfl ?_
                    refine cw_n aj_d23 rfl rfl ?_
                    refine cw_n aj_d23 rfl rfl ?_
                    refine cw_anyl aj_d23 rfl rfl (fun y218 ey218 => ?_)
                    refine cw_k0 (i := 26) (t := 60) (con' := cw_n27) aj_d23 htb hT175 rfl rfl [_, _, _] rfl rfl (cw_s0 hB rfl) rfl (Nat.le_of_ble_eq_true rfl) ⟨by decide, by decide⟩ (cw_tadd htb hT175 hB (by omega) hW (Int8.ofInt 6).toInt32 a y218 (by rw [ey218]; decide)) ?_
                    rintro _ h219 hT220 ⟨rfl, hx, hw⟩ _
                    show cw_W _ _ _ _ _ _ _ _ _ _ 139 [(5, .int (Int32.ofInt 0)), (4, .int x169), (0, .ref (52 + 26)), (1, .ref (52 + 1)), (2, .int e), (3, .int a)] []
                    refine cw_n aj_d23 rfl rfl ?_
                    refine cw_n aj_d23 rfl rfl ?_
                    refine cw_add aj_d23 rfl (a := a.toInt) (b := (2 : Int)) rfl rfl (by omega) (by omega) (fun x221 ex221 => ?_)
                    refine cw_Wr aj_d23 rfl rfl hT220 ?_ ?_
                    · exact ⟨rfl, (cw_ex_tr cw_ex_rf hx), hw⟩
                    · exact cw_gw (s := s) (a := _) rfl (by omega) (by omega)
          · have q180 : x169.toInt = (46 : Int) := aw_t_ne (a := x169.toInt) (b := (46 : Int)) rfl rfl q180
            refine cw_n aj_d23 rfl rfl ?_
            refine cw_n aj_d23 rfl rfl ?_
            refine cw_c (tgt := 98) aj_d23 rfl rfl (fun q222 => ?_) (fun q222 => ?_)
            · have q222 : (0 : Int) ≠ (46 : Int) := aw_t_ne (a := (0 : Int)) (b := (46 : Int)) rfl rfl q222
              refine cw_n aj_d23 rfl rfl ?_
              refine cw_n aj_d23 rfl rfl ?_
              refine cw_c (tgt := 143) aj_d23 rfl rfl (fun q223 => ?_) (fun q223 => ?_)
              · have q223 : (0 : Int) ≠ (61 : Int) := aw_t_ne (a := (0 : Int)) (b := (61 : Int)) rfl rfl q223
                refine cw_n aj_d23 rfl rfl ?_
                refine cw_ks0 (con' := ap_c30) aj_d23 hT175 rfl rfl rfl [_] rfl rfl (Nat.le_of_ble_eq_true rfl) ⟨by decide, by decide⟩ (cw_a1 (by omega) (ap_0_30 htb (cw_SP1c _ _ rfl rfl) cw_hK) hT175 hB rfl ⟨(cw_gw (a := x169.toInt) rfl (by omega) (by omega)), trivial⟩) ?_
                rintro ru224 h224 hT224 ho224 hRu224
                obtain ⟨x225, rfl, bx225⟩ := cw_rI hRu224
                show cw_W _ _ _ _ _ _ _ _ _ _ 148 [(5, .int (Int32.ofInt 0)), (4, .int x169), (0, .ref (52 + 26)), (1, .ref (52 + 1)), (2, .int e), (3, .int a)] [.int x225]
                refine cw_z (tgt := 160) aj_d23 rfl rfl (fun q226 => ?_) (fun q226 => ?_)
                · have q226 : x225.toInt ≠ (0 : Int) := aw_t_ne (a := x225.toInt) (b := (0 : Int)) rfl rfl q226
                  refine cw_n aj_d23 rfl rfl ?_
                  refine cw_n aj_d23 rfl rfl ?_
                  refine cw_n aj_d23 rfl rfl ?_
                  refine cw_anyl aj_d23 rfl rfl (fun y227 ey227 => ?_)
                  refine cw_k0 (i := 26) (t := 60) (con' := cw_n27) aj_d23 htb hT224 rfl rfl [_, _, _] rfl rfl (cw_s0 hB rfl) rfl (Nat.le_of_ble_eq_true rfl) ⟨by decide, by decide⟩ (cw_tadd htb hT224 hB (by omega) (ho224.symm ▸ hW) x169 a y227 (by rw [ey227]; decide)) ?_
                  rintro _ h228 hT229 ⟨rfl, hx, hw⟩ _
                  show cw_W _ _ _ _ _ _ _ _ _ _ 168 [(5, .int (Int32.ofInt 0)), (4, .int x169), (0, .ref (52 + 26)), (1, .ref (52 + 1)), (2, .int e), (3, .int a)] []
                  refine cw_n aj_d23 rfl rfl ?_
                  refine cw_n aj_d23 rfl rfl ?_
                  refine cw_add aj_d23 rfl (a := a.toInt) (b := (1 : Int)) rfl rfl (by omega) (by omega) (fun x230 ex230 => ?_)
                  refine cw_Wr aj_d23 rfl rfl hT229 ?_ ?_
                  · exact ⟨rfl, (cw_ex_tr (cw_ex_of ho224) hx), hw⟩
                  · exact cw_gw (s := s) (a := _) rfl (by omega) (by omega)
                · have q226 : x225.toInt = (0 : Int) := aw_t_ne (a := x225.toInt) (b := (0 : Int)) rfl rfl q226
                  refine cw_n aj_d23 rfl rfl ?_
                  refine cw_n aj_d23 rfl rfl ?_
                  refine cw_n aj_d23 rfl rfl ?_
                  refine cw_anyl aj_d23 rfl rfl (fun y231 ey231 => ?_)
                  refine cw_k0 (i := 26) (t := 60) (con' := cw_n27) aj_d23 htb hT224 rfl rfl [_, _, _] rfl rfl (cw_s0 hB rfl) rfl (Nat.le_of_ble_eq_true rfl) ⟨by decide, by decide⟩ (cw_tadd htb hT224 hB (by omega) (ho224.symm ▸ hW) (Int32.ofInt 2) a y231 (by rw [ey231]; decide)) ?_
                  rintro _ h232 hT233 ⟨rfl, hx, hw⟩ _
                  show cw_W _ _ _ _ _ _ _ _ _ _ 158 [(5, .int (Int32.ofInt 0)), (4, .int x169), (0, .ref (52 + 26)), (1, .ref (52 + 1)), (2, .int e), (3, .int a)] []
                  refine cw_n aj_d23 rfl rfl ?_
                  refine cw_Wr aj_d23 rfl rfl hT233 ?_ ?_
                  · exact ⟨rfl, (cw_ex_tr (cw_ex_of ho224) hx), hw⟩
                  · exact cw_gw (s := s) (a := _) rfl (by omega) (by omega)
              · have q223 : (0 : Int) = (61 : Int) := aw_t_ne (a := (0 : Int)) (b := (61 : Int)) rfl rfl q223
                refine cw_n aj_d23 rfl rfl ?_
                refine cw_n aj_d23 rfl rfl ?_
                refine cw_c (tgt := 119) aj_d23 rfl rfl (fun q234 => ?_) (fun q234 => ?_)
                · have q234 : x169.toInt = (33 : Int) := aw_t_eq (a := x169.toInt) (b := (33 : Int)) rfl rfl q234
                  refine cw_n aj_d23 rfl rfl ?_
                  refine cw_n aj_d23 rfl rfl ?_
                  refine cw_n aj_d23 rfl rfl ?_
                  refine cw_c (tgt := 132) aj_d23 rfl rfl (fun q235 => ?_) (fun q235 => ?_)
                  · have q235 : x169.toInt ≠ (33 : Int) := aw_t_ne (a := x169.toInt) (b := (33 : Int)) rfl rfl q235
                    refine cw_n aj_d23 rfl rfl ?_
                    refine cw_n aj_d23 rfl rfl ?_
                    refine cw_anyl aj_d23 rfl rfl (fun y236 ey236 => ?_)
                    refine cw_k0 (i := 26) (t := 60) (con' := cw_n27) aj_d23 htb hT175 rfl rfl [_, _, _] rfl rfl (cw_s0 hB rfl) rfl (Nat.le_of_ble_eq_true rfl) ⟨by decide, by decide⟩ (cw_tadd htb hT175 hB (by omega) hW (Int8.ofInt 7).toInt32 a y236 (by rw [ey236]; decide)) ?_
                    rintro _ h237 hT238 ⟨rfl, hx, hw⟩ _
                    show cw_W _ _ _ _ _ _ _ _ _ _ 139 [(5, .int (Int32.ofInt 0)), (4, .int x169), (0, .ref (52 + 26)), (1, .ref (52 + 1)), (2, .int e), (3, .int a)] []
                    refine cw_n aj_d23 rfl rfl ?_
                    refine cw_n aj_d23 rfl rfl ?_
                    refine cw_add aj_d23 rfl (a := a.toInt) (b := (2 : Int)) rfl rfl (by omega) (by omega) (fun x239 ex239 => ?_)
                    refine cw_Wr aj_d23 rfl rfl hT238 ?_ ?_
                    · exact ⟨rfl, (cw_ex_tr cw_ex_rf hx), hw⟩
                    · exact cw_gw (s := s) (a := _) rfl (by omega) (by omega)
                  · have q235 : x169.toInt = (33 : Int) := aw_t_ne (a := x169.toInt) (b := (33 : Int)) rfl rfl q235
                    refine cw_n aj_d23 rfl rfl ?_
                    refine cw_n aj_d23 rfl rfl ?_
                    refine cw_n aj_d23 rfl rfl ?_
                    refine cw_anyl aj_d23 rfl rfl (fun y240 ey240 => ?_)
                    refine cw_k0 (i := 26) (t := 60) (con' := cw_n27) aj_d23 htb hT175 rfl rfl [_, _, _] rfl rfl (cw_s0 hB rfl) rfl (Nat.le_of_ble_eq_true rfl) ⟨by decide, by decide⟩ (cw_tadd htb hT175 hB (by omega) hW (Int8.ofInt 6).toInt32 a y240 (by rw [ey240]; decide)) ?_
                    rintro _ h241 hT242 ⟨rfl, hx, hw⟩ _
                    show cw_W _ _ _ _ _ _ _ _ _ _ 139 [(5, .int (Int32.ofInt 0)), (4, .int x169), (0, .ref (52 + 26)), (1, .ref (52 + 1)), (2, .int e), (3, .int a)] []
                    refine cw_n aj_d23 rfl rfl ?_
                    refine cw_n aj_d23 rfl rfl ?_
                    refine cw_add aj_d23 rfl (a := a.toInt) (b := (2 : Int)) rfl rfl (by omega) (by omega) (fun x243 ex243 => ?_)
                    refine cw_Wr aj_d23 rfl rfl hT242 ?_ ?_
                    · exact ⟨rfl, (cw_ex_tr cw_ex_rf hx), hw⟩
                    · exact cw_gw (s := s) (a := _) rfl (by omega) (by omega)
                · have q234 : x169.toInt ≠ (33 : Int) := aw_t_eq (a := x169.toInt) (b := (33 : Int)) rfl rfl q234
                  refine cw_n aj_d23 rfl rfl ?_
                  refine cw_n aj_d23 rfl rfl ?_
                  refine cw_c (tgt := 143) aj_d23 rfl rfl (fun q244 => ?_) (fun q244 => ?_)
                  · have q244 : x169.toInt ≠ (60 : Int) := aw_t_ne (a := x169.toInt) (b := (60 : Int)) rfl rfl q244
                    refine cw_n aj_d23 rfl rfl ?_
                    refine cw_ks0 (con' := ap_c30) aj_d23 hT175 rfl rfl rfl [_] rfl rfl (Nat.le_of_ble_eq_true rfl) ⟨by decide, by decide⟩ (cw_a1 (by omega) (ap_0_30 htb (cw_SP1c _ _ rfl rfl) cw_hK) hT175 hB rfl ⟨(cw_gw (a := x169.toInt) rfl (by omega) (by omega)), trivial⟩) ?_
                    rintro ru245 h245 hT245 ho245 hRu245
                    obtain ⟨x246, rfl, bx246⟩ := cw_rI hRu245
                    show cw_W _ _ _ _ _ _ _ _ _ _ 148 [(5, .int (Int32.ofInt 0)), (4, .int x169), (0, .ref (52 + 26)), (1, .ref (52 + 1)), (2, .int e), (3, .int a)] [.int x246]
                    refine cw_z (tgt := 160) aj_d23 rfl rfl (fun q247 => ?_) (fun q247 => ?_)
                    · have q247 : x246.toInt ≠ (0 : Int) := aw_t_ne (a := x246.toInt) (b := (0 : Int)) rfl rfl q247
                      refine cw_n aj_d23 rfl rfl ?_
                      refine cw_n aj_d23 rfl rfl ?_
                      refine cw_n aj_d23 rfl rfl ?_
                      refine cw_anyl aj_d23 rfl rfl (fun y248 ey248 => ?_)
                      refine cw_k0 (i := 26) (t := 60) (con' := cw_n27) aj_d23 htb hT245 rfl rfl [_, _, _] rfl rfl (cw_s0 hB rfl) rfl (Nat.le_of_ble_eq_true rfl) ⟨by decide, by decide⟩ (cw_tadd htb hT245 hB (by omega) (ho245.symm ▸ hW) x169 a y248 (by rw [ey248]; decide)) ?_
                      rintro _ h249 hT250 ⟨rfl, hx, hw⟩ _
                      show cw_W _ _ _ _ _ _ _ _ _ _ 168 [(5, .int (Int32.ofInt 0)), (4, .int x169), (0, .ref (52 + 26)), (1, .ref (52 + 1)), (2, .int e), (3, .int a)] []
                      refine cw_n aj_d23 rfl rfl ?_
                      refine cw_n aj_d23 rfl rfl ?_
                      refine cw_add aj_d23 rfl (a := a.toInt) (b := (1 : Int)) rfl rfl (by omega) (by omega) (fun x251 ex251 => ?_)
                      refine cw_Wr aj_d23 rfl rfl hT250 ?_ ?_
                      · exact ⟨rfl, (cw_ex_tr (cw_ex_of ho245) hx), hw⟩
                      · exact cw_gw (s := s) (a := _) rfl (by omega) (by omega)
                    · have q247 : x246.toInt = (0 : Int) := aw_t_ne (a := x246.toInt) (b := (0 : Int)) rfl rfl q247
                      refine cw_n aj_d23 rfl rfl ?_
                      refine cw_n aj_d23 rfl rfl ?_
                      refine cw_n aj_d23 rfl rfl ?_
                      refine cw_anyl aj_d23 rfl rfl (fun y252 ey252 => ?_)
                      refine cw_k0 (i := 26) (t := 60) (con' := cw_n27) aj_d23 htb hT245 rfl rfl [_, _, _] rfl rfl (cw_s0 hB rfl) rfl (Nat.le_of_ble_eq_true rfl) ⟨by decide, by decide⟩ (cw_tadd htb hT245 hB (by omega) (ho245.symm ▸ hW) (Int32.ofInt 2) a y252 (by rw [ey252]; decide)) ?_
                      rintro _ h253 hT254 ⟨rfl, hx, hw⟩ _
                      show cw_W _ _ _ _ _ _ _ _ _ _ 158 [(5, .int (Int32.ofInt 0)), (4, .int x169), (0, .ref (52 + 26)), (1, .ref (52 + 1)), (2, .int e), (3, .int a)] []
                      refine cw_n aj_d23 rfl rfl ?_
                      refine cw_Wr aj_d23 rfl rfl hT254 ?_ ?_
                      · exact ⟨rfl, (cw_ex_tr (cw_ex_of ho245) hx), hw⟩
                      · exact cw_gw (s := s) (a := _) rfl (by omega) (by omega)
                  · have q244 : x169.toInt = (60 : Int) := aw_t_ne (a := x169.toInt) (b := (60 : Int)) rfl rfl q244
                    refine cw_n aj_d23 rfl rfl ?_
                    refine cw_n aj_d23 rfl rfl ?_
                    refine cw_n aj_d23 rfl rfl ?_
                    refine cw_c (tgt := 132) aj_d23 rfl rfl (fun q255 => ?_) (fun q255 => ?_)
                    · have q255 : x169.toInt ≠ (33 : Int) := aw_t_ne (a := x169.toInt) (b := (33 : Int)) rfl rfl q255
                      refine cw_n aj_d23 rfl rfl ?_
                      refine cw_n aj_d23 rfl rfl ?_
                      refine cw_anyl aj_d23 rfl rfl (fun y256 ey256 => ?_)
                      refine cw_k0 (i := 26) (t := 60) (con' := cw_n27) aj_d23 htb hT175 rfl rfl [_, _, _] rfl rfl (cw_s0 hB rfl) rfl (Nat.le_of_ble_eq_true rfl) ⟨by decide, by decide⟩ (cw_tadd htb hT175 hB (by omega) hW (Int8.ofInt 7).toInt32 a y256 (by rw [ey256]; decide)) ?_
                      rintro _ h257 hT258 ⟨rfl, hx, hw⟩ _
                      show cw_W _ _ _ _ _ _ _ _ _ _ 139 [(5, .int (Int32.ofInt 0)), (4, .int x169), (0, .ref (52 + 26)), (1, .ref (52 + 1)), (2, .int e), (3, .int a)] []
                      refine cw_n aj_d23 rfl rfl ?_
                      refine cw_n aj_d23 rfl rfl ?_
                      refine cw_add aj_d23 rfl (a := a.toInt) (b := (2 : Int)) rfl rfl (by omega) (by omega) (fun x259 ex259 => ?_)
                      refine cw_Wr aj_d23 rfl rfl hT258 ?_ ?_
                      · exact ⟨rfl, (cw_ex_tr cw_ex_rf hx), hw⟩
                      · exact cw_gw (s := s) (a := _) rfl (by omega) (by omega)
                    · have q255 : x169.toInt = (33 : Int) := aw_t_ne (a := x169.toInt) (b := (33 : Int)) rfl rfl q255
                      refine cw_n aj_d23 rfl rfl ?_
                      refine cw_n aj_d23 rfl rfl ?_
                      refine cw_n aj_d23 rfl rfl ?_
                      refine cw_anyl aj_d23 rfl rfl (fun y260 ey260 => ?_)
                      refine cw_k0 (i := 26) (t := 60) (con' := cw_n27) aj_d23 htb hT175 rfl rfl [_, _, _] rfl rfl (cw_s0 hB rfl) rfl (Nat.le_of_ble_eq_true rfl) ⟨by decide, by decide⟩ (cw_tadd htb hT175 hB (by omega) hW (Int8.ofInt 6).toInt32 a y260 (by rw [ey260]; decide)) ?_
                      rintro _ h261 hT262 ⟨rfl, hx, hw⟩ _
                      show cw_W _ _ _ _ _ _ _ _ _ _ 139 [(5, .int (Int32.ofInt 0)), (4, .int x169), (0, .ref (52 + 26)), (1, .ref (52 + 1)), (2, .int e), (3, .int a)] []
                      refine cw_n aj_d23 rfl rfl ?_
                      refine cw_n aj_d23 rfl rfl ?_
                      refine cw_add aj_d23 rfl (a := a.toInt) (b := (2 : Int)) rfl rfl (by omega) (by omega) (fun x263 ex263 => ?_)
                      refine cw_Wr aj_d23 rfl rfl hT262 ?_ ?_
                      · exact ⟨rfl, (cw_ex_tr cw_ex_rf hx), hw⟩
                      · exact cw_gw (s := s) (a := _) rfl (by omega) (by omega)
            · have q222 : (0 : Int) = (46 : Int) := aw_t_ne (a := (0 : Int)) (b := (46 : Int)) rfl rfl q222
              refine cw_n aj_d23 rfl rfl ?_
              refine cw_n aj_d23 rfl rfl ?_
              refine cw_n aj_d23 rfl rfl ?_
              refine cw_anyl aj_d23 rfl rfl (fun y264 ey264 => ?_)
              refine cw_k0 (i := 26) (t := 60) (con' := cw_n27) aj_d23 htb hT175 rfl rfl [_, _, _] rfl rfl (cw_s0 hB rfl) rfl (Nat.le_of_ble_eq_true rfl) ⟨by decide, by decide⟩ (cw_tadd htb hT175 hB (by omega) hW (Int32.ofInt 5) a y264 (by rw [ey264]; decide)) ?_
              rintro _ h265 hT266 ⟨rfl, hx, hw⟩ _
              show cw_W _ _ _ _ _ _ _ _ _ _ 94 [(5, .int (Int32.ofInt 0)), (4, .int x169), (0, .ref (52 + 26)), (1, .ref (52 + 1)), (2, .int e), (3, .int a)] []
              refine cw_n aj_d23 rfl rfl ?_
              refine cw_n aj_d23 rfl rfl ?_
              refine cw_add aj_d23 rfl (a := a.toInt) (b := (2 : Int)) rfl rfl (by omega) (by omega) (fun x267 ex267 => ?_)
              refine cw_Wr aj_d23 rfl rfl hT266 ?_ ?_
              · exact ⟨rfl, (cw_ex_tr cw_ex_rf hx), hw⟩
              · exact cw_gw (s := s) (a := _) rfl (by omega) (by omega)
        · have q179 : x178.toInt < e.toInt := aw_t_ge (a := x178.toInt) (b := e.toInt) rfl rfl q179
          refine cw_n aj_d23 rfl rfl ?_
          refine cw_n aj_d23 rfl rfl ?_
          refine cw_add aj_d23 rfl (a := a.toInt) (b := (1 : Int)) rfl rfl (by omega) (by omega) (fun x268 ex268 => ?_)
          refine cw_n aj_d23 rfl rfl ?_
          refine cw_alen (i := 1) htb.1 aj_d23 rfl a167 (by decide) (by omega) (fun x269 ex269 => ?_)
          refine cw_c (tgt := 70) aj_d23 rfl rfl (fun q270 => ?_) (fun q270 => ?_)
          · have q270 : x268.toInt ≥ (4000 : Int) := aw_t_ge (a := x268.toInt) (b := (4000 : Int)) rfl ex269 q270
            refine cw_n aj_d23 rfl rfl ?_
            refine cw_n aj_d23 rfl rfl ?_
            show cw_W _ _ _ _ _ _ _ _ _ _ 73 [(5, .int (Int32.ofInt 0)), (4, .int x169), (0, .ref (52 + 26)), (1, .ref (52 + 1)), (2, .int e), (3, .int a)] []
            refine cw_n aj_d23 rfl rfl ?_
            refine cw_n aj_d23 rfl rfl ?_
            refine cw_c (tgt := 98) aj_d23 rfl rfl (fun q271 => ?_) (fun q271 => ?_)
            · have q271 : x169.toInt ≠ (46 : Int) := aw_t_ne (a := x169.toInt) (b := (46 : Int)) rfl rfl q271
              refine cw_n aj_d23 rfl rfl ?_
              refine cw_n aj_d23 rfl rfl ?_
              refine cw_c (tgt := 143) aj_d23 rfl rfl (fun q272 => ?_) (fun q272 => ?_)
              · have q272 : (0 : Int) ≠ (61 : Int) := aw_t_ne (a := (0 : Int)) (b := (61 : Int)) rfl rfl q272
                refine cw_n aj_d23 rfl rfl ?_
                refine cw_ks0 (con' := ap_c30) aj_d23 hT175 rfl rfl rfl [_] rfl rfl (Nat.le_of_ble_eq_true rfl) ⟨by decide, by decide⟩ (cw_a1 (by omega) (ap_0_30 htb (cw_SP1c _ _ rfl rfl) cw_hK) hT175 hB rfl ⟨(cw_gw (a := x169.toInt) rfl (by omega) (by omega)), trivial⟩) ?_
                rintro ru273 h273 hT273 ho273 hRu273
                obtain ⟨x274, rfl, bx274⟩ := cw_rI hRu273
                show cw_W _ _ _ _ _ _ _ _ _ _ 148 [(5, .int (Int32.ofInt 0)), (4, .int x169), (0, .ref (52 + 26)), (1, .ref (52 + 1)), (2, .int e), (3, .int a)] [.int x274]
                refine cw_z (tgt := 160) aj_d23 rfl rfl (fun q275 => ?_) (fun q275 => ?_)
                · have q275 : x274.toInt ≠ (0 : Int) := aw_t_ne (a := x274.toInt) (b := (0 : Int)) rfl rfl q275
                  refine cw_n aj_d23 rfl rfl ?_
                  refine cw_n aj_d23 rfl rfl ?_
                  refine cw_n aj_d23 rfl rfl ?_
                  refine cw_anyl aj_d23 rfl rfl (fun y276 ey276 => ?_)
                  refine cw_k0 (i := 26) (t := 60) (con' := cw_n27) aj_d23 htb hT273 rfl rfl [_, _, _] rfl rfl (cw_s0 hB rfl) rfl (Nat.le_of_ble_eq_true rfl) ⟨by decide, by decide⟩ (cw_tadd htb hT273 hB (by omega) (ho273.symm ▸ hW) x169 a y276 (by rw [ey276]; decide)) ?_
                  rintro _ h277 hT278 ⟨rfl, hx, hw⟩ _
                  show cw_W _ _ _ _ _ _ _ _ _ _ 168 [(5, .int (Int32.ofInt 0)), (4, .int x169), (0, .ref (52 + 26)), (1, .ref (52 + 1)), (2, .int e), (3, .int a)] []
                  refine cw_n aj_d23 rfl rfl ?_
                  refine cw_n aj_d23 rfl rfl ?_
                  refine cw_add aj_d23 rfl (a := a.toInt) (b := (1 : Int)) rfl rfl (by omega) (by omega) (fun x279 ex279 => ?_)
                  refine cw_Wr aj_d23 rfl rfl hT278 ?_ ?_
                  · exact ⟨rfl, (cw_ex_tr (cw_ex_of ho273) hx), hw⟩
                  · exact cw_gw (s := s) (a := _) rfl (by omega) (by omega)
                · have q275 : x274.toInt = (0 : Int) := aw_t_ne (a := x274.toInt) (b := (0 : Int)) rfl rfl q275
                  refine cw_n aj_d23 rfl rfl ?_
                  refine cw_n aj_d23 rfl rfl ?_
                  refine cw_n aj_d23 rfl rfl ?_
                  refine cw_anyl aj_d23 rfl rfl (fun y280 ey280 => ?_)
                  refine cw_k0 (i := 26) (t := 60) (con' := cw_n27) aj_d23 htb hT273 rfl rfl [_, _, _] rfl rfl (cw_s0 hB rfl) rfl (Nat.le_of_ble_eq_true rfl) ⟨by decide, by decide⟩ (cw_tadd htb hT273 hB (by omega) (ho273.symm ▸ hW) (Int32.ofInt 2) a y280 (by rw [ey280]; decide)) ?_
                  rintro _ h281 hT282 ⟨rfl, hx, hw⟩ _
                  show cw_W _ _ _ _ _ _ _ _ _ _ 158 [(5, .int (Int32.ofInt 0)), (4, .int x169), (0, .ref (52 + 26)), (1, .ref (52 + 1)), (2, .int e), (3, .int a)] []
                  refine cw_n aj_d23 rfl rfl ?_
                  refine cw_Wr aj_d23 rfl rfl hT282 ?_ ?_
                  · exact ⟨rfl, (cw_ex_tr (cw_ex_of ho273) hx), hw⟩
                  · exact cw_gw (s := s) (a := _) rfl (by omega) (by omega)
              · have q272 : (0 : Int) = (61 : Int) := aw_t_ne (a := (0 : Int)) (b := (61 : Int)) rfl rfl q272
                refine cw_n aj_d23 rfl rfl ?_
                refine cw_n aj_d23 rfl rfl ?_
                refine cw_c (tgt := 119) aj_d23 rfl rfl (fun q283 => ?_) (fun q283 => ?_)
                · have q283 : x169.toInt = (33 : Int) := aw_t_eq (a := x169.toInt) (b := (33 : Int)) rfl rfl q283
                  refine cw_n aj_d23 rfl rfl ?_
                  refine cw_n aj_d23 rfl rfl ?_
                  refine cw_n aj_d23 rfl rfl ?_
                  refine cw_c (tgt := 132) aj_d23 rfl rfl (fun q284 => ?_) (fun q284 => ?_)
                  · have q284 : x169.toInt ≠ (33 : Int) := aw_t_ne (a := x169.toInt) (b := (33 : Int)) rfl rfl q284
                    refine cw_n aj_d23 rfl rfl ?_
                    refine cw_n aj_d23 rfl rfl ?_
                    refine cw_anyl aj_d23 rfl rfl (fun y285 ey285 => ?_)
                    refine cw_k0 (i := 26) (t := 60) (con' := cw_n27) aj_d23 htb hT175 rfl rfl [_, _, _] rfl rfl (cw_s0 hB rfl) rfl (Nat.le_of_ble_eq_true rfl) ⟨by decide, by decide⟩ (cw_tadd htb hT175 hB (by omega) hW (Int8.ofInt 7).toInt32 a y285 (by rw [ey285]; decide)) ?_
                    rintro _ h286 hT287 ⟨rfl, hx, hw⟩ _
                    show cw_W _ _ _ _ _ _ _ _ _ _ 139 [(5, .int (Int32.ofInt 0)), (4, .int x169), (0, .ref (52 + 26)), (1, .ref (52 + 1)), (2, .int e), (3, .int a)] []
                    refine cw_n aj_d23 rfl rfl ?_
                    refine cw_n aj_d23 rfl rfl ?_
                    refine cw_add aj_d23 rfl (a := a.toInt) (b := (2 : Int)) rfl rfl (by omega) (by omega) (fun x288 ex288 => ?_)
                    refine cw_Wr aj_d23 rfl rfl hT287 ?_ ?_
                    · exact ⟨rfl, (cw_ex_tr cw_ex_rf hx), hw⟩
                    · exact cw_gw (s := s) (a := _) rfl (by omega) (by omega)
                  · have q284 : x169.toInt = (33 : Int) := aw_t_ne (a := x169.toInt) (b := (33 : Int)) rfl rfl q284
                    refine cw_n aj_d23 rfl rfl ?_
                    refine cw_n aj_d23 rfl rfl ?_
                    refine cw_n aj_d23 rfl rfl ?_
                    refine cw_anyl aj_d23 rfl rfl (fun y289 ey289 => ?_)
                    refine cw_k0 (i := 26) (t := 60) (con' := cw_n27) aj_d23 htb hT175 rfl rfl [_, _, _] rfl rfl (cw_s0 hB rfl) rfl (Nat.le_of_ble_eq_true rfl) ⟨by decide, by decide⟩ (cw_tadd htb hT175 hB (by omega) hW (Int8.ofInt 6).toInt32 a y289 (by rw [ey289]; decide)) ?_
                    rintro _ h290 hT291 ⟨rfl, hx, hw⟩ _
                    show cw_W _ _ _ _ _ _ _ _ _ _ 139 [(5, .int (Int32.ofInt 0)), (4, .int x169), (0, .ref (52 + 26)), (1, .ref (52 + 1)), (2, .int e), (3, .int a)] []
                    refine cw_n aj_d23 rfl rfl ?_
                    refine cw_n aj_d23 rfl rfl ?_
                    refine cw_add aj_d23 rfl (a := a.toInt) (b := (2 : Int)) rfl rfl (by omega) (by omega) (fun x292 ex292 => ?_)
                    refine cw_Wr aj_d23 rfl rfl hT291 ?_ ?_
                    · exact ⟨rfl, (cw_ex_tr cw_ex_rf hx), hw⟩
                    · exact cw_gw (s := s) (a := _) rfl (by omega) (by omega)
                · have q283 : x169.toInt ≠ (33 : Int) := aw_t_eq (a := x169.toInt) (b := (33 : Int)) rfl rfl q283
                  refine cw_n aj_d23 rfl rfl ?_
                  refine cw_n aj_d23 rfl rfl ?_
                  refine cw_c (tgt := 143) aj_d23 rfl rfl (fun q293 => ?_) (fun q293 => ?_)
                  · have q293 : x169.toInt ≠ (60 : Int) := aw_t_ne (a := x169.toInt) (b := (60 : Int)) rfl rfl q293
                    refine cw_n aj_d23 rfl rfl ?_
                    refine cw_ks0 (con' := ap_c30) aj_d23 hT175 rfl rfl rfl [_] rfl rfl (Nat.le_of_ble_eq_true rfl) ⟨by decide, by decide⟩ (cw_a1 (by omega) (ap_0_30 htb (cw_SP1c _ _ rfl rfl) cw_hK) hT175 hB rfl ⟨(cw_gw (a := x169.toInt) rfl (by omega) (by omega)), trivial⟩) ?_
                    rintro ru294 h294 hT294 ho294 hRu294
                    obtain ⟨x295, rfl, bx295⟩ := cw_rI hRu294
                    show cw_W _ _ _ _ _ _ _ _ _ _ 148 [(5, .int (Int32.ofInt 0)), (4, .int x169), (0, .ref (52 + 26)), (1, .ref (52 + 1)), (2, .int e), (3, .int a)] [.int x295]
                    refine cw_z (tgt := 160) aj_d23 rfl rfl (fun q296 => ?_) (fun q296 => ?_)
                    · have q296 : x295.toInt ≠ (0 : Int) := aw_t_ne (a := x295.toInt) (b := (0 : Int)) rfl rfl q296
                      refine cw_n aj_d23 rfl rfl ?_
                      refine cw_n aj_d23 rfl rfl ?_
                      refine cw_n aj_d23 rfl rfl ?_
                      refine cw_anyl aj_d23 rfl rfl (fun y297 ey297 => ?_)
                      refine cw_k0 (i := 26) (t := 60) (con' := cw_n27) aj_d23 htb hT294 rfl rfl [_, _, _] rfl rfl (cw_s0 hB rfl) rfl (Nat.le_of_ble_eq_true rfl) ⟨by decide, by decide⟩ (cw_tadd htb hT294 hB (by omega) (ho294.symm ▸ hW) x169 a y297 (by rw [ey297]; decide)) ?_
                      rintro _ h298 hT299 ⟨rfl, hx, hw⟩ _
                      show cw_W _ _ _ _ _ _ _ _ _ _ 168 [(5, .int (Int32.ofInt 0)), (4, .int x169), (0, .ref (52 + 26)), (1, .ref (52 + 1)), (2, .int e), (3, .int a)] []
                      refine cw_n aj_d23 rfl rfl ?_
                      refine cw_n aj_d23 rfl rfl ?_
                      refine cw_add aj_d23 rfl (a := a.toInt) (b := (1 : Int)) rfl rfl (by omega) (by omega) (fun x300 ex300 => ?_)
                      refine cw_Wr aj_d23 rfl rfl hT299 ?_ ?_
                      · exact ⟨rfl, (cw_ex_tr (cw_ex_of ho294) hx), hw⟩
                      · exact cw_gw (s := s) (a := _) rfl (by omega) (by omega)
                    · have q296 : x295.toInt = (0 : Int) := aw_t_ne (a := x295.toInt) (b := (0 : Int)) rfl rfl q296
                      refine cw_n aj_d23 rfl rfl ?_
                      refine cw_n aj_d23 rfl rfl ?_
                      refine cw_n aj_d23 rfl rfl ?_
                      refine cw_anyl aj_d23 rfl rfl (fun y301 ey301 => ?_)
                      refine cw_k0 (i := 26) (t := 60) (con' := cw_n27) aj_d23 htb hT294 rfl rfl [_, _, _] rfl rfl (cw_s0 hB rfl) rfl (Nat.le_of_ble_eq_true rfl) ⟨by decide, by decide⟩ (cw_tadd htb hT294 hB (by omega) (ho294.symm ▸ hW) (Int32.ofInt 2) a y301 (by rw [ey301]; decide)) ?_
                      rintro _ h302 hT303 ⟨rfl, hx, hw⟩ _
                      show cw_W _ _ _ _ _ _ _ _ _ _ 158 [(5, .int (Int32.ofInt 0)), (4, .int x169), (0, .ref (52 + 26)), (1, .ref (52 + 1)), (2, .int e), (3, .int a)] []
                      refine cw_n aj_d23 rfl rfl ?_
                      refine cw_Wr aj_d23 rfl rfl hT303 ?_ ?_
                      · exact ⟨rfl, (cw_ex_tr (cw_ex_of ho294) hx), hw⟩
                      · exact cw_gw (s := s) (a := _) rfl (by omega) (by omega)
                  · have q293 : x169.toInt = (60 : Int) := aw_t_ne (a := x169.toInt) (b := (60 : Int)) rfl rfl q293
                    refine cw_n aj_d23 rfl rfl ?_
                    refine cw_n aj_d23 rfl rfl ?_
                    refine cw_n aj_d23 rfl rfl ?_
                    refine cw_c (tgt := 132) aj_d23 rfl rfl (fun q304 => ?_) (fun q304 => ?_)
                    · have q304 : x169.toInt ≠ (33 : Int) := aw_t_ne (a := x169.toInt) (b := (33 : Int)) rfl rfl q304
                      refine cw_n aj_d23 rfl rfl ?_
                      refine cw_n aj_d23 rfl rfl ?_
                      refine cw_anyl aj_d23 rfl rfl (fun y305 ey305 => ?_)
                      refine cw_k0 (i := 26) (t := 60) (con' := cw_n27) aj_d23 htb hT175 rfl rfl [_, _, _] rfl rfl (cw_s0 hB rfl) rfl (Nat.le_of_ble_eq_true rfl) ⟨by decide, by decide⟩ (cw_tadd htb hT175 hB (by omega) hW (Int8.ofInt 7).toInt32 a y305 (by rw [ey305]; decide)) ?_
                      rintro _ h306 hT307 ⟨rfl, hx, hw⟩ _
                      show cw_W _ _ _ _ _ _ _ _ _ _ 139 [(5, .int (Int32.ofInt 0)), (4, .int x169), (0, .ref (52 + 26)), (1, .ref (52 + 1)), (2, .int e), (3, .int a)] []
                      refine cw_n aj_d23 rfl rfl ?_
                      refine cw_n aj_d23 rfl rfl ?_
                      refine cw_add aj_d23 rfl (a := a.toInt) (b := (2 : Int)) rfl rfl (by omega) (by omega) (fun x308 ex308 => ?_)
                      refine cw_Wr aj_d23 rfl rfl hT307 ?_ ?_
                      · exact ⟨rfl, (cw_ex_tr cw_ex_rf hx), hw⟩
                      · exact cw_gw (s := s) (a := _) rfl (by omega) (by omega)
                    · have q304 : x169.toInt = (33 : Int) := aw_t_ne (a := x169.toInt) (b := (33 : Int)) rfl rfl q304
                      refine cw_n aj_d23 rfl rfl ?_
                      refine cw_n aj_d23 rfl rfl ?_
                      refine cw_n aj_d23 rfl rfl ?_
                      refine cw_anyl aj_d23 rfl rfl (fun y309 ey309 => ?_)
                      refine cw_k0 (i := 26) (t := 60) (con' := cw_n27) aj_d23 htb hT175 rfl rfl [_, _, _] rfl rfl (cw_s0 hB rfl) rfl (Nat.le_of_ble_eq_true rfl) ⟨by decide, by decide⟩ (cw_tadd htb hT175 hB (by omega) hW (Int8.ofInt 6).toInt32 a y309 (by rw [ey309]; decide)) ?_
                      rintro _ h310 hT311 ⟨rfl, hx, hw⟩ _
                      show cw_W _ _ _ _ _ _ _ _ _ _ 139 [(5, .int (Int32.ofInt 0)), (4, .int x169), (0, .ref (52 + 26)), (1, .ref (52 + 1)), (2, .int e), (3, .int a)] []
                      refine cw_n aj_d23 rfl rfl ?_
                      refine cw_n aj_d23 rfl rfl ?_
                      refine cw_add aj_d23 rfl (a := a.toInt) (b := (2 : Int)) rfl rfl (by omega) (by omega) (fun x312 ex312 => ?_)
                      refine cw_Wr aj_d23 rfl rfl hT311 ?_ ?_
                      · exact ⟨rfl, (cw_ex_tr cw_ex_rf hx), hw⟩
                      · exact cw_gw (s := s) (a := _) rfl (by omega) (by omega)
            · have q271 : x169.toInt = (46 : Int) := aw_t_ne (a := x169.toInt) (b := (46 : Int)) rfl rfl q271
              refine cw_n aj_d23 rfl rfl ?_
              refine cw_n aj_d23 rfl rfl ?_
              refine cw_c (tgt := 98) aj_d23 rfl rfl (fun q313 => ?_) (fun q313 => ?_)
              · have q313 : (0 : Int) ≠ (46 : Int) := aw_t_ne (a := (0 : Int)) (b := (46 : Int)) rfl rfl q313
                refine cw_n aj_d23 rfl rfl ?_
                refine cw_n aj_d23 rfl rfl ?_
                refine cw_c (tgt := 143) aj_d23 rfl rfl (fun q314 => ?_) (fun q314 => ?_)
                · have q314 : (0 : Int) ≠ (61 : Int) := aw_t_ne (a := (0 : Int)) (b := (61 : Int)) rfl rfl q314
                  refine cw_n aj_d23 rfl rfl ?_
                  refine cw_ks0 (con' := ap_c30) aj_d23 hT175 rfl rfl rfl [_] rfl rfl (Nat.le_of_ble_eq_true rfl) ⟨by decide, by decide⟩ (cw_a1 (by omega) (ap_0_30 htb (cw_SP1c _ _ rfl rfl) cw_hK) hT175 hB rfl ⟨(cw_gw (a := x169.toInt) rfl (by omega) (by omega)), trivial⟩) ?_
                  rintro ru315 h315 hT315 ho315 hRu315
                  obtain ⟨x316, rfl, bx316⟩ := cw_rI hRu315
                  show cw_W _ _ _ _ _ _ _ _ _ _ 148 [(5, .int (Int32.ofInt 0)), (4, .int x169), (0, .ref (52 + 26)), (1, .ref (52 + 1)), (2, .int e), (3, .int a)] [.int x316]
                  refine cw_z (tgt := 160) aj_d23 rfl rfl (fun q317 => ?_) (fun q317 => ?_)
                  · have q317 : x316.toInt ≠ (0 : Int) := aw_t_ne (a := x316.toInt) (b := (0 : Int)) rfl rfl q317
                    refine cw_n aj_d23 rfl rfl ?_
                    refine cw_n aj_d23 rfl rfl ?_
                    refine cw_n aj_d23 rfl rfl ?_
                    refine cw_anyl aj_d23 rfl rfl (fun y318 ey318 => ?_)
                    refine cw_k0 (i := 26) (t := 60) (con' := cw_n27) aj_d23 htb hT315 rfl rfl [_, _, _] rfl rfl (cw_s0 hB rfl) rfl (Nat.le_of_ble_eq_true rfl) ⟨by decide, by decide⟩ (cw_tadd htb hT315 hB (by omega) (ho315.symm ▸ hW) x169 a y318 (by rw [ey318]; decide)) ?_
                    rintro _ h319 hT320 ⟨rfl, hx, hw⟩ _
                    show cw_W _ _ _ _ _ _ _ _ _ _ 168 [(5, .int (Int32.ofInt 0)), (4, .int x169), (0, .ref (52 + 26)), (1, .ref (52 + 1)), (2, .int e), (3, .int a)] []
                    refine cw_n aj_d23 rfl rfl ?_
                    refine cw_n aj_d23 rfl rfl ?_
                    refine cw_add aj_d23 rfl (a := a.toInt) (b := (1 : Int)) rfl rfl (by omega) (by omega) (fun x321 ex321 => ?_)
                    refine cw_Wr aj_d23 rfl rfl hT320 ?_ ?_
                    · exact ⟨rfl, (cw_ex_tr (cw_ex_of ho315) hx), hw⟩
                    · exact cw_gw (s := s) (a := _) rfl (by omega) (by omega)
                  · have q317 : x316.toInt = (0 : Int) := aw_t_ne (a := x316.toInt) (b := (0 : Int)) rfl rfl q317
                    refine cw_n aj_d23 rfl rfl ?_
                    refine cw_n aj_d23 rfl rfl ?_
                    refine cw_n aj_d23 rfl rfl ?_
                    refine cw_anyl aj_d23 rfl rfl (fun y322 ey322 => ?_)
                    refine cw_k0 (i := 26) (t := 60) (con' := cw_n27) aj_d23 htb hT315 rfl rfl [_, _, _] rfl rfl (cw_s0 hB rfl) rfl (Nat.le_of_ble_eq_true rfl) ⟨by decide, by decide⟩ (cw_tadd htb hT315 hB (by omega) (ho315.symm ▸ hW) (Int32.ofInt 2) a y322 (by rw [ey322]; decide)) ?_
                    rintro _ h323 hT324 ⟨rfl, hx, hw⟩ _
                    show cw_W _ _ _ _ _ _ _ _ _ _ 158 [(5, .int (Int32.ofInt 0)), (4, .int x169), (0, .ref (52 + 26)), (1, .ref (52 + 1)), (2, .int e), (3, .int a)] []
                    refine cw_n aj_d23 rfl rfl ?_
                    refine cw_Wr aj_d23 rfl rfl hT324 ?_ ?_
                    · exact ⟨rfl, (cw_ex_tr (cw_ex_of ho315) hx), hw⟩
                    · exact cw_gw (s := s) (a := _) rfl (by omega) (by omega)
                · have q314 : (0 : Int) = (61 : Int) := aw_t_ne (a := (0 : Int)) (b := (61 : Int)) rfl rfl q314
                  refine cw_n aj_d23 rfl rfl ?_
                  refine cw_n aj_d23 rfl rfl ?_
                  refine cw_c (tgt := 119) aj_d23 rfl rfl (fun q325 => ?_) (fun q325 => ?_)
                  · have q325 : x169.toInt = (33 : Int) := aw_t_eq (a := x169.toInt) (b := (33 : Int)) rfl rfl q325
                    refine cw_n aj_d23 rfl rfl ?_
                    refine cw_n aj_d23 rfl rfl ?_
                    refine cw_n aj_d23 rfl rfl ?_
                    refine cw_c (tgt := 132) aj_d23 rfl rfl (fun q326 => ?_) (fun q326 => ?_)
                    · have q326 : x169.toInt ≠ (33 : Int) := aw_t_ne (a := x169.toInt) (b := (33 : Int)) rfl rfl q326
                      refine cw_n aj_d23 rfl rfl ?_
                      refine cw_n aj_d23 rfl rfl ?_
                      refine cw_anyl aj_d23 rfl rfl (fun y327 ey327 => ?_)
                      refine cw_k0 (i := 26) (t := 60) (con' := cw_n27) aj_d23 htb hT175 rfl rfl [_, _, _] rfl rfl (cw_s0 hB rfl) rfl (Nat.le_of_ble_eq_true rfl) ⟨by decide, by decide⟩ (cw_tadd htb hT175 hB (by omega) hW (Int8.ofInt 7).toInt32 a y327 (by rw [ey327]; decide)) ?_
                      rintro _ h328 hT329 ⟨rfl, hx, hw⟩ _
                      show cw_W _ _ _ _ _ _ _ _ _ _ 139 [(5, .int (Int32.ofInt 0)), (4, .int x169), (0, .ref (52 + 26)), (1, .ref (52 + 1)), (2, .int e), (3, .int a)] []
                      refine cw_n aj_d23 rfl rfl ?_
                      refine cw_n aj_d23 rfl rfl ?_
                      refine cw_add aj_d23 rfl (a := a.toInt) (b := (2 : Int)) rfl rfl (by omega) (by omega) (fun x330 ex330 => ?_)
                      refine cw_Wr aj_d23 rfl rfl hT329 ?_ ?_
                      · exact ⟨rfl, (cw_ex_tr cw_ex_rf hx), hw⟩
                      · exact cw_gw (s := s) (a := _) rfl (by omega) (by omega)
                    · have q326 : x169.toInt = (33 : Int) := aw_t_ne (a := x169.toInt) (b := (33 : Int)) rfl rfl q326
                      refine cw_n aj_d23 rfl rfl ?_
                      refine cw_n aj_d23 rfl rfl ?_
                      refine cw_n aj_d23 rfl rfl ?_
                      refine cw_anyl aj_d23 rfl rfl (fun y331 ey331 => ?_)
                      refine cw_k0 (i := 26) (t := 60) (con' := cw_n27) aj_d23 htb hT175 rfl rfl [_, _, _] rfl rfl (cw_s0 hB rfl) rfl (Nat.le_of_ble_eq_true rfl) ⟨by decide, by decide⟩ (cw_tadd htb hT175 hB (by omega) hW (Int8.ofInt 6).toInt32 a y331 (by rw [ey331]; decide)) ?_
                      rintro _ h332 hT333 ⟨rfl, hx, hw⟩ _
                      show cw_W _ _ _ _ _ _ _ _ _ _ 139 [(5, .int (Int32.ofInt 0)), (4, .int x169), (0, .ref (52 + 26)), (1, .ref (52 + 1)), (2, .int e), (3, .int a)] []
                      refine cw_n aj_d23 rfl rfl ?_
                      refine cw_n aj_d23 rfl rfl ?_
                      refine cw_add aj_d23 rfl (a := a.toInt) (b := (2 : Int)) rfl rfl (by omega) (by omega) (fun x334 ex334 => ?_)
                      refine cw_Wr aj_d23 rfl rfl hT333 ?_ ?_
                      · exact ⟨rfl, (cw_ex_tr cw_ex_rf hx), hw⟩
                      · exact cw_gw (s := s) (a := _) rfl (by omega) (by omega)
                  · have q325 : x169.toInt ≠ (33 : Int) := aw_t_eq (a := x169.toInt) (b := (33 : Int)) rfl rfl q325
                    refine cw_n aj_d23 rfl rfl ?_
                    refine cw_n aj_d23 rfl rfl ?_
                    refine cw_c (tgt := 143) aj_d23 rfl rfl (fun q335 => ?_) (fun q335 => ?_)
                    · have q335 : x169.toInt ≠ (60 : Int) := aw_t_ne (a := x169.toInt) (b := (60 : Int)) rfl rfl q335
                      refine cw_n aj_d23 rfl rfl ?_
                      refine cw_ks0 (con' := ap_c30) aj_d23 hT175 rfl rfl rfl [_] rfl rfl (Nat.le_of_ble_eq_true rfl) ⟨by decide, by decide⟩ (cw_a1 (by omega) (ap_0_30 htb (cw_SP1c _ _ rfl rfl) cw_hK) hT175 hB rfl ⟨(cw_gw (a := x169.toInt) rfl (by omega) (by omega)), trivial⟩) ?_
                      rintro ru336 h336 hT336 ho336 hRu336
                      obtain ⟨x337, rfl, bx337⟩ := cw_rI hRu336
                      show cw_W _ _ _ _ _ _ _ _ _ _ 148 [(5, .int (Int32.ofInt 0)), (4, .int x169), (0, .ref (52 + 26)), (1, .ref (52 + 1)), (2, .int e), (3, .int a)] [.int x337]
                      refine cw_z (tgt := 160) aj_d23 rfl rfl (fun q338 => ?_) (fun q338 => ?_)
                      · have q338 : x337.toInt ≠ (0 : Int) := aw_t_ne (a := x337.toInt) (b := (0 : Int)) rfl rfl q338
                        refine cw_n aj_d23 rfl rfl ?_
                        refine cw_n aj_d23 rfl rfl ?_
                        refine cw_n aj_d23 rfl rfl ?_
                        refine cw_anyl aj_d23 rfl rfl (fun y339 ey339 => ?_)
                        refine cw_k0 (i := 26) (t := 60) (con' := cw_n27) aj_d23 htb hT336 rfl rfl [_, _, _] rfl rfl (cw_s0 hB rfl) rfl (Nat.le_of_ble_eq_true rfl) ⟨by decide, by decide⟩ (cw_tadd htb hT336 hB (by omega) (ho336.symm ▸ hW) x169 a y339 (by rw [ey339]; decide)) ?_
                        rintro _ h340 hT341 ⟨rfl, hx, hw⟩ _
                        show cw_W _ _ _ _ _ _ _ _ _ _ 168 [(5, .int (Int32.ofInt 0)), (4, .int x169), (0, .ref (52 + 26)), (1, .ref (52 + 1)), (2, .int e), (3, .int a)] []
                        refine cw_n aj_d23 rfl rfl ?_
                        refine cw_n aj_d23 rfl rfl ?_
                        refine cw_add aj_d23 rfl (a := a.toInt) (b := (1 : Int)) rfl rfl (by omega) (by omega) (fun x342 ex342 => ?_)
                        refine cw_Wr aj_d23 rfl rfl hT341 ?_ ?_
                        · exact ⟨rfl, (cw_ex_tr (cw_ex_of ho336) hx), hw⟩
                        · exact cw_gw (s := s) (a := _) rfl (by omega) (by omega)
                      · have q338 : x337.toInt = (0 : Int) := aw_t_ne (a := x337.toInt) (b := (0 : Int)) rfl rfl q338
                        refine cw_n aj_d23 rfl rfl ?_
                        refine cw_n aj_d23 rfl rfl ?_
                        refine cw_n aj_d23 rfl rfl ?_
                        refine cw_anyl aj_d23 rfl rfl (fun y343 ey343 => ?_)
                        refine cw_k0 (i := 26) (t := 60) (con' := cw_n27) aj_d23 htb hT336 rfl rfl [_, _, _] rfl rfl (cw_s0 hB rfl) rfl (Nat.le_of_ble_eq_true rfl) ⟨by decide, by decide⟩ (cw_tadd htb hT336 hB (by omega) (ho336.symm ▸ hW) (Int32.ofInt 2) a y343 (by rw [ey343]; decide)) ?_
                        rintro _ h344 hT345 ⟨rfl, hx, hw⟩ _
                        show cw_W _ _ _ _ _ _ _ _ _ _ 158 [(5, .int (Int32.ofInt 0)), (4, .int x169), (0, .ref (52 + 26)), (1, .ref (52 + 1)), (2, .int e), (3, .int a)] []
                        refine cw_n aj_d23 rfl rfl ?_
                        refine cw_Wr aj_d23 rfl rfl hT345 ?_ ?_
                        · exact ⟨rfl, (cw_ex_tr (cw_ex_of ho336) hx), hw⟩
                        · exact cw_gw (s := s) (a := _) rfl (by omega) (by omega)
                    · have q335 : x169.toInt = (60 : Int) := aw_t_ne (a := x169.toInt) (b := (60 : Int)) rfl rfl q335
                      refine cw_n aj_d23 rfl rfl ?_
                      refine cw_n aj_d23 rfl rfl ?_
                      refine cw_n aj_d23 rfl rfl ?_
                      refine cw_c (tgt := 132) aj_d23 rfl rfl (fun q346 => ?_) (fun q346 => ?_)
                      · have q346 : x169.toInt ≠ (33 : Int) := aw_t_ne (a := x169.toInt) (b := (33 : Int)) rfl rfl q346
                        refine cw_n aj_d23 rfl rfl ?_
                        refine cw_n aj_d23 rfl rfl ?_
                        refine cw_anyl aj_d23 rfl rfl (fun y347 ey347 => ?_)
                        refine cw_k0 (i := 26) (t := 60) (con' := cw_n27) aj_d23 htb hT175 rfl rfl [_, _, _] rfl rfl (cw_s0 hB rfl) rfl (Nat.le_of_ble_eq_true rfl) ⟨by decide, by decide⟩ (cw_tadd htb hT175 hB (by omega) hW (Int8.ofInt 7).toInt32 a y347 (by rw [ey347]; decide)) ?_
                        rintro _ h348 hT349 ⟨rfl, hx, hw⟩ _
                        show cw_W _ _ _ _ _ _ _ _ _ _ 139 [(5, .int (Int32.ofInt 0)), (4, .int x169), (0, .ref (52 + 26)), (1, .ref (52 + 1)), (2, .int e), (3, .int a)] []
                        refine cw_n aj_d23 rfl rfl ?_
                        refine cw_n aj_d23 rfl rfl ?_
                        refine cw_add aj_d23 rfl (a := a.toInt) (b := (2 : Int)) rfl rfl (by omega) (by omega) (fun x350 ex350 => ?_)
                        refine cw_Wr aj_d23 rfl rfl hT349 ?_ ?_
                        · exact ⟨rfl, (cw_ex_tr cw_ex_rf hx), hw⟩
                        · exact cw_gw (s := s) (a := _) rfl (by omega) (by omega)
                      · have q346 : x169.toInt = (33 : Int) := aw_t_ne (a := x169.toInt) (b := (33 : Int)) rfl rfl q346
                        refine cw_n aj_d23 rfl rfl ?_
                        refine cw_n aj_d23 rfl rfl ?_
                        refine cw_n aj_d23 rfl rfl ?_
                        refine cw_anyl aj_d23 rfl rfl (fun y351 ey351 => ?_)
                        refine cw_k0 (i := 26) (t := 60) (con' := cw_n27) aj_d23 htb hT175 rfl rfl [_, _, _] rfl rfl (cw_s0 hB rfl) rfl (Nat.le_of_ble_eq_true rfl) ⟨by decide, by decide⟩ (cw_tadd htb hT175 hB (by omega) hW (Int8.ofInt 6).toInt32 a y351 (by rw [ey351]; decide)) ?_
                        rintro _ h352 hT353 ⟨rfl, hx, hw⟩ _
                        show cw_W _ _ _ _ _ _ _ _ _ _ 139 [(5, .int (Int32.ofInt 0)), (4, .int x169), (0, .ref (52 + 26)), (1, .ref (52 + 1)), (2, .int e), (3, .int a)] []
                        refine cw_n aj_d23 rfl rfl ?_
                        refine cw_n aj_d23 rfl rfl ?_
                        refine cw_add aj_d23 rfl (a := a.toInt) (b := (2 : Int)) rfl rfl (by omega) (by omega) (fun x354 ex354 => ?_)
                        refine cw_Wr aj_d23 rfl rfl hT353 ?_ ?_
                        · exact ⟨rfl, (cw_ex_tr cw_ex_rf hx), hw⟩
                        · exact cw_gw (s := s) (a := _) rfl (by omega) (by omega)
              · have q313 : (0 : Int) = (46 : Int) := aw_t_ne (a := (0 : Int)) (b := (46 : Int)) rfl rfl q313
                refine cw_n aj_d23 rfl rfl ?_
                refine cw_n aj_d23 rfl rfl ?_
                refine cw_n aj_d23 rfl rfl ?_
                refine cw_anyl aj_d23 rfl rfl (fun y355 ey355 => ?_)
                refine cw_k0 (i := 26) (t := 60) (con' := cw_n27) aj_d23 htb hT175 rfl rfl [_, _, _] rfl rfl (cw_s0 hB rfl) rfl (Nat.le_of_ble_eq_true rfl) ⟨by decide, by decide⟩ (cw_tadd htb hT175 hB (by omega) hW (Int32.ofInt 5) a y355 (by rw [ey355]; decide)) ?_
                rintro _ h356 hT357 ⟨rfl, hx, hw⟩ _
                show cw_W _ _ _ _ _ _ _ _ _ _ 94 [(5, .int (Int32.ofInt 0)), (4, .int x169), (0, .ref (52 + 26)), (1, .ref (52 + 1)), (2, .int e), (3, .int a)] []
                refine cw_n aj_d23 rfl rfl ?_
                refine cw_n aj_d23 rfl rfl ?_
                refine cw_add aj_d23 rfl (a := a.toInt) (b := (2 : Int)) rfl rfl (by omega) (by omega) (fun x358 ex358 => ?_)
                refine cw_Wr aj_d23 rfl rfl hT357 ?_ ?_
                · exact ⟨rfl, (cw_ex_tr cw_ex_rf hx), hw⟩
                · exact cw_gw (s := s) (a := _) rfl (by omega) (by omega)
          · have q270 : x268.toInt < (4000 : Int) := aw_t_ge (a := x268.toInt) (b := (4000 : Int)) rfl ex269 q270
            refine cw_n aj_d23 rfl rfl ?_
            refine cw_n aj_d23 rfl rfl ?_
            refine cw_n aj_d23 rfl rfl ?_
            refine cw_add aj_d23 rfl (a := a.toInt) (b := (1 : Int)) rfl rfl (by omega) (by omega) (fun x359 ex359 => ?_)
            refine cw_ld (i := 1) htb.1 aj_d23 (Or.inr (Or.inl ⟨rfl, rfl⟩)) rfl a167 (a := x359.toInt) rfl (by omega) (by omega) (fun x360 ex360 => ?_)
            have b360 : 0 ≤ x360.toInt ∧ x360.toInt ≤ 65535 := by
              rw [ex360]
              exact p167c _ (by omega)
            refine cw_n aj_d23 rfl rfl ?_
            refine cw_n aj_d23 rfl rfl ?_
            show cw_W _ _ _ _ _ _ _ _ _ _ 73 [(5, .int x360), (4, .int x169), (0, .ref (52 + 26)), (1, .ref (52 + 1)), (2, .int e), (3, .int a)] []
            refine cw_n aj_d23 rfl rfl ?_
            refine cw_n aj_d23 rfl rfl ?_
            refine cw_c (tgt := 98) aj_d23 rfl rfl (fun q361 => ?_) (fun q361 => ?_)
            · have q361 : x169.toInt ≠ (46 : Int) := aw_t_ne (a := x169.toInt) (b := (46 : Int)) rfl rfl q361
              refine cw_n aj_d23 rfl rfl ?_
              refine cw_n aj_d23 rfl rfl ?_
              refine cw_c (tgt := 143) aj_d23 rfl rfl (fun q362 => ?_) (fun q362 => ?_)
              · have q362 : x360.toInt ≠ (61 : Int) := aw_t_ne (a := x360.toInt) (b := (61 : Int)) rfl rfl q362
                refine cw_n aj_d23 rfl rfl ?_
                refine cw_ks0 (con' := ap_c30) aj_d23 hT175 rfl rfl rfl [_] rfl rfl (Nat.le_of_ble_eq_true rfl) ⟨by decide, by decide⟩ (cw_a1 (by omega) (ap_0_30 htb (cw_SP1c _ _ rfl rfl) cw_hK) hT175 hB rfl ⟨(cw_gw (a := x169.toInt) rfl (by omega) (by omega)), trivial⟩) ?_
                rintro ru363 h363 hT363 ho363 hRu363
                obtain ⟨x364, rfl, bx364⟩ := cw_rI hRu363
                show cw_W _ _ _ _ _ _ _ _ _ _ 148 [(5, .int x360), (4, .int x169), (0, .ref (52 + 26)), (1, .ref (52 + 1)), (2, .int e), (3, .int a)] [.int x364]
                refine cw_z (tgt := 160) aj_d23 rfl rfl (fun q365 => ?_) (fun q365 => ?_)
                · have q365 : x364.toInt ≠ (0 : Int) := aw_t_ne (a := x364.toInt) (b := (0 : Int)) rfl rfl q365
                  refine cw_n aj_d23 rfl rfl ?_
                  refine cw_n aj_d23 rfl rfl ?_
                  refine cw_n aj_d23 rfl rfl ?_
                  refine cw_anyl aj_d23 rfl rfl (fun y366 ey366 => ?_)
                  refine cw_k0 (i := 26) (t := 60) (con' := cw_n27) aj_d23 htb hT363 rfl rfl [_, _, _] rfl rfl (cw_s0 hB rfl) rfl (Nat.le_of_ble_eq_true rfl) ⟨by decide, by decide⟩ (cw_tadd htb hT363 hB (by omega) (ho363.symm ▸ hW) x169 a y366 (by rw [ey366]; decide)) ?_
                  rintro _ h367 hT368 ⟨rfl, hx, hw⟩ _
                  show cw_W _ _ _ _ _ _ _ _ _ _ 168 [(5, .int x360), (4, .int x169), (0, .ref (52 + 26)), (1, .ref (52 + 1)), (2, .int e), (3, .int a)] []
                  refine cw_n aj_d23 rfl rfl ?_
                  refine cw_n aj_d23 rfl rfl ?_
                  refine cw_add aj_d23 rfl (a := a.toInt) (b := (1 : Int)) rfl rfl (by omega) (by omega) (fun x369 ex369 => ?_)
                  refine cw_Wr aj_d23 rfl rfl hT368 ?_ ?_
                  · exact ⟨rfl, (cw_ex_tr (cw_ex_of ho363) hx), hw⟩
                  · exact cw_gw (s := s) (a := _) rfl (by omega) (by omega)
                · have q365 : x364.toInt = (0 : Int) := aw_t_ne (a := x364.toInt) (b := (0 : Int)) rfl rfl q365
                  refine cw_n aj_d23 rfl rfl ?_
                  refine cw_n aj_d23 rfl rfl ?_
                  refine cw_n aj_d23 rfl rfl ?_
                  refine cw_anyl aj_d23 rfl rfl (fun y370 ey370 => ?_)
                  refine cw_k0 (i := 26) (t := 60) (con' := cw_n27) aj_d23 htb hT363 rfl rfl [_, _, _] rfl rfl (cw_s0 hB rfl) rfl (Nat.le_of_ble_eq_true rfl) ⟨by decide, by decide⟩ (cw_tadd htb hT363 hB (by omega) (ho363.symm ▸ hW) (Int32.ofInt 2) a y370 (by rw [ey370]; decide)) ?_
                  rintro _ h371 hT372 ⟨rfl, hx, hw⟩ _
                  show cw_W _ _ _ _ _ _ _ _ _ _ 158 [(5, .int x360), (4, .int x169), (0, .ref (52 + 26)), (1, .ref (52 + 1)), (2, .int e), (3, .int a)] []
                  refine cw_n aj_d23 rfl rfl ?_
                  refine cw_Wr aj_d23 rfl rfl hT372 ?_ ?_
                  · exact ⟨rfl, (cw_ex_tr (cw_ex_of ho363) hx), hw⟩
                  · exact cw_gw (s := s) (a := _) rfl (by omega) (by omega)
              · have q362 : x360.toInt = (61 : Int) := aw_t_ne (a := x360.toInt) (b := (61 : Int)) rfl rfl q362
                refine cw_n aj_d23 rfl rfl ?_
                refine cw_n aj_d23 rfl rfl ?_
                refine cw_c (tgt := 119) aj_d23 rfl rfl (fun q373 => ?_) (fun q373 => ?_)
                · have q373 : x169.toInt = (33 : Int) := aw_t_eq (a := x169.toInt) (b := (33 : Int)) rfl rfl q373
                  refine cw_n aj_d23 rfl rfl ?_
                  refine cw_n aj_d23 rfl rfl ?_
                  refine cw_n aj_d23 rfl rfl ?_
                  refine cw_c (tgt := 132) aj_d23 rfl rfl (fun q374 => ?_) (fun q374 => ?_)
                  · have q374 : x169.toInt ≠ (33 : Int) := aw_t_ne (a := x169.toInt) (b := (33 : Int)) rfl rfl q374
                    refine cw_n aj_d23 rfl rfl ?_
                    refine cw_n aj_d23 rfl rfl ?_
                    refine cw_anyl aj_d23 rfl rfl (fun y375 ey375 => ?_)
                    refine cw_k0 (i := 26) (t := 60) (con' := cw_n27) aj_d23 htb hT175 rfl rfl [_, _, _] rfl rfl (cw_s0 hB rfl) rfl (Nat.le_of_ble_eq_true rfl) ⟨by decide, by decide⟩ (cw_tadd htb hT175 hB (by omega) hW (Int8.ofInt 7).toInt32 a y375 (by rw [ey375]; decide)) ?_
                    rintro _ h376 hT377 ⟨rfl, hx, hw⟩ _
                    show cw_W _ _ _ _ _ _ _ _ _ _ 139 [(5, .int x360), (4, .int x169), (0, .ref (52 + 26)), (1, .ref (52 + 1)), (2, .int e), (3, .int a)] []
                    refine cw_n aj_d23 rfl rfl ?_
                    refine cw_n aj_d23 rfl rfl ?_
                    refine cw_add aj_d23 rfl (a := a.toInt) (b := (2 : Int)) rfl rfl (by omega) (by omega) (fun x378 ex378 => ?_)
                    refine cw_Wr aj_d23 rfl rfl hT377 ?_ ?_
                    · exact ⟨rfl, (cw_ex_tr cw_ex_rf hx), hw⟩
                    · exact cw_gw (s := s) (a := _) rfl (by omega) (by omega)
                  · have q374 : x169.toInt = (33 : Int) := aw_t_ne (a := x169.toInt) (b := (33 : Int)) rfl rfl q374
                    refine cw_n aj_d23 rfl rfl ?_
                    refine cw_n aj_d23 rfl rfl ?_
                    refine cw_n aj_d23 rfl rfl ?_
                    refine cw_anyl aj_d23 rfl rfl (fun y379 ey379 => ?_)
                    refine cw_k0 (i := 26) (t := 60) (con' := cw_n27) aj_d23 htb hT175 rfl rfl [_, _, _] rfl rfl (cw_s0 hB rfl) rfl (Nat.le_of_ble_eq_true rfl) ⟨by decide, by decide⟩ (cw_tadd htb hT175 hB (by omega) hW (Int8.ofInt 6).toInt32 a y379 (by rw [ey379]; decide)) ?_
                    rintro _ h380 hT381 ⟨rfl, hx, hw⟩ _
                    show cw_W _ _ _ _ _ _ _ _ _ _ 139 [(5, .int x360), (4, .int x169), (0, .ref (52 + 26)), (1, .ref (52 + 1)), (2, .int e), (3, .int a)] []
                    refine cw_n aj_d23 rfl rfl ?_
                    refine cw_n aj_d23 rfl rfl ?_
                    refine cw_add aj_d23 rfl (a := a.toInt) (b := (2 : Int)) rfl rfl (by omega) (by omega) (fun x382 ex382 => ?_)
                    refine cw_Wr aj_d23 rfl rfl hT381 ?_ ?_
                    · exact ⟨rfl, (cw_ex_tr cw_ex_rf hx), hw⟩
                    · exact cw_gw (s := s) (a := _) rfl (by omega) (by omega)
                · have q373 : x169.toInt ≠ (33 : Int) := aw_t_eq (a := x169.toInt) (b := (33 : Int)) rfl rfl q373
                  refine cw_n aj_d23 rfl rfl ?_
                  refine cw_n aj_d23 rfl rfl ?_
                  refine cw_c (tgt := 143) aj_d23 rfl rfl (fun q383 => ?_) (fun q383 => ?_)
                  · have q383 : x169.toInt ≠ (60 : Int) := aw_t_ne (a := x169.toInt) (b := (60 : Int)) rfl rfl q383
                    refine cw_n aj_d23 rfl rfl ?_
                    refine cw_ks0 (con' := ap_c30) aj_d23 hT175 rfl rfl rfl [_] rfl rfl (Nat.le_of_ble_eq_true rfl) ⟨by decide, by decide⟩ (cw_a1 (by omega) (ap_0_30 htb (cw_SP1c _ _ rfl rfl) cw_hK) hT175 hB rfl ⟨(cw_gw (a := x169.toInt) rfl (by omega) (by omega)), trivial⟩) ?_
                    rintro ru384 h384 hT384 ho384 hRu384
                    obtain ⟨x385, rfl, bx385⟩ := cw_rI hRu384
                    show cw_W _ _ _ _ _ _ _ _ _ _ 148 [(5, .int x360), (4, .int x169), (0, .ref (52 + 26)), (1, .ref (52 + 1)), (2, .int e), (3, .int a)] [.int x385]
                    refine cw_z (tgt := 160) aj_d23 rfl rfl (fun q386 => ?_) (fun q386 => ?_)
                    · have q386 : x385.toInt ≠ (0 : Int) := aw_t_ne (a := x385.toInt) (b := (0 : Int)) rfl rfl q386
                      refine cw_n aj_d23 rfl rfl ?_
                      refine cw_n aj_d23 rfl rfl ?_
                      refine cw_n aj_d23 rfl rfl ?_
                      refine cw_anyl aj_d23 rfl rfl (fun y387 ey387 => ?_)
                      refine cw_k0 (i := 26) (t := 60) (con' := cw_n27) aj_d23 htb hT384 rfl rfl [_, _, _] rfl rfl (cw_s0 hB rfl) rfl (Nat.le_of_ble_eq_true rfl) ⟨by decide, by decide⟩ (cw_tadd htb hT384 hB (by omega) (ho384.symm ▸ hW) x169 a y387 (by rw [ey387]; decide)) ?_
                      rintro _ h388 hT389 ⟨rfl, hx, hw⟩ _
                      show cw_W _ _ _ _ _ _ _ _ _ _ 168 [(5, .int x360), (4, .int x169), (0, .ref (52 + 26)), (1, .ref (52 + 1)), (2, .int e), (3, .int a)] []
                      refine cw_n aj_d23 rfl rfl ?_
                      refine cw_n aj_d23 rfl rfl ?_
                      refine cw_add aj_d23 rfl (a := a.toInt) (b := (1 : Int)) rfl rfl (by omega) (by omega) (fun x390 ex390 => ?_)
                      refine cw_Wr aj_d23 rfl rfl hT389 ?_ ?_
                      · exact ⟨rfl, (cw_ex_tr (cw_ex_of ho384) hx), hw⟩
                      · exact cw_gw (s := s) (a := _) rfl (by omega) (by omega)
                    · have q386 : x385.toInt = (0 : Int) := aw_t_ne (a := x385.toInt) (b := (0 : Int)) rfl rfl q386
                      refine cw_n aj_d23 rfl rfl ?_
                      refine cw_n aj_d23 rfl rfl ?_
                      refine cw_n aj_d23 rfl rfl ?_
                      refine cw_anyl aj_d23 rfl rfl (fun y391 ey391 => ?_)
                      refine cw_k0 (i := 26) (t := 60) (con' := cw_n27) aj_d23 htb hT384 rfl rfl [_, _, _] rfl rfl (cw_s0 hB rfl) rfl (Nat.le_of_ble_eq_true rfl) ⟨by decide, by decide⟩ (cw_tadd htb hT384 hB (by omega) (ho384.symm ▸ hW) (Int32.ofInt 2) a y391 (by rw [ey391]; decide)) ?_
                      rintro _ h392 hT393 ⟨rfl, hx, hw⟩ _
                      show cw_W _ _ _ _ _ _ _ _ _ _ 158 [(5, .int x360), (4, .int x169), (0, .ref (52 + 26)), (1, .ref (52 + 1)), (2, .int e), (3, .int a)] []
                      refine cw_n aj_d23 rfl rfl ?_
                      refine cw_Wr aj_d23 rfl rfl hT393 ?_ ?_
                      · exact ⟨rfl, (cw_ex_tr (cw_ex_of ho384) hx), hw⟩
                      · exact cw_gw (s := s) (a := _) rfl (by omega) (by omega)
                  · have q383 : x169.toInt = (60 : Int) := aw_t_ne (a := x169.toInt) (b := (60 : Int)) rfl rfl q383
                    refine cw_n aj_d23 rfl rfl ?_
                    refine cw_n aj_d23 rfl rfl ?_
                    refine cw_n aj_d23 rfl rfl ?_
                    refine cw_c (tgt := 132) aj_d23 rfl rfl (fun q394 => ?_) (fun q394 => ?_)
                    · have q394 : x169.toInt ≠ (33 : Int) := aw_t_ne (a := x169.toInt) (b := (33 : Int)) rfl rfl q394
                      refine cw_n aj_d23 rfl rfl ?_
                      refine cw_n aj_d23 rfl rfl ?_
                      refine cw_anyl aj_d23 rfl rfl (fun y395 ey395 => ?_)
                      refine cw_k0 (i := 26) (t := 60) (con' := cw_n27) aj_d23 htb hT175 rfl rfl [_, _, _] rfl rfl (cw_s0 hB rfl) rfl (Nat.le_of_ble_eq_true rfl) ⟨by decide, by decide⟩ (cw_tadd htb hT175 hB (by omega) hW (Int8.ofInt 7).toInt32 a y395 (by rw [ey395]; decide)) ?_
                      rintro _ h396 hT397 ⟨rfl, hx, hw⟩ _
                      show cw_W _ _ _ _ _ _ _ _ _ _ 139 [(5, .int x360), (4, .int x169), (0, .ref (52 + 26)), (1, .ref (52 + 1)), (2, .int e), (3, .int a)] []
                      refine cw_n aj_d23 rfl rfl ?_
                      refine cw_n aj_d23 rfl rfl ?_
                      refine cw_add aj_d23 rfl (a := a.toInt) (b := (2 : Int)) rfl rfl (by omega) (by omega) (fun x398 ex398 => ?_)
                      refine cw_Wr aj_d23 rfl rfl hT397 ?_ ?_
                      · exact ⟨rfl, (cw_ex_tr cw_ex_rf hx), hw⟩
                      · exact cw_gw (s := s) (a := _) rfl (by omega) (by omega)
                    · have q394 : x169.toInt = (33 : Int) := aw_t_ne (a := x169.toInt) (b := (33 : Int)) rfl rfl q394
                      refine cw_n aj_d23 rfl rfl ?_
                      refine cw_n aj_d23 rfl rfl ?_
                      refine cw_n aj_d23 rfl rfl ?_
                      refine cw_anyl aj_d23 rfl rfl (fun y399 ey399 => ?_)
                      refine cw_k0 (i := 26) (t := 60) (con' := cw_n27) aj_d23 htb hT175 rfl rfl [_, _, _] rfl rfl (cw_s0 hB rfl) rfl (Nat.le_of_ble_eq_true rfl) ⟨by decide, by decide⟩ (cw_tadd htb hT175 hB (by omega) hW (Int8.ofInt 6).toInt32 a y399 (by rw [ey399]; decide)) ?_
                      rintro _ h400 hT401 ⟨rfl, hx, hw⟩ _
                      show cw_W _ _ _ _ _ _ _ _ _ _ 139 [(5, .int x360), (4, .int x169), (0, .ref (52 + 26)), (1, .ref (52 + 1)), (2, .int e), (3, .int a)] []
                      refine cw_n aj_d23 rfl rfl ?_
                      refine cw_n aj_d23 rfl rfl ?_
                      refine cw_add aj_d23 rfl (a := a.toInt) (b := (2 : Int)) rfl rfl (by omega) (by omega) (fun x402 ex402 => ?_)
                      refine cw_Wr aj_d23 rfl rfl hT401 ?_ ?_
                      · exact ⟨rfl, (cw_ex_tr cw_ex_rf hx), hw⟩
                      · exact cw_gw (s := s) (a := _) rfl (by omega) (by omega)
            · have q361 : x169.toInt = (46 : Int) := aw_t_ne (a := x169.toInt) (b := (46 : Int)) rfl rfl q361
              refine cw_n aj_d23 rfl rfl ?_
              refine cw_n aj_d23 rfl rfl ?_
              refine cw_c (tgt := 98) aj_d23 rfl rfl (fun q403 => ?_) (fun q403 => ?_)
              · have q403 : x360.toInt ≠ (46 : Int) := aw_t_ne (a := x360.toInt) (b := (46 : Int)) rfl rfl q403
                refine cw_n aj_d23 rfl rfl ?_
                refine cw_n aj_d23 rfl rfl ?_
                refine cw_c (tgt := 143) aj_d23 rfl rfl (fun q404 => ?_) (fun q404 => ?_)
                · have q404 : x360.toInt ≠ (61 : Int) := aw_t_ne (a := x360.toInt) (b := (61 : Int)) rfl rfl q404
                  refine cw_n aj_d23 rfl rfl ?_
                  refine cw_ks0 (con' := ap_c30) aj_d23 hT175 rfl rfl rfl [_] rfl rfl (Nat.le_of_ble_eq_true rfl) ⟨by decide, by decide⟩ (cw_a1 (by omega) (ap_0_30 htb (cw_SP1c _ _ rfl rfl) cw_hK) hT175 hB rfl ⟨(cw_gw (a := x169.toInt) rfl (by omega) (by omega)), trivial⟩) ?_
                  rintro ru405 h405 hT405 ho405 hRu405
                  obtain ⟨x406, rfl, bx406⟩ := cw_rI hRu405
                  show cw_W _ _ _ _ _ _ _ _ _ _ 148 [(5, .int x360), (4, .int x169), (0, .ref (52 + 26)), (1, .ref (52 + 1)), (2, .int e), (3, .int a)] [.int x406]
                  refine cw_z (tgt := 160) aj_d23 rfl rfl (fun q407 => ?_) (fun q407 => ?_)
                  · have q407 : x406.toInt ≠ (0 : Int) := aw_t_ne (a := x406.toInt) (b := (0 : Int)) rfl rfl q407
                    refine cw_n aj_d23 rfl rfl ?_
                    refine cw_n aj_d23 rfl rfl ?_
                    refine cw_n aj_d23 rfl rfl ?_
                    refine cw_anyl aj_d23 rfl rfl (fun y408 ey408 => ?_)
                    refine cw_k0 (i := 26) (t := 60) (con' := cw_n27) aj_d23 htb hT405 rfl rfl [_, _, _] rfl rfl (cw_s0 hB rfl) rfl (Nat.le_of_ble_eq_true rfl) ⟨by decide, by decide⟩ (cw_tadd htb hT405 hB (by omega) (ho405.symm ▸ hW) x169 a y408 (by rw [ey408]; decide)) ?_
                    rintro _ h409 hT410 ⟨rfl, hx, hw⟩ _
                    show cw_W _ _ _ _ _ _ _ _ _ _ 168 [(5, .int x360), (4, .int x169), (0, .ref (52 + 26)), (1, .ref (52 + 1)), (2, .int e), (3, .int a)] []
                    refine cw_n aj_d23 rfl rfl ?_
                    refine cw_n aj_d23 rfl rfl ?_
                    refine cw_add aj_d23 rfl (a := a.toInt) (b := (1 : Int)) rfl rfl (by omega) (by omega) (fun x411 ex411 => ?_)
                    refine cw_Wr aj_d23 rfl rfl hT410 ?_ ?_
                    · exact ⟨rfl, (cw_ex_tr (cw_ex_of ho405) hx), hw⟩
                    · exact cw_gw (s := s) (a := _) rfl (by omega) (by omega)
                  · have q407 : x406.toInt = (0 : Int) := aw_t_ne (a := x406.toInt) (b := (0 : Int)) rfl rfl q407
                    refine cw_n aj_d23 rfl rfl ?_
                    refine cw_n aj_d23 rfl rfl ?_
                    refine cw_n aj_d23 rfl rfl ?_
                    refine cw_anyl aj_d23 rfl rfl (fun y412 ey412 => ?_)
                    refine cw_k0 (i := 26) (t := 60) (con' := cw_n27) aj_d23 htb hT405 rfl rfl [_, _, _] rfl rfl (cw_s0 hB rfl) rfl (Nat.le_of_ble_eq_true rfl) ⟨by decide, by decide⟩ (cw_tadd htb hT405 hB (by omega) (ho405.symm ▸ hW) (Int32.ofInt 2) a y412 (by rw [ey412]; decide)) ?_
                    rintro _ h413 hT414 ⟨rfl, hx, hw⟩ _
                    show cw_W _ _ _ _ _ _ _ _ _ _ 158 [(5, .int x360), (4, .int x169), (0, .ref (52 + 26)), (1, .ref (52 + 1)), (2, .int e), (3, .int a)] []
                    refine cw_n aj_d23 rfl rfl ?_
                    refine cw_Wr aj_d23 rfl rfl hT414 ?_ ?_
                    · exact ⟨rfl, (cw_ex_tr (cw_ex_of ho405) hx), hw⟩
                    · exact cw_gw (s := s) (a := _) rfl (by omega) (by omega)
                · have q404 : x360.toInt = (61 : Int) := aw_t_ne (a := x360.toInt) (b := (61 : Int)) rfl rfl q404
                  refine cw_n aj_d23 rfl rfl ?_
                  refine cw_n aj_d23 rfl rfl ?_
                  refine cw_c (tgt := 119) aj_d23 rfl rfl (fun q415 => ?_) (fun q415 => ?_)
                  · have q415 : x169.toInt = (33 : Int) := aw_t_eq (a := x169.toInt) (b := (33 : Int)) rfl rfl q415
                    refine cw_n aj_d23 rfl rfl ?_
                    refine cw_n aj_d23 rfl rfl ?_
                    refine cw_n aj_d23 rfl rfl ?_
                    refine cw_c (tgt := 132) aj_d23 rfl rfl (fun q416 => ?_) (fun q416 => ?_)
                    · have q416 : x169.toInt ≠ (33 : Int) := aw_t_ne (a := x169.toInt) (b := (33 : Int)) rfl rfl q416
                      refine cw_n aj_d23 rfl rfl ?_
                      refine cw_n aj_d23 rfl rfl ?_
                      refine cw_anyl aj_d23 rfl rfl (fun y417 ey417 => ?_)
                      refine cw_k0 (i := 26) (t := 60) (con' := cw_n27) aj_d23 htb hT175 rfl rfl [_, _, _] rfl rfl (cw_s0 hB rfl) rfl (Nat.le_of_ble_eq_true rfl) ⟨by decide, by decide⟩ (cw_tadd htb hT175 hB (by omega) hW (Int8.ofInt 7).toInt32 a y417 (by rw [ey417]; decide)) ?_
                      rintro _ h418 hT419 ⟨rfl, hx, hw⟩ _
                      show cw_W _ _ _ _ _ _ _ _ _ _ 139 [(5, .int x360), (4, .int x169), (0, .ref (52 + 26)), (1, .ref (52 + 1)), (2, .int e), (3, .int a)] []
                      refine cw_n aj_d23 rfl rfl ?_
                      refine cw_n aj_d23 rfl rfl ?_
                      refine cw_add aj_d23 rfl (a := a.toInt) (b := (2 : Int)) rfl rfl (by omega) (by omega) (fun x420 ex420 => ?_)
                      refine cw_Wr aj_d23 rfl rfl hT419 ?_ ?_
                      · exact ⟨rfl, (cw_ex_tr cw_ex_rf hx), hw⟩
                      · exact cw_gw (s := s) (a := _) rfl (by omega) (by omega)
                    · have q416 : x169.toInt = (33 : Int) := aw_t_ne (a := x169.toInt) (b := (33 : Int)) rfl rfl q416
                      refine cw_n aj_d23 rfl rfl ?_
                      refine cw_n aj_d23 rfl rfl ?_
                      refine cw_n aj_d23 rfl rfl ?_
                      refine cw_anyl aj_d23 rfl rfl (fun y421 ey421 => ?_)
                      refine cw_k0 (i := 26) (t := 60) (con' := cw_n27) aj_d23 htb hT175 rfl rfl [_, _, _] rfl rfl (cw_s0 hB rfl) rfl (Nat.le_of_ble_eq_true rfl) ⟨by decide, by decide⟩ (cw_tadd htb hT175 hB (by omega) hW (Int8.ofInt 6).toInt32 a y421 (by rw [ey421]; decide)) ?_
                      rintro _ h422 hT423 ⟨rfl, hx, hw⟩ _
                      show cw_W _ _ _ _ _ _ _ _ _ _ 139 [(5, .int x360), (4, .int x169), (0, .ref (52 + 26)), (1, .ref (52 + 1)), (2, .int e), (3, .int a)] []
                      refine cw_n aj_d23 rfl rfl ?_
                      refine cw_n aj_d23 rfl rfl ?_
                      refine cw_add aj_d23 rfl (a := a.toInt) (b := (2 : Int)) rfl rfl (by omega) (by omega) (fun x424 ex424 => ?_)
                      refine cw_Wr aj_d23 rfl rfl hT423 ?_ ?_
                      · exact ⟨rfl, (cw_ex_tr cw_ex_rf hx), hw⟩
                      · exact cw_gw (s := s) (a := _) rfl (by omega) (by omega)
                  · have q415 : x169.toInt ≠ (33 : Int) := aw_t_eq (a := x169.toInt) (b := (33 : Int)) rfl rfl q415
                    refine cw_n aj_d23 rfl rfl ?_
                    refine cw_n aj_d23 rfl rfl ?_
                    refine cw_c (tgt := 143) aj_d23 rfl rfl (fun q425 => ?_) (fun q425 => ?_)
                    · have q425 : x169.toInt ≠ (60 : Int) := aw_t_ne (a := x169.toInt) (b := (60 : Int)) rfl rfl q425
                      refine cw_n aj_d23 rfl rfl ?_
                      refine cw_ks0 (con' := ap_c30) aj_d23 hT175 rfl rfl rfl [_] rfl rfl (Nat.le_of_ble_eq_true rfl) ⟨by decide, by decide⟩ (cw_a1 (by omega) (ap_0_30 htb (cw_SP1c _ _ rfl rfl) cw_hK) hT175 hB rfl ⟨(cw_gw (a := x169.toInt) rfl (by omega) (by omega)), trivial⟩) ?_
                      rintro ru426 h426 hT426 ho426 hRu426
                      obtain ⟨x427, rfl, bx427⟩ := cw_rI hRu426
                      show cw_W _ _ _ _ _ _ _ _ _ _ 148 [(5, .int x360), (4, .int x169), (0, .ref (52 + 26)), (1, .ref (52 + 1)), (2, .int e), (3, .int a)] [.int x427]
                      refine cw_z (tgt := 160) aj_d23 rfl rfl (fun q428 => ?_) (fun q428 => ?_)
                      · have q428 : x427.toInt ≠ (0 : Int) := aw_t_ne (a := x427.toInt) (b := (0 : Int)) rfl rfl q428
                        refine cw_n aj_d23 rfl rfl ?_
                        refine cw_n aj_d23 rfl rfl ?_
                        refine cw_n aj_d23 rfl rfl ?_
                        refine cw_anyl aj_d23 rfl rfl (fun y429 ey429 => ?_)
                        refine cw_k0 (i := 26) (t := 60) (con' := cw_n27) aj_d23 htb hT426 rfl rfl [_, _, _] rfl rfl (cw_s0 hB rfl) rfl (Nat.le_of_ble_eq_true rfl) ⟨by decide, by decide⟩ (cw_tadd htb hT426 hB (by omega) (ho426.symm ▸ hW) x169 a y429 (by rw [ey429]; decide)) ?_
                        rintro _ h430 hT431 ⟨rfl, hx, hw⟩ _
                        show cw_W _ _ _ _ _ _ _ _ _ _ 168 [(5, .int x360), (4, .int x169), (0, .ref (52 + 26)), (1, .ref (52 + 1)), (2, .int e), (3, .int a)] []
                        refine cw_n aj_d23 rfl rfl ?_
                        refine cw_n aj_d23 rfl rfl ?_
                        refine cw_add aj_d23 rfl (a := a.toInt) (b := (1 : Int)) rfl rfl (by omega) (by omega) (fun x432 ex432 => ?_)
                        refine cw_Wr aj_d23 rfl rfl hT431 ?_ ?_
                        · exact ⟨rfl, (cw_ex_tr (cw_ex_of ho426) hx), hw⟩
                        · exact cw_gw (s := s) (a := _) rfl (by omega) (by omega)
                      · have q428 : x427.toInt = (0 : Int) := aw_t_ne (a := x427.toInt) (b := (0 : Int)) rfl rfl q428
                        refine cw_n aj_d23 rfl rfl ?_
                        refine cw_n aj_d23 rfl rfl ?_
                        refine cw_n aj_d23 rfl rfl ?_
                        refine cw_anyl aj_d23 rfl rfl (fun y433 ey433 => ?_)
                        refine cw_k0 (i := 26) (t := 60) (con' := cw_n27) aj_d23 htb hT426 rfl rfl [_, _, _] rfl rfl (cw_s0 hB rfl) rfl (Nat.le_of_ble_eq_true rfl) ⟨by decide, by decide⟩ (cw_tadd htb hT426 hB (by omega) (ho426.symm ▸ hW) (Int32.ofInt 2) a y433 (by rw [ey433]; decide)) ?_
                        rintro _ h434 hT435 ⟨rfl, hx, hw⟩ _
                        show cw_W _ _ _ _ _ _ _ _ _ _ 158 [(5, .int x360), (4, .int x169), (0, .ref (52 + 26)), (1, .ref (52 + 1)), (2, .int e), (3, .int a)] []
                        refine cw_n aj_d23 rfl rfl ?_
                        refine cw_Wr aj_d23 rfl rfl hT435 ?_ ?_
                        · exact ⟨rfl, (cw_ex_tr (cw_ex_of ho426) hx), hw⟩
                        · exact cw_gw (s := s) (a := _) rfl (by omega) (by omega)
                    · have q425 : x169.toInt = (60 : Int) := aw_t_ne (a := x169.toInt) (b := (60 : Int)) rfl rfl q425
                      refine cw_n aj_d23 rfl rfl ?_
                      refine cw_n aj_d23 rfl rfl ?_
                      refine cw_n aj_d23 rfl rfl ?_
                      refine cw_c (tgt := 132) aj_d23 rfl rfl (fun q436 => ?_) (fun q436 => ?_)
                      · have q436 : x169.toInt ≠ (33 : Int) := aw_t_ne (a := x169.toInt) (b := (33 : Int)) rfl rfl q436
                        refine cw_n aj_d23 rfl rfl ?_
                        refine cw_n aj_d23 rfl rfl ?_
                        refine cw_anyl aj_d23 rfl rfl (fun y437 ey437 => ?_)
                        refine cw_k0 (i := 26) (t := 60) (con' := cw_n27) aj_d23 htb hT175 rfl rfl [_, _, _] rfl rfl (cw_s0 hB rfl) rfl (Nat.le_of_ble_eq_true rfl) ⟨by decide, by decide⟩ (cw_tadd htb hT175 hB (by omega) hW (Int8.ofInt 7).toInt32 a y437 (by rw [ey437]; decide)) ?_
                        rintro _ h438 hT439 ⟨rfl, hx, hw⟩ _
                        show cw_W _ _ _ _ _ _ _ _ _ _ 139 [(5, .int x360), (4, .int x169), (0, .ref (52 + 26)), (1, .ref (52 + 1)), (2, .int e), (3, .int a)] []
                        refine cw_n aj_d23 rfl rfl ?_
                        refine cw_n aj_d23 rfl rfl ?_
                        refine cw_add aj_d23 rfl (a := a.toInt) (b := (2 : Int)) rfl rfl (by omega) (by omega) (fun x440 ex440 => ?_)
                        refine cw_Wr aj_d23 rfl rfl hT439 ?_ ?_
                        · exact ⟨rfl, (cw_ex_tr cw_ex_rf hx), hw⟩
                        · exact cw_gw (s := s) (a := _) rfl (by omega) (by omega)
                      · have q436 : x169.toInt = (33 : Int) := aw_t_ne (a := x169.toInt) (b := (33 : Int)) rfl rfl q436
                        refine cw_n aj_d23 rfl rfl ?_
                        refine cw_n aj_d23 rfl rfl ?_
                        refine cw_n aj_d23 rfl rfl ?_
                        refine cw_anyl aj_d23 rfl rfl (fun y441 ey441 => ?_)
                        refine cw_k0 (i := 26) (t := 60) (con' := cw_n27) aj_d23 htb hT175 rfl rfl [_, _, _] rfl rfl (cw_s0 hB rfl) rfl (Nat.le_of_ble_eq_true rfl) ⟨by decide, by decide⟩ (cw_tadd htb hT175 hB (by omega) hW (Int8.ofInt 6).toInt32 a y441 (by rw [ey441]; decide)) ?_
                        rintro _ h442 hT443 ⟨rfl, hx, hw⟩ _
                        show cw_W _ _ _ _ _ _ _ _ _ _ 139 [(5, .int x360), (4, .int x169), (0, .ref (52 + 26)), (1, .ref (52 + 1)), (2, .int e), (3, .int a)] []
                        refine cw_n aj_d23 rfl rfl ?_
                        refine cw_n aj_d23 rfl rfl ?_
                        refine cw_add aj_d23 rfl (a := a.toInt) (b := (2 : Int)) rfl rfl (by omega) (by omega) (fun x444 ex444 => ?_)
                        refine cw_Wr aj_d23 rfl rfl hT443 ?_ ?_
                        · exact ⟨rfl, (cw_ex_tr cw_ex_rf hx), hw⟩
                        · exact cw_gw (s := s) (a := _) rfl (by omega) (by omega)
              · have q403 : x360.toInt = (46 : Int) := aw_t_ne (a := x360.toInt) (b := (46 : Int)) rfl rfl q403
                refine cw_n aj_d23 rfl rfl ?_
                refine cw_n aj_d23 rfl rfl ?_
                refine cw_n aj_d23 rfl rfl ?_
                refine cw_anyl aj_d23 rfl rfl (fun y445 ey445 => ?_)
                refine cw_k0 (i := 26) (t := 60) (con' := cw_n27) aj_d23 htb hT175 rfl rfl [_, _, _] rfl rfl (cw_s0 hB rfl) rfl (Nat.le_of_ble_eq_true rfl) ⟨by decide, by decide⟩ (cw_tadd htb hT175 hB (by omega) hW (Int32.ofInt 5) a y445 (by rw [ey445]; decide)) ?_
                rintro _ h446 hT447 ⟨rfl, hx, hw⟩ _
                show cw_W _ _ _ _ _ _ _ _ _ _ 94 [(5, .int x360), (4, .int x169), (0, .ref (52 + 26)), (1, .ref (52 + 1)), (2, .int e), (3, .int a)] []
                refine cw_n aj_d23 rfl rfl ?_
                refine cw_n aj_d23 rfl rfl ?_
                refine cw_add aj_d23 rfl (a := a.toInt) (b := (2 : Int)) rfl rfl (by omega) (by omega) (fun x448 ex448 => ?_)
                refine cw_Wr aj_d23 rfl rfl hT447 ?_ ?_
                · exact ⟨rfl, (cw_ex_tr cw_ex_rf hx), hw⟩
                · exact cw_gw (s := s) (a := _) rfl (by omega) (by omega)
      · have q177 : x176.toInt ≠ (0 : Int) := aw_t_eq (a := x176.toInt) (b := (0 : Int)) rfl rfl q177
        refine cw_n aj_d23 rfl rfl ?_
        refine cw_n aj_d23 rfl rfl ?_
        refine cw_n aj_d23 rfl rfl ?_
        refine cw_n aj_d23 rfl rfl ?_
        refine cw_k0 (i := 26) (t := 60) (con' := cw_n29) aj_d23 htb hT175 rfl rfl [_, _, _] rfl rfl (cw_s0 hB rfl) rfl (Nat.le_of_ble_eq_true rfl) ⟨by decide, by decide⟩ (cw_scanNumber htb hT175 hB (by omega) hW (a := a) (e := e) (by omega) (by omega) (by omega)) ?_
        rintro ru449 h449 hT449 ⟨hxu449, hwu449⟩ hRu449
        obtain ⟨x450, rfl, bx450⟩ := cw_rI hRu449
        show cw_W _ _ _ _ _ _ _ _ _ _ 46 [(4, .int x169), (0, .ref (52 + 26)), (1, .ref (52 + 1)), (2, .int e), (3, .int a)] [.int x450]
        refine cw_Wr aj_d23 rfl rfl hT449 ?_ ?_
        · exact ⟨rfl, (cw_ex_tr cw_ex_rf hxu449), hwu449⟩
        · exact cw_gw (s := s) (a := _) rfl (by omega) (by omega)
    · have q173 : x172.toInt ≠ (0 : Int) := aw_t_eq (a := x172.toInt) (b := (0 : Int)) rfl rfl q173
      refine cw_n aj_d23 rfl rfl ?_
      refine cw_n aj_d23 rfl rfl ?_
      refine cw_n aj_d23 rfl rfl ?_
      refine cw_n aj_d23 rfl rfl ?_
      refine cw_k0 (i := 26) (t := 60) (con' := cw_n25) aj_d23 htb hT171 rfl rfl [_, _, _] rfl rfl (cw_s0 hB rfl) rfl (Nat.le_of_ble_eq_true rfl) ⟨by decide, by decide⟩ (cw_scanName htb hT171 hB (by omega) hW (a := a) (e := e) (by omega) (by omega) (by omega)) ?_
      rintro ru451 h451 hT451 ⟨hxu451, hwu451⟩ hRu451
      obtain ⟨x452, rfl, bx452⟩ := cw_rI hRu451
      show cw_W _ _ _ _ _ _ _ _ _ _ 30 [(4, .int x169), (0, .ref (52 + 26)), (1, .ref (52 + 1)), (2, .int e), (3, .int a)] [.int x452]
      refine cw_Wr aj_d23 rfl rfl hT451 ?_ ?_
      · exact ⟨rfl, (cw_ex_tr cw_ex_rf hxu451), hwu451⟩
      · exact cw_gw (s := s) (a := _) rfl (by omega) (by omega)
abbrev cw_n21 : ak_Con := (21, [.inr (some ([60], false)), .inr (some ([64], false)), .inl (0, 4000)], none, ([76, 77, 78], [(8, 3)]), [], [], [], 0, 0, [], [], [])
theorem cw_scan_x {o0 : cw_O} {lv : aj_V} {kc ks : Nat} {e : Int32} (htb : ak_tbOK ak_C0 tb) (hT : ak_Ty ak_C0 s h) (hB : cw_B s) (hd : 5 ≤ d + 1) (hE : cw_ex [26, 27, 28, 29] o0 (cw_o h)) (hW : cw_wds (cw_o h)) (hl0 : aj_lv lv 0 = some (.ref (52 + 26))) (hl2 : aj_lv lv 2 = some (.int e)) : cw_W ak_C0 (fun s' _ h' => s' = s ∧ cw_ex [26, 27, 28, 29] o0 (cw_o h') ∧ cw_wds (cw_o h')) tb d aj_m21 cw_n21 s h kc ks 87 lv [] := by
  refine cw_l2 aj_d21 rfl rfl hl0 ?_
  refine cw_n aj_d21 rfl rfl ?_
  refine cw_l0 aj_d21 rfl rfl hl2 ?_
  refine cw_anyl aj_d21 rfl rfl (fun y453 ey453 => ?_)
  refine cw_k0 (i := 26) (t := 60) (con' := cw_n27) aj_d21 htb hT rfl rfl [_, _, _] rfl rfl (cw_s0 hB rfl) rfl (Nat.le_of_ble_eq_true rfl) ⟨by decide, by decide⟩ (cw_tadd htb hT hB (by omega) hW (Int32.ofInt 1) e y453 (by rw [ey453]; decide)) ?_
  rintro _ h454 hT455 ⟨rfl, hx, hw⟩ _
  show cw_W _ _ _ _ _ _ _ _ _ _ 94 lv []
  refine cw_Wr aj_d21 rfl rfl hT455 ?_ ?_
  · exact ⟨rfl, (cw_ex_tr hE hx), hw⟩
  · trivial
theorem cw_scan_l {o0 : cw_O} {d : Nat} (hd : 5 ≤ d + 1) : ∀ (n : Nat) {s : List Nat} {h : aj_H} {lv : aj_V} {kc ks : Nat} {e g x : Int32} (htb : ak_tbOK ak_C0 tb) (hT : ak_Ty ak_C0 s h) (hB : cw_B s) (hE : cw_ex [26, 27, 28, 29] o0 (cw_o h)) (hW : cw_wds (cw_o h)) (hl0 : aj_lv lv 0 = some (.ref (52 + 26))) (hl1 : aj_lv lv 1 = some (.ref (52 + 1))) (hl2 : aj_lv lv 2 = some (.int e)) (hl3 : aj_lv lv 3 = some (.int g)) (hl4 : aj_lv lv 4 = some (.int x)) (he : e.toInt ≤ 4000) (hg : 0 ≤ g.toInt ∧ g.toInt ≤ 1) (hx0 : 0 ≤ x.toInt ∨ g.toInt = 0) (hx1 : x.toInt ≤ 4002), (g.toInt = 0 ∨ 4003 - x.toInt ≤ n) → cw_W ak_C0 (fun s' _ h' => s' = s ∧ cw_ex [26, 27, 28, 29] o0 (cw_o h') ∧ cw_wds (cw_o h')) tb d aj_m21 cw_n21 s h kc ks 10 lv [] := by
  intro n
  induction n with
  | zero =>
    intro s h lv kc ks e g x htb hT hB hE hW hl0 hl1 hl2 hl3 hl4 he hg hx0 hx1 hn
    refine cw_l0 aj_d21 rfl rfl hl3 ?_
    refine cw_z (tgt := 87) aj_d21 rfl rfl (fun q456 => ?_) (fun q456 => ?_)
    · have q456 : g.toInt = (0 : Int) := aw_t_eq (a := g.toInt) (b := (0 : Int)) rfl rfl q456
      exact cw_scan_x htb hT hB hd hE hW hl0 hl2
    · have q456 : g.toInt ≠ (0 : Int) := aw_t_eq (a := g.toInt) (b := (0 : Int)) rfl rfl q456
      exfalso
      omega
  | succ n ih =>
    intro s h lv kc ks e g x htb hT hB hE hW hl0 hl1 hl2 hl3 hl4 he hg hx0 hx1 hn
    refine cw_l0 aj_d21 rfl rfl hl3 ?_
    refine cw_z (tgt := 87) aj_d21 rfl rfl (fun q457 => ?_) (fun q457 => ?_)
    · have q457 : g.toInt = (0 : Int) := aw_t_eq (a := g.toInt) (b := (0 : Int)) rfl rfl q457
      exact cw_scan_x htb hT hB hd hE hW hl0 hl2
    · have q457 : g.toInt ≠ (0 : Int) := aw_t_eq (a := g.toInt) (b := (0 : Int)) rfl rfl q457
      refine cw_l0 aj_d21 rfl rfl hl4 ?_
      refine cw_l0 aj_d21 rfl rfl hl2 ?_
      refine cw_c (tgt := 87) aj_d21 rfl rfl (fun q458 => ?_) (fun q458 => ?_)
      · have q458 : x.toInt ≥ e.toInt := aw_t_ge (a := x.toInt) (b := e.toInt) rfl rfl q458
        exact cw_scan_x htb hT hB hd hE hW hl0 hl2
      · have q458 : x.toInt < e.toInt := aw_t_ge (a := x.toInt) (b := e.toInt) rfl rfl q458
        refine cw_l0 aj_d21 rfl rfl hl4 ?_
        refine cw_l2 aj_d21 rfl rfl hl1 ?_
        obtain ⟨n460, z460, a460, p460l, p460r, p460⟩ := cw_tyA (i := 1) (t := 64) (kd := 3) (n1 := 4000) (n2 := 4000) (y := (.inl (0, 65535))) hT (cw_s0 hB rfl) rfl
        obtain rfl : n460 = 4000 := Nat.le_antisymm p460r p460l
        obtain ⟨fn460, rfl, p460c⟩ := cw_xi p460
        refine cw_alen (i := 1) htb.1 aj_d21 rfl a460 (by decide) (by omega) (fun x459 ex459 => ?_)
        refine cw_c (tgt := 87) aj_d21 rfl rfl (fun q461 => ?_) (fun q461 => ?_)
        · have q461 : x.toInt ≥ (4000 : Int) := aw_t_ge (a := x.toInt) (b := (4000 : Int)) rfl ex459 q461
          exact cw_scan_x htb hT hB hd hE hW hl0 hl2
        · have q461 : x.toInt < (4000 : Int) := aw_t_ge (a := x.toInt) (b := (4000 : Int)) rfl ex459 q461
          refine cw_l2 aj_d21 rfl rfl hl1 ?_
          refine cw_l0 aj_d21 rfl rfl hl4 ?_
          refine cw_ld (i := 1) htb.1 aj_d21 (Or.inr (Or.inl ⟨rfl, rfl⟩)) rfl a460 (a := x.toInt) rfl (by omega) (by omega) (fun x462 ex462 => ?_)
          have b462 : 0 ≤ x462.toInt ∧ x462.toInt ≤ 65535 := by
            rw [ex462]
            exact p460c _ (by omega)
          refine cw_t0 (j := 5) aj_d21 rfl (by decide) rfl ?_
          obtain ⟨lv463, elv463⟩ : ∃ l, l = aj_set1 lv 5 (.int x462) := ⟨_, rfl⟩
          rw [← elv463]
          have hlv463_0 : aj_lv lv463 0 = some (.ref (52 + 26)) := cw_e1 elv463 hl0 (by decide) (Or.inl (by decide))
          have hlv463_1 : aj_lv lv463 1 = some (.ref (52 + 1)) := cw_e1 elv463 hl1 (by decide) (Or.inl (by decide))
          have hlv463_2 : aj_lv lv463 2 = some (.int e) := cw_e1 elv463 hl2 (by decide) (Or.inl (by decide))
          have hlv463_3 : aj_lv lv463 3 = some (.int g) := cw_e1 elv463 hl3 (by decide) (Or.inl (by decide))
          have hlv463_4 : aj_lv lv463 4 = some (.int x) := cw_e1 elv463 hl4 (by decide) (Or.inr rfl)
          have hlv463_5 : aj_lv lv463 5 = some (.int x462) := by rw [elv463]; exact ak_set1_eq _ _ _
          show cw_W _ _ _ _ _ _ _ _ _ _ 33 lv463 []
          refine cw_l0 aj_d21 rfl rfl hlv463_5 ?_
          refine cw_ks0 (con' := ap_c22) aj_d21 hT rfl rfl rfl [_] rfl rfl (Nat.le_of_ble_eq_true rfl) ⟨by decide, by decide⟩ (cw_a1 (by omega) (ap_0_22 htb (cw_SP1c _ _ rfl rfl) cw_hK) hT hB rfl ⟨(cw_gw (a := x462.toInt) rfl (by omega) (by omega)), trivial⟩) ?_
          rintro ru464 h464 hT464 ho464 hRu464
          obtain ⟨x465, rfl, bx465⟩ := cw_rI hRu464
          show cw_W _ _ _ _ _ _ _ _ _ _ 38 lv463 [.int x465]
          refine cw_z (tgt := 47) aj_d21 rfl rfl (fun q466 => ?_) (fun q466 => ?_)
          · have q466 : x465.toInt = (0 : Int) := aw_t_eq (a := x465.toInt) (b := (0 : Int)) rfl rfl q466
            refine cw_l2 aj_d21 rfl rfl hlv463_0 ?_
            refine cw_l2 aj_d21 rfl rfl hlv463_1 ?_
            refine cw_l0 aj_d21 rfl rfl hlv463_2 ?_
            refine cw_l0 aj_d21 rfl rfl hlv463_4 ?_
            refine cw_k0 (i := 26) (t := 60) (con' := cw_n23) aj_d21 htb hT464 rfl rfl [_, _, _] rfl rfl (cw_s0 hB rfl) rfl (Nat.le_of_ble_eq_true rfl) ⟨by decide, by decide⟩ (cw_scanOne htb hT464 hB (by omega) (ho464.symm ▸ hW) (a := x) (e := e) (by omega) (by omega) (by omega)) ?_
            rintro ru467 h467 hT467 ⟨hxu467, hwu467⟩ hRu467
            obtain ⟨x468, rfl, bx468⟩ := cw_rI hRu467
            show cw_W _ _ _ _ _ _ _ _ _ _ 55 lv463 [.int x468]
            refine cw_t0 (j := 6) aj_d21 rfl (by decide) rfl ?_
            obtain ⟨lv469, elv469⟩ : ∃ l, l = aj_set1 lv463 6 (.int x468) := ⟨_, rfl⟩
            rw [← elv469]
            have hlv469_5 : aj_lv lv469 5 = some (.int x462) := cw_e1 elv469 hlv463_5 (by decide) (Or.inr rfl)
            have hlv469_0 : aj_lv lv469 0 = some (.ref (52 + 26)) := cw_e1 elv469 hlv463_0 (by decide) (Or.inl (by decide))
            have hlv469_1 : aj_lv lv469 1 = some (.ref (52 + 1)) := cw_e1 elv469 hlv463_1 (by decide) (Or.inl (by decide))
            have hlv469_2 : aj_lv lv469 2 = some (.int e) := cw_e1 elv469 hlv463_2 (by decide) (Or.inl (by decide))
            have hlv469_3 : aj_lv lv469 3 = some (.int g) := cw_e1 elv469 hlv463_3 (by decide) (Or.inl (by decide))
            have hlv469_4 : aj_lv lv469 4 = some (.int x) := cw_e1 elv469 hlv463_4 (by decide) (Or.inl (by decide))
            have hlv469_6 : aj_lv lv469 6 = some (.int x468) := by rw [elv469]; exact ak_set1_eq _ _ _
            show cw_W _ _ _ _ _ _ _ _ _ _ 57 lv469 []
            refine cw_l0 aj_d21 rfl rfl hlv469_6 ?_
            refine cw_l0 aj_d21 rfl rfl hlv469_4 ?_
            refine cw_c (tgt := 78) aj_d21 rfl rfl (fun q470 => ?_) (fun q470 => ?_)
            · have q470 : x468.toInt ≤ x.toInt := aw_t_le (a := x468.toInt) (b := x.toInt) rfl rfl q470
              refine cw_n aj_d21 rfl rfl ?_
              refine cw_t0 (j := 3) aj_d21 rfl (by decide) rfl ?_
              obtain ⟨lv471, elv471⟩ : ∃ l, l = aj_set1 lv469 3 (.int (Int32.ofInt 0)) := ⟨_, rfl⟩
              rw [← elv471]
              have hlv471_6 : aj_lv lv471 6 = some (.int x468) := cw_e1 elv471 hlv469_6 (by decide) (Or.inl (by decide))
              have hlv471_5 : aj_lv lv471 5 = some (.int x462) := cw_e1 elv471 hlv469_5 (by decide) (Or.inl (by decide))
              have hlv471_0 : aj_lv lv471 0 = some (.ref (52 + 26)) := cw_e1 elv471 hlv469_0 (by decide) (Or.inl (by decide))
              have hlv471_1 : aj_lv lv471 1 = some (.ref (52 + 1)) := cw_e1 elv471 hlv469_1 (by decide) (Or.inl (by decide))
              have hlv471_2 : aj_lv lv471 2 = some (.int e) := cw_e1 elv471 hlv469_2 (by decide) (Or.inr rfl)
              have hlv471_4 : aj_lv lv471 4 = some (.int x) := cw_e1 elv471 hlv469_4 (by decide) (Or.inl (by decide))
              have hlv471_3 : aj_lv lv471 3 = some (.int (Int32.ofInt 0)) := by rw [elv471]; exact ak_set1_eq _ _ _
              show cw_W _ _ _ _ _ _ _ _ _ _ 80 lv471 []
              refine cw_l0 aj_d21 rfl rfl hlv471_6 ?_
              refine cw_t0 (j := 4) aj_d21 rfl (by decide) rfl ?_
              obtain ⟨lv472, elv472⟩ : ∃ l, l = aj_set1 lv471 4 (.int x468) := ⟨_, rfl⟩
              rw [← elv472]
              have hlv472_3 : aj_lv lv472 3 = some (.int (Int32.ofInt 0)) := cw_e1 elv472 hlv471_3 (by decide) (Or.inr rfl)
              have hlv472_6 : aj_lv lv472 6 = some (.int x468) := cw_e1 elv472 hlv471_6 (by decide) (Or.inl (by decide))
              have hlv472_5 : aj_lv lv472 5 = some (.int x462) := cw_e1 elv472 hlv471_5 (by decide) (Or.inl (by decide))
              have hlv472_0 : aj_lv lv472 0 = some (.ref (52 + 26)) := cw_e1 elv472 hlv471_0 (by decide) (Or.inl (by decide))
              have hlv472_1 : aj_lv lv472 1 = some (.ref (52 + 1)) := cw_e1 elv472 hlv471_1 (by decide) (Or.inl (by decide))
              have hlv472_2 : aj_lv lv472 2 = some (.int e) := cw_e1 elv472 hlv471_2 (by decide) (Or.inl (by decide))
              have hlv472_4 : aj_lv lv472 4 = some (.int x468) := by rw [elv472]; exact ak_set1_eq _ _ _
              show cw_W _ _ _ _ _ _ _ _ _ _ 84 lv472 []
              refine cw_n aj_d21 rfl rfl ?_
              have z0 : (Int32.ofInt 0).toInt = 0 := rfl
              have z1 : (Int32.ofInt 1).toInt = 1 := rfl
              exact ih htb hT467 hB (cw_ex_tr (cw_ex_tr hE (cw_ex_of ho464)) hxu467) hwu467 hlv472_0 hlv472_1 hlv472_2 hlv472_3 hlv472_4 (by omega) (by omega) (by omega) (by omega) (by omega)
            · have q470 : x468.toInt > x.toInt := aw_t_le (a := x468.toInt) (b := x.toInt) rfl rfl q470
              refine cw_l2 aj_d21 rfl rfl hlv469_0 ?_
              obtain ⟨v473, f473, g473⟩ := cw_tyF (i := 26) (t := 60) (c := 8) (k := 3) (y := (.inl (0, 1002))) hT467 (cw_s0 hB rfl) rfl rfl rfl
              obtain ⟨x473, rfl, b473⟩ := ak_gi g473
              dsimp only [ak_win] at b473
              refine cw_g (i := 26) (v := .int x473) htb.1 aj_d21 rfl rfl (by decide) f473 ?_
              refine cw_n aj_d21 rfl rfl ?_
              refine cw_c (tgt := 78) aj_d21 rfl rfl (fun q474 => ?_) (fun q474 => ?_)
              · have q474 : x473.toInt > (1000 : Int) := aw_t_gt (a := x473.toInt) (b := (1000 : Int)) rfl rfl q474
                refine cw_n aj_d21 rfl rfl ?_
                refine cw_t0 (j := 3) aj_d21 rfl (by decide) rfl ?_
                obtain ⟨lv475, elv475⟩ : ∃ l, l = aj_set1 lv469 3 (.int (Int32.ofInt 0)) := ⟨_, rfl⟩
                rw [← elv475]
                have hlv475_6 : aj_lv lv475 6 = some (.int x468) := cw_e1 elv475 hlv469_6 (by decide) (Or.inl (by decide))
                have hlv475_5 : aj_lv lv475 5 = some (.int x462) := cw_e1 elv475 hlv469_5 (by decide) (Or.inl (by decide))
                have hlv475_0 : aj_lv lv475 0 = some (.ref (52 + 26)) := cw_e1 elv475 hlv469_0 (by decide) (Or.inl (by decide))
                have hlv475_1 : aj_lv lv475 1 = some (.ref (52 + 1)) := cw_e1 elv475 hlv469_1 (by decide) (Or.inl (by decide))
                have hlv475_2 : aj_lv lv475 2 = some (.int e) := cw_e1 elv475 hlv469_2 (by decide) (Or.inr rfl)
                have hlv475_4 : aj_lv lv475 4 = some (.int x) := cw_e1 elv475 hlv469_4 (by decide) (Or.inl (by decide))
                have hlv475_3 : aj_lv lv475 3 = some (.int (Int32.ofInt 0)) := by rw [elv475]; exact ak_set1_eq _ _ _
                show cw_W _ _ _ _ _ _ _ _ _ _ 80 lv475 []
                refine cw_l0 aj_d21 rfl rfl hlv475_6 ?_
                refine cw_t0 (j := 4) aj_d21 rfl (by decide) rfl ?_
                obtain ⟨lv476, elv476⟩ : ∃ l, l = aj_set1 lv475 4 (.int x468) := ⟨_, rfl⟩
                rw [← elv476]
                have hlv476_3 : aj_lv lv476 3 = some (.int (Int32.ofInt 0)) := cw_e1 elv476 hlv475_3 (by decide) (Or.inr rfl)
                have hlv476_6 : aj_lv lv476 6 = some (.int x468) := cw_e1 elv476 hlv475_6 (by decide) (Or.inl (by decide))
                have hlv476_5 : aj_lv lv476 5 = some (.int x462) := cw_e1 elv476 hlv475_5 (by decide) (Or.inl (by decide))
                have hlv476_0 : aj_lv lv476 0 = some (.ref (52 + 26)) := cw_e1 elv476 hlv475_0 (by decide) (Or.inl (by decide))
                have hlv476_1 : aj_lv lv476 1 = some (.ref (52 + 1)) := cw_e1 elv476 hlv475_1 (by decide) (Or.inl (by decide))
                have hlv476_2 : aj_lv lv476 2 = some (.int e) := cw_e1 elv476 hlv475_2 (by decide) (Or.inl (by decide))
                have hlv476_4 : aj_lv lv476 4 = some (.int x468) := by rw [elv476]; exact ak_set1_eq _ _ _
                show cw_W _ _ _ _ _ _ _ _ _ _ 84 lv476 []
                refine cw_n aj_d21 rfl rfl ?_
                have z0 : (Int32.ofInt 0).toInt = 0 := rfl
                have z1 : (Int32.ofInt 1).toInt = 1 := rfl
                exact ih htb hT467 hB (cw_ex_tr (cw_ex_tr hE (cw_ex_of ho464)) hxu467) hwu467 hlv476_0 hlv476_1 hlv476_2 hlv476_3 hlv476_4 (by omega) (by omega) (by omega) (by omega) (by omega)
              · have q474 : x473.toInt ≤ (1000 : Int) := aw_t_gt (a := x473.toInt) (b := (1000 : Int)) rfl rfl q474
                refine cw_n aj_d21 rfl rfl ?_
                refine cw_n aj_d21 rfl rfl ?_
                refine cw_t0 (j := 3) aj_d21 rfl (by decide) rfl ?_
                obtain ⟨lv477, elv477⟩ : ∃ l, l = aj_set1 lv469 3 (.int (Int32.ofInt 1)) := ⟨_, rfl⟩
                rw [← elv477]
                have hlv477_6 : aj_lv lv477 6 = some (.int x468) := cw_e1 elv477 hlv469_6 (by decide) (Or.inl (by decide))
                have hlv477_5 : aj_lv lv477 5 = some (.int x462) := cw_e1 elv477 hlv469_5 (by decide) (Or.inl (by decide))
                have hlv477_0 : aj_lv lv477 0 = some (.ref (52 + 26)) := cw_e1 elv477 hlv469_0 (by decide) (Or.inl (by decide))
                have hlv477_1 : aj_lv lv477 1 = some (.ref (52 + 1)) := cw_e1 elv477 hlv469_1 (by decide) (Or.inl (by decide))
                have hlv477_2 : aj_lv lv477 2 = some (.int e) := cw_e1 elv477 hlv469_2 (by decide) (Or.inr rfl)
                have hlv477_4 : aj_lv lv477 4 = some (.int x) := cw_e1 elv477 hlv469_4 (by decide) (Or.inl (by decide))
                have hlv477_3 : aj_lv lv477 3 = some (.int (Int32.ofInt 1)) := by rw [elv477]; exact ak_set1_eq _ _ _
                show cw_W _ _ _ _ _ _ _ _ _ _ 80 lv477 []
                refine cw_l0 aj_d21 rfl rfl hlv477_6 ?_
                refine cw_t0 (j := 4) aj_d21 rfl (by decide) rfl ?_
                obtain ⟨lv478, elv478⟩ : ∃ l, l = aj_set1 lv477 4 (.int x468) := ⟨_, rfl⟩
                rw [← elv478]
                have hlv478_3 : aj_lv lv478 3 = some (.int (Int32.ofInt 1)) := cw_e1 elv478 hlv477_3 (by decide) (Or.inr rfl)
                have hlv478_6 : aj_lv lv478 6 = some (.int x468) := cw_e1 elv478 hlv477_6 (by decide) (Or.inl (by decide))
                have hlv478_5 : aj_lv lv478 5 = some (.int x462) := cw_e1 elv478 hlv477_5 (by decide) (Or.inl (by decide))
                have hlv478_0 : aj_lv lv478 0 = some (.ref (52 + 26)) := cw_e1 elv478 hlv477_0 (by decide) (Or.inl (by decide))
                have hlv478_1 : aj_lv lv478 1 = some (.ref (52 + 1)) := cw_e1 elv478 hlv477_1 (by decide) (Or.inl (by decide))
                have hlv478_2 : aj_lv lv478 2 = some (.int e) := cw_e1 elv478 hlv477_2 (by decide) (Or.inl (by decide))
                have hlv478_4 : aj_lv lv478 4 = some (.int x468) := by rw [elv478]; exact ak_set1_eq _ _ _
                show cw_W _ _ _ _ _ _ _ _ _ _ 84 lv478 []
                refine cw_n aj_d21 rfl rfl ?_
                have z0 : (Int32.ofInt 0).toInt = 0 := rfl
                have z1 : (Int32.ofInt 1).toInt = 1 := rfl
                exact ih htb hT467 hB (cw_ex_tr (cw_ex_tr hE (cw_ex_of ho464)) hxu467) hwu467 hlv478_0 hlv478_1 hlv478_2 hlv478_3 hlv478_4 (by omega) (by omega) (by omega) (by omega) (by omega)
          · have q466 : x465.toInt ≠ (0 : Int) := aw_t_eq (a := x465.toInt) (b := (0 : Int)) rfl rfl q466
            refine cw_inc aj_d21 rfl hlv463_4 (a := x.toInt) rfl (by omega) (by omega) (by decide) (by decide) (fun x479 ex479 => ?_)
            obtain ⟨lv480, elv480⟩ : ∃ l, l = aj_set1 lv463 4 (.int x479) := ⟨_, rfl⟩
            rw [← elv480]
            have hlv480_5 : aj_lv lv480 5 = some (.int x462) := cw_e1 elv480 hlv463_5 (by decide) (Or.inl (by decide))
            have hlv480_0 : aj_lv lv480 0 = some (.ref (52 + 26)) := cw_e1 elv480 hlv463_0 (by decide) (Or.inl (by decide))
            have hlv480_1 : aj_lv lv480 1 = some (.ref (52 + 1)) := cw_e1 elv480 hlv463_1 (by decide) (Or.inl (by decide))
            have hlv480_2 : aj_lv lv480 2 = some (.int e) := cw_e1 elv480 hlv463_2 (by decide) (Or.inl (by decide))
            have hlv480_3 : aj_lv lv480 3 = some (.int g) := cw_e1 elv480 hlv463_3 (by decide) (Or.inr rfl)
            have hlv480_4 : aj_lv lv480 4 = some (.int x479) := by rw [elv480]; exact ak_set1_eq _ _ _
            show cw_W _ _ _ _ _ _ _ _ _ _ 44 lv480 []
            refine cw_n aj_d21 rfl rfl ?_
            refine cw_n aj_d21 rfl rfl ?_
            have z0 : (Int32.ofInt 0).toInt = 0 := rfl
            have z1 : (Int32.ofInt 1).toInt = 1 := rfl
            exact ih htb hT464 hB (cw_ex_tr hE (cw_ex_of ho464)) (ho464.symm ▸ hW) hlv480_0 hlv480_1 hlv480_2 hlv480_3 hlv480_4 (by omega) (by omega) (by omega) (by omega) (by omega)
theorem cw_scan (htb : ak_tbOK ak_C0 tb) (hT : ak_Ty ak_C0 s h) (hB : cw_B s) (hd : 5 ≤ d) (hW : cw_wds (cw_o h)) {e : Int32} (he : e.toInt ≤ 4000) : cw_K ak_C0 (fun s' _ h' => s' = s ∧ cw_ex [26, 27, 28, 29] (cw_o h) (cw_o h') ∧ cw_wds (cw_o h')) tb d cw_n21 [.ref (52 + 26), .ref (52 + 1), .int e] s h := by
  obtain ⟨d, rfl⟩ : ∃ e, d = e + 1 := ⟨d - 1, by omega⟩
  refine cw_m (con := cw_n21) aj_m21_at (Nat.le_of_ble_eq_true rfl) ?_
  obtain ⟨lv, elv⟩ : ∃ l, l = lv_args 0 [.ref (52 + 26), .ref (52 + 1), .int e] := ⟨_, rfl⟩
  have hl0 : aj_lv lv 0 = some (.ref (52 + 26)) := by rw [elv]; rfl
  have hl1 : aj_lv lv 1 = some (.ref (52 + 1)) := by rw [elv]; rfl
  have hl2 : aj_lv lv 2 = some (.int e) := by rw [elv]; rfl
  rw [← elv]
  refine cw_l2 aj_d21 rfl rfl hl0 ?_
  refine cw_n aj_d21 rfl rfl ?_
  refine cw_p (i := 26) (t := 60) (c := 8) (k := 3) (v := .int (Int32.ofInt 0)) (y := (.inl (0, 1002))) htb aj_d21 rfl rfl hT (cw_s0 hB rfl) rfl rfl rfl (cw_gw (a := (0 : Int)) rfl (by omega) (by omega)) (by decide) rfl rfl (fun hT481 => ?_)
  obtain ⟨v482, f482, g482⟩ := cw_tyF (i := 26) (t := 60) (c := 8) (k := 3) (y := (.inl (0, 1002))) hT (cw_s0 hB rfl) rfl rfl rfl
  obtain ⟨x482, rfl, b482⟩ := ak_gi g482
  dsimp only [ak_win] at b482
  have f483 : cw_F (cw_sf h 26 3 (.int (Int32.ofInt 0))) 26 8 3 (.int (Int32.ofInt 0)) := cw_sf_same f482
  refine cw_n aj_d21 rfl rfl ?_
  refine cw_t0 (j := 3) aj_d21 rfl (by decide) rfl ?_
  obtain ⟨lv484, elv484⟩ : ∃ l, l = aj_set1 lv 3 (.int (Int32.ofInt 1)) := ⟨_, rfl⟩
  rw [← elv484]
  have hlv484_0 : aj_lv lv484 0 = some (.ref (52 + 26)) := cw_e1 elv484 hl0 (by decide) (Or.inl (by decide))
  have hlv484_1 : aj_lv lv484 1 = some (.ref (52 + 1)) := cw_e1 elv484 hl1 (by decide) (Or.inl (by decide))
  have hlv484_2 : aj_lv lv484 2 = some (.int e) := cw_e1 elv484 hl2 (by decide) (Or.inr rfl)
  have hlv484_3 : aj_lv lv484 3 = some (.int (Int32.ofInt 1)) := by rw [elv484]; exact ak_set1_eq _ _ _
  show cw_W _ _ _ _ _ _ _ _ _ _ 7 lv484 []
  refine cw_n aj_d21 rfl rfl ?_
  refine cw_t0 (j := 4) aj_d21 rfl (by decide) rfl ?_
  obtain ⟨lv485, elv485⟩ : ∃ l, l = aj_set1 lv484 4 (.int (Int32.ofInt 0)) := ⟨_, rfl⟩
  rw [← elv485]
  have hlv485_3 : aj_lv lv485 3 = some (.int (Int32.ofInt 1)) := cw_e1 elv485 hlv484_3 (by decide) (Or.inr rfl)
  have hlv485_0 : aj_lv lv485 0 = some (.ref (52 + 26)) := cw_e1 elv485 hlv484_0 (by decide) (Or.inl (by decide))
  have hlv485_1 : aj_lv lv485 1 = some (.ref (52 + 1)) := cw_e1 elv485 hlv484_1 (by decide) (Or.inl (by decide))
  have hlv485_2 : aj_lv lv485 2 = some (.int e) := cw_e1 elv485 hlv484_2 (by decide) (Or.inl (by decide))
  have hlv485_4 : aj_lv lv485 4 = some (.int (Int32.ofInt 0)) := by rw [elv485]; exact ak_set1_eq _ _ _
  show cw_W _ _ _ _ _ _ _ _ _ _ 10 lv485 []
  have hE : cw_ex [26, 27, 28, 29] (cw_o h) (cw_o (cw_sf h 26 3 (.int (Int32.ofInt 0)))) := cw_ex_sf (by decide)
  exact cw_scan_l (by omega) 4003 htb hT481 hB hE (cw_wds_sf hW) hlv485_0 hlv485_1 hlv485_2 hlv485_3 hlv485_4 he (by decide) (by decide) (by decide) (by decide)
/-- what the scanner keeps -/
theorem cw_scanC {X : Option Nat} (htb : ak_tbOK ak_C0 tb) : ak_CT ak_C0 (cw_I X) cw_kap tb 5 ap_c21 := by
  refine cw_CT rfl (fun d hd s h as hT hI hA _ => ?_)
  obtain ⟨v1, as, rfl, g1, hA⟩ := cw_gAc hA
  obtain ⟨v2, as, rfl, g2, hA⟩ := cw_gAc hA
  obtain ⟨v3, as, rfl, g3, hA⟩ := cw_gAc hA
  cases cw_gAn hA
  obtain rfl := cw_gu (i := 26) hI.1 g1 (by decide) (by decide) (by decide)
  obtain rfl := cw_gu (i := 1) hI.1 g2 (by decide) (by decide) (by decide)
  obtain ⟨e, rfl, he⟩ := ak_gi g3
  refine cw_mono (fun s' r h' hh => ?_) (cw_scan htb hT hI.1 hd hI.2.1 he.2)
  obtain ⟨rfl, k2, k3⟩ := hh
  exact ⟨hI.1, k3, cw_dis_ex k2 (by decide) hI.2.2.1, cw_gd_ex k2 (by decide) hI.2.2.2.1, cw_HR_ex k2 (by decide) (by decide) hI.2.2.2.2⟩
end CW61
