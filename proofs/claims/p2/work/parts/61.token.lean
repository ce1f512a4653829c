/-! TOKENS OF THE CLASS BY HAND (printed by wip/p2/cwalk/g61.py) -/
section CW61
variable {tb : aj_T} {s : List Nat} {h : aj_H} {d : Nat}
abbrev cw_n24 : ak_Con := (24, [.inl (0, 65535)], some (.inl (0, 1)), ([], []), [], [], [], 0, 0, [], [], [])
theorem cw_isLetter (htb : ak_tbOK ak_C0 tb) (hT : ak_Ty ak_C0 s h) (hd : 1 ≤ d) (c : Int32) : cw_K ak_C0 (fun s' r h' => s' = s ∧ h' = h ∧ ∃ b : Int32, r = some (.int b) ∧ ((b.toInt = 1 ∧ 97 ≤ c.toInt ∧ c.toInt ≤ 122) ∨ b.toInt = 0)) tb d cw_n24 [.int c] s h := by
  obtain ⟨d, rfl⟩ : ∃ e, d = e + 1 := ⟨d - 1, by omega⟩
  refine cw_m (con := cw_n24) aj_m24_at (Nat.le_of_ble_eq_true rfl) ?_
  show cw_W _ _ _ _ _ _ _ _ _ _ 0 [(0, .int c)] []
  refine cw_n aj_d24 rfl rfl ?_
  refine cw_n aj_d24 rfl rfl ?_
  refine cw_c (tgt := 16) aj_d24 rfl rfl (fun q1 => ?_) (fun q1 => ?_)
  · have q1 : c.toInt < (97 : Int) := aw_t_lt (a := c.toInt) (b := (97 : Int)) rfl rfl q1
    refine cw_n aj_d24 rfl rfl ?_
    refine cw_Wr aj_d24 rfl rfl hT ?_ ?_
    · exact ⟨rfl, rfl, _, rfl, Or.inr rfl⟩
    · exact cw_gw (s := s) (a := 0) rfl (by decide) (by decide)
  · have q1 : c.toInt ≥ (97 : Int) := aw_t_lt (a := c.toInt) (b := (97 : Int)) rfl rfl q1
    refine cw_n aj_d24 rfl rfl ?_
    refine cw_n aj_d24 rfl rfl ?_
    refine cw_c (tgt := 16) aj_d24 rfl rfl (fun q2 => ?_) (fun q2 => ?_)
    · have q2 : c.toInt > (122 : Int) := aw_t_gt (a := c.toInt) (b := (122 : Int)) rfl rfl q2
      refine cw_n aj_d24 rfl rfl ?_
      refine cw_Wr aj_d24 rfl rfl hT ?_ ?_
      · exact ⟨rfl, rfl, _, rfl, Or.inr rfl⟩
      · exact cw_gw (s := s) (a := 0) rfl (by decide) (by decide)
    · have q2 : c.toInt ≤ (122 : Int) := aw_t_gt (a := c.toInt) (b := (122 : Int)) rfl rfl q2
      refine cw_n aj_d24 rfl rfl ?_
      refine cw_n aj_d24 rfl rfl ?_
      refine cw_Wr aj_d24 rfl rfl hT ?_ ?_
      · exact ⟨rfl, rfl, _, rfl, Or.inl ⟨rfl, by omega, by omega⟩⟩
      · exact cw_gw (s := s) (a := 1) rfl (by decide) (by decide)
abbrev cw_n26 : ak_Con := (26, [.inl (0, 65535)], some (.inl (0, 1)), ([], []), [], [], [], 0, 0, [], [], [])
theorem cw_isDigit (htb : ak_tbOK ak_C0 tb) (hT : ak_Ty ak_C0 s h) (hd : 1 ≤ d) (c : Int32) : cw_K ak_C0 (fun s' r h' => s' = s ∧ h' = h ∧ ∃ b : Int32, r = some (.int b) ∧ ((b.toInt = 1 ∧ 48 ≤ c.toInt ∧ c.toInt ≤ 57) ∨ b.toInt = 0)) tb d cw_n26 [.int c] s h := by
  obtain ⟨d, rfl⟩ : ∃ e, d = e + 1 := ⟨d - 1, by omega⟩
  refine cw_m (con := cw_n26) aj_m26_at (Nat.le_of_ble_eq_true rfl) ?_
  show cw_W _ _ _ _ _ _ _ _ _ _ 0 [(0, .int c)] []
  refine cw_n aj_d26 rfl rfl ?_
  refine cw_n aj_d26 rfl rfl ?_
  refine cw_c (tgt := 16) aj_d26 rfl rfl (fun q3 => ?_) (fun q3 => ?_)
  · have q3 : c.toInt < (48 : Int) := aw_t_lt (a := c.toInt) (b := (48 : Int)) rfl rfl q3
    refine cw_n aj_d26 rfl rfl ?_
    refine cw_Wr aj_d26 rfl rfl hT ?_ ?_
    · exact ⟨rfl, rfl, _, rfl, Or.inr rfl⟩
    · exact cw_gw (s := s) (a := 0) rfl (by decide) (by decide)
  · have q3 : c.toInt ≥ (48 : Int) := aw_t_lt (a := c.toInt) (b := (48 : Int)) rfl rfl q3
    refine cw_n aj_d26 rfl rfl ?_
    refine cw_n aj_d26 rfl rfl ?_
    refine cw_c (tgt := 16) aj_d26 rfl rfl (fun q4 => ?_) (fun q4 => ?_)
    · have q4 : c.toInt > (57 : Int) := aw_t_gt (a := c.toInt) (b := (57 : Int)) rfl rfl q4
      refine cw_n aj_d26 rfl rfl ?_
      refine cw_Wr aj_d26 rfl rfl hT ?_ ?_
      · exact ⟨rfl, rfl, _, rfl, Or.inr rfl⟩
      · exact cw_gw (s := s) (a := 0) rfl (by decide) (by decide)
    · have q4 : c.toInt ≤ (57 : Int) := aw_t_gt (a := c.toInt) (b := (57 : Int)) rfl rfl q4
      refine cw_n aj_d26 rfl rfl ?_
      refine cw_n aj_d26 rfl rfl ?_
      refine cw_Wr aj_d26 rfl rfl hT ?_ ?_
      · exact ⟨rfl, rfl, _, rfl, Or.inl ⟨rfl, by omega, by omega⟩⟩
      · exact cw_gw (s := s) (a := 1) rfl (by decide) (by decide)
abbrev cw_n27 : ak_Con := (27, [.inr (some ([60], false)), .inl ((-2147483648), 2147483647), .inl ((-2147483648), 2147483647), .inr none], none, ([76, 77, 78], [(8, 3)]), [], [], [], 0, 0, [], [], [])
/-- a token more -/
theorem cw_tadd (htb : ak_tbOK ak_C0 tb) (hT : ak_Ty ak_C0 s h) (hB : cw_B s) (hd : 1 ≤ d) (hW : cw_wds (cw_o h)) (m a : Int32) (w : Int64) (hw : 0 ≤ w.toInt32.toInt ∧ w.toInt32.toInt ≤ 2139095039) : cw_K ak_C0 (fun s' r h' => s' = s ∧ r = none ∧ cw_ex [26, 27, 28, 29] (cw_o h) (cw_o h') ∧ cw_wds (cw_o h')) tb d cw_n27 [.ref (52 + 26), .int m, .int a, .long w] s h := by
  obtain ⟨d, rfl⟩ : ∃ e, d = e + 1 := ⟨d - 1, by omega⟩
  have hW' := hW
  obtain ⟨fw, aw, hW2⟩ := hW'
  have aw : cw_A h 29 1 1002 (.inr (.inl fw)) := (cw_oa_A (h := h) (i := 29) (by decide)).mp aw
  refine cw_m (con := cw_n27) aj_m27_at (Nat.le_of_ble_eq_true rfl) ?_
  show cw_W _ _ _ _ _ _ _ _ _ _ 0 [(0, .ref (52 + 26)), (1, .int m), (2, .int a), (3, .long w)] []
  refine cw_n aj_d27 rfl rfl ?_
  obtain ⟨v5, f5, g5⟩ := cw_tyF (i := 26) (t := 60) (c := 8) (k := 3) (y := (.inl (0, 1002))) hT (cw_s0 hB rfl) rfl rfl rfl
  obtain ⟨x5, rfl, b5⟩ := ak_gi g5
  dsimp only [ak_win] at b5
  refine cw_g (i := 26) (v := .int x5) htb.1 aj_d27 rfl rfl (by decide) f5 ?_
  refine cw_n aj_d27 rfl rfl ?_
  obtain ⟨v6, f6, g6⟩ := cw_tyF (i := 26) (t := 60) (c := 8) (k := 0) (y := (.inr (some ([76], false)))) hT (cw_s0 hB rfl) rfl rfl rfl
  obtain rfl := cw_gu (i := 27) hB g6 (by decide) (by decide) (by decide)
  refine cw_g (i := 26) (v := .ref (52 + 27)) htb.1 aj_d27 rfl rfl (by decide) f6 ?_
  obtain ⟨n8, z8, a8, p8l, p8r, p8⟩ := cw_tyA (i := 27) (t := 76) (kd := 0) (n1 := 1002) (n2 := 1002) (y := (.inl ((-2147483648), 2147483647))) hT (cw_s0 hB rfl) rfl
  obtain rfl : n8 = 1002 := Nat.le_antisymm p8r p8l
  obtain ⟨fn8, rfl, p8c⟩ := cw_xi p8
  refine cw_alen (i := 27) htb.1 aj_d27 rfl a8 (by decide) (by omega) (fun x7 ex7 => ?_)
  refine cw_c (tgt := 76) aj_d27 rfl rfl (fun q9 => ?_) (fun q9 => ?_)
  · have q9 : x5.toInt ≥ (1002 : Int) := aw_t_ge (a := x5.toInt) (b := (1002 : Int)) rfl ex7 q9
    refine cw_Wr aj_d27 rfl rfl hT ?_ ?_
    · exact ⟨rfl, rfl, cw_ex_rf, hW⟩
    · trivial
  · have q9 : x5.toInt < (1002 : Int) := aw_t_ge (a := x5.toInt) (b := (1002 : Int)) rfl ex7 q9
    refine cw_n aj_d27 rfl rfl ?_
    refine cw_g (i := 26) (v := .int x5) htb.1 aj_d27 rfl rfl (by decide) f5 ?_
    refine cw_n aj_d27 rfl rfl ?_
    obtain ⟨v10, f10, g10⟩ := cw_tyF (i := 26) (t := 60) (c := 8) (k := 1) (y := (.inr (some ([77], false)))) hT (cw_s0 hB rfl) rfl rfl rfl
    obtain rfl := cw_gu (i := 28) hB g10 (by decide) (by decide) (by decide)
    refine cw_g (i := 26) (v := .ref (52 + 28)) htb.1 aj_d27 rfl rfl (by decide) f10 ?_
    obtain ⟨n12, z12, a12, p12l, p12r, p12⟩ := cw_tyA (i := 28) (t := 77) (kd := 0) (n1 := 1002) (n2 := 1002) (y := (.inl ((-2147483648), 2147483647))) hT (cw_s0 hB rfl) rfl
    obtain rfl : n12 = 1002 := Nat.le_antisymm p12r p12l
    obtain ⟨fn12, rfl, p12c⟩ := cw_xi p12
    refine cw_alen (i := 28) htb.1 aj_d27 rfl a12 (by decide) (by omega) (fun x11 ex11 => ?_)
    refine cw_c (tgt := 76) aj_d27 rfl rfl (fun q13 => ?_) (fun q13 => ?_)
    · have q13 : x5.toInt ≥ (1002 : Int) := aw_t_ge (a := x5.toInt) (b := (1002 : Int)) rfl ex11 q13
      refine cw_Wr aj_d27 rfl rfl hT ?_ ?_
      · exact ⟨rfl, rfl, cw_ex_rf, hW⟩
      · trivial
    · have q13 : x5.toInt < (1002 : Int) := aw_t_ge (a := x5.toInt) (b := (1002 : Int)) rfl ex11 q13
      refine cw_n aj_d27 rfl rfl ?_
      refine cw_g (i := 26) (v := .int x5) htb.1 aj_d27 rfl rfl (by decide) f5 ?_
      refine cw_n aj_d27 rfl rfl ?_
      obtain ⟨v14, f14, g14⟩ := cw_tyF (i := 26) (t := 60) (c := 8) (k := 2) (y := (.inr (some ([78], false)))) hT (cw_s0 hB rfl) rfl rfl rfl
      obtain rfl := cw_gu (i := 29) hB g14 (by decide) (by decide) (by decide)
      refine cw_g (i := 26) (v := .ref (52 + 29)) htb.1 aj_d27 rfl rfl (by decide) f14 ?_
      refine cw_alen (i := 29) htb.1 aj_d27 rfl aw (by decide) (by omega) (fun x15 ex15 => ?_)
      refine cw_c (tgt := 76) aj_d27 rfl rfl (fun q16 => ?_) (fun q16 => ?_)
      · have q16 : x5.toInt ≥ (1002 : Int) := aw_t_ge (a := x5.toInt) (b := (1002 : Int)) rfl ex15 q16
        refine cw_Wr aj_d27 rfl rfl hT ?_ ?_
        · exact ⟨rfl, rfl, cw_ex_rf, hW⟩
        · trivial
      · have q16 : x5.toInt < (1002 : Int) := aw_t_ge (a := x5.toInt) (b := (1002 : Int)) rfl ex15 q16
        refine cw_n aj_d27 rfl rfl ?_
        refine cw_g (i := 26) (v := .ref (52 + 27)) htb.1 aj_d27 rfl rfl (by decide) f6 ?_
        refine cw_n aj_d27 rfl rfl ?_
        refine cw_g (i := 26) (v := .int x5) htb.1 aj_d27 rfl rfl (by decide) f5 ?_
        refine cw_n aj_d27 rfl rfl ?_
        refine cw_st (i := 27) htb aj_d27 (Or.inl ⟨rfl, rfl⟩) rfl a8 hT (cw_s0 hB rfl) rfl (by decide) (a := x5.toInt) rfl (by omega) (by omega) (cw_full _) (fun hT17 => ?_)
        have f18 : cw_F (cw_sa h 27 (.inl (upd fn8 (x5.toInt).toNat (aj_nar 0 m)))) 26 8 3 (.int x5) := cw_sa_F f5
        have f19 : cw_F (cw_sa h 27 (.inl (upd fn8 (x5.toInt).toNat (aj_nar 0 m)))) 26 8 0 (.ref (52 + 27)) := cw_sa_F f6
        have f20 : cw_F (cw_sa h 27 (.inl (upd fn8 (x5.toInt).toNat (aj_nar 0 m)))) 26 8 1 (.ref (52 + 28)) := cw_sa_F f10
        have f21 : cw_F (cw_sa h 27 (.inl (upd fn8 (x5.toInt).toNat (aj_nar 0 m)))) 26 8 2 (.ref (52 + 29)) := cw_sa_F f14
        have a22 : cw_A (cw_sa h 27 (.inl (upd fn8 (x5.toInt).toNat (aj_nar 0 m)))) 29 1 1002 (.inr (.inl fw)) := cw_sa_ne aw (by decide)
        have a23 : cw_A (cw_sa h 27 (.inl (upd fn8 (x5.toInt).toNat (aj_nar 0 m)))) 28 0 1002 (.inl fn12) := cw_sa_ne a12 (by decide)
        have a24 : cw_A (cw_sa h 27 (.inl (upd fn8 (x5.toInt).toNat (aj_nar 0 m)))) 27 0 1002 (.inl (upd fn8 (x5.toInt).toNat (aj_nar 0 m))) := cw_sa_same a8
        refine cw_n aj_d27 rfl rfl ?_
        refine cw_g (i := 26) (v := .ref (52 + 28)) htb.1 aj_d27 rfl rfl (by decide) f20 ?_
        refine cw_n aj_d27 rfl rfl ?_
        refine cw_g (i := 26) (v := .int x5) htb.1 aj_d27 rfl rfl (by decide) f18 ?_
        refine cw_n aj_d27 rfl rfl ?_
        refine cw_st (i := 28) htb aj_d27 (Or.inl ⟨rfl, rfl⟩) rfl a23 hT17 (cw_s0 hB rfl) rfl (by decide) (a := x5.toInt) rfl (by omega) (by omega) (cw_full _) (fun hT25 => ?_)
        have f26 : cw_F (cw_sa (cw_sa h 27 (.inl (upd fn8 (x5.toInt).toNat (aj_nar 0 m)))) 28 (.inl (upd fn12 (x5.toInt).toNat (aj_nar 0 a)))) 26 8 3 (.int x5) := cw_sa_F f18
        have f27 : cw_F (cw_sa (cw_sa h 27 (.inl (upd fn8 (x5.toInt).toNat (aj_nar 0 m)))) 28 (.inl (upd fn12 (x5.toInt).toNat (aj_nar 0 a)))) 26 8 0 (.ref (52 + 27)) := cw_sa_F f19
        have f28 : cw_F (cw_sa (cw_sa h 27 (.inl (upd fn8 (x5.toInt).toNat (aj_nar 0 m)))) 28 (.inl (upd fn12 (x5.toInt).toNat (aj_nar 0 a)))) 26 8 1 (.ref (52 + 28)) := cw_sa_F f20
        have f29 : cw_F (cw_sa (cw_sa h 27 (.inl (upd fn8 (x5.toInt).toNat (aj_nar 0 m)))) 28 (.inl (upd fn12 (x5.toInt).toNat (aj_nar 0 a)))) 26 8 2 (.ref (52 + 29)) := cw_sa_F f21
        have a30 : cw_A (cw_sa (cw_sa h 27 (.inl (upd fn8 (x5.toInt).toNat (aj_nar 0 m)))) 28 (.inl (upd fn12 (x5.toInt).toNat (aj_nar 0 a)))) 29 1 1002 (.inr (.inl fw)) := cw_sa_ne a22 (by decide)
        have a31 : cw_A (cw_sa (cw_sa h 27 (.inl (upd fn8 (x5.toInt).toNat (aj_nar 0 m)))) 28 (.inl (upd fn12 (x5.toInt).toNat (aj_nar 0 a)))) 27 0 1002 (.inl (upd fn8 (x5.toInt).toNat (aj_nar 0 m))) := cw_sa_ne a24 (by decide)
        have a32 : cw_A (cw_sa (cw_sa h 27 (.inl (upd fn8 (x5.toInt).toNat (aj_nar 0 m)))) 28 (.inl (upd fn12 (x5.toInt).toNat (aj_nar 0 a)))) 28 0 1002 (.inl (upd fn12 (x5.toInt).toNat (aj_nar 0 a))) := cw_sa_same a23
        refine cw_n aj_d27 rfl rfl ?_
        refine cw_g (i := 26) (v := .ref (52 + 29)) htb.1 aj_d27 rfl rfl (by decide) f29 ?_
        refine cw_n aj_d27 rfl rfl ?_
        refine cw_g (i := 26) (v := .int x5) htb.1 aj_d27 rfl rfl (by decide) f26 ?_
        refine cw_n aj_d27 rfl rfl ?_
        refine cw_stl (i := 29) htb aj_d27 rfl a30 hT25 (cw_s0 hB rfl) rfl (by decide) (a := x5.toInt) rfl (by omega) (by omega) (fun hT33 => ?_)
        have f34 : cw_F (cw_sa (cw_sa (cw_sa h 27 (.inl (upd fn8 (x5.toInt).toNat (aj_nar 0 m)))) 28 (.inl (upd fn12 (x5.toInt).toNat (aj_nar 0 a)))) 29 (.inr (.inl (vp_updL fw (x5.toInt).toNat w)))) 26 8 3 (.int x5) := cw_sa_F f26
        have f35 : cw_F (cw_sa (cw_sa (cw_sa h 27 (.inl (upd fn8 (x5.toInt).toNat (aj_nar 0 m)))) 28 (.inl (upd fn12 (x5.toInt).toNat (aj_nar 0 a)))) 29 (.inr (.inl (vp_updL fw (x5.toInt).toNat w)))) 26 8 0 (.ref (52 + 27)) := cw_sa_F f27
        have f36 : cw_F (cw_sa (cw_sa (cw_sa h 27 (.inl (upd fn8 (x5.toInt).toNat (aj_nar 0 m)))) 28 (.inl (upd fn12 (x5.toInt).toNat (aj_nar 0 a)))) 29 (.inr (.inl (vp_updL fw (x5.toInt).toNat w)))) 26 8 1 (.ref (52 + 28)) := cw_sa_F f28
        have f37 : cw_F (cw_sa (cw_sa (cw_sa h 27 (.inl (upd fn8 (x5.toInt).toNat (aj_nar 0 m)))) 28 (.inl (upd fn12 (x5.toInt).toNat (aj_nar 0 a)))) 29 (.inr (.inl (vp_updL fw (x5.toInt).toNat w)))) 26 8 2 (.ref (52 + 29)) := cw_sa_F f29
        have a38 : cw_A (cw_sa (cw_sa (cw_sa h 27 (.inl (upd fn8 (x5.toInt).toNat (aj_nar 0 m)))) 28 (.inl (upd fn12 (x5.toInt).toNat (aj_nar 0 a)))) 29 (.inr (.inl (vp_updL fw (x5.toInt).toNat w)))) 27 0 1002 (.inl (upd fn8 (x5.toInt).toNat (aj_nar 0 m))) := cw_sa_ne a31 (by decide)
        have a39 : cw_A (cw_sa (cw_sa (cw_sa h 27 (.inl (upd fn8 (x5.toInt).toNat (aj_nar 0 m)))) 28 (.inl (upd fn12 (x5.toInt).toNat (aj_nar 0 a)))) 29 (.inr (.inl (vp_updL fw (x5.toInt).toNat w)))) 28 0 1002 (.inl (upd fn12 (x5.toInt).toNat (aj_nar 0 a))) := cw_sa_ne a32 (by decide)
        have a40 : cw_A (cw_sa (cw_sa (cw_sa h 27 (.inl (upd fn8 (x5.toInt).toNat (aj_nar 0 m)))) 28 (.inl (upd fn12 (x5.toInt).toNat (aj_nar 0 a)))) 29 (.inr (.inl (vp_updL fw (x5.toInt).toNat w)))) 29 1 1002 (.inr (.inl (vp_updL fw (x5.toInt).toNat w))) := cw_sa_same a30
        refine cw_n aj_d27 rfl rfl ?_
        refine cw_n aj_d27 rfl rfl ?_
        refine cw_g (i := 26) (v := .int x5) htb.1 aj_d27 rfl rfl (by decide) f34 ?_
        refine cw_n aj_d27 rfl rfl ?_
        refine cw_add aj_d27 rfl (a := x5.toInt) (b := (1 : Int)) rfl rfl (by omega) (by omega) (fun x41 ex41 => ?_)
        refine cw_p (i := 26) (t := 60) (c := 8) (k := 3) (v := .int x41) (y := (.inl (0, 1002))) htb aj_d27 rfl rfl hT33 (cw_s0 hB rfl) rfl rfl rfl (cw_gw (a := x41.toInt) rfl (by omega) (by omega)) (by decide) rfl rfl (fun hT42 => ?_)
        have f43 : cw_F (cw_sf (cw_sa (cw_sa (cw_sa h 27 (.inl (upd fn8 (x5.toInt).toNat (aj_nar 0 m)))) 28 (.inl (upd fn12 (x5.toInt).toNat (aj_nar 0 a)))) 29 (.inr (.inl (vp_updL fw (x5.toInt).toNat w)))) 26 3 (.int x41)) 26 8 0 (.ref (52 + 27)) := cw_sf_ne f35 (Or.inr (by decide))
        have f44 : cw_F (cw_sf (cw_sa (cw_sa (cw_sa h 27 (.inl (upd fn8 (x5.toInt).toNat (aj_nar 0 m)))) 28 (.inl (upd fn12 (x5.toInt).toNat (aj_nar 0 a)))) 29 (.inr (.inl (vp_updL fw (x5.toInt).toNat w)))) 26 3 (.int x41)) 26 8 1 (.ref (52 + 28)) := cw_sf_ne f36 (Or.inr (by decide))
        have f45 : cw_F (cw_sf (cw_sa (cw_sa (cw_sa h 27 (.inl (upd fn8 (x5.toInt).toNat (aj_nar 0 m)))) 28 (.inl (upd fn12 (x5.toInt).toNat (aj_nar 0 a)))) 29 (.inr (.inl (vp_updL fw (x5.toInt).toNat w)))) 26 3 (.int x41)) 26 8 2 (.ref (52 + 29)) := cw_sf_ne f37 (Or.inr (by decide))
        have a46 : cw_A (cw_sf (cw_sa (cw_sa (cw_sa h 27 (.inl (upd fn8 (x5.toInt).toNat (aj_nar 0 m)))) 28 (.inl (upd fn12 (x5.toInt).toNat (aj_nar 0 a)))) 29 (.inr (.inl (vp_updL fw (x5.toInt).toNat w)))) 26 3 (.int x41)) 27 0 1002 (.inl (upd fn8 (x5.toInt).toNat (aj_nar 0 m))) := cw_sf_A a38
        have a47 : cw_A (cw_sf (cw_sa (cw_sa (cw_sa h 27 (.inl (upd fn8 (x5.toInt).toNat (aj_nar 0 m)))) 28 (.inl (upd fn12 (x5.toInt).toNat (aj_nar 0 a)))) 29 (.inr (.inl (vp_updL fw (x5.toInt).toNat w)))) 26 3 (.int x41)) 28 0 1002 (.inl (upd fn12 (x5.toInt).toNat (aj_nar 0 a))) := cw_sf_A a39
        have a48 : cw_A (cw_sf (cw_sa (cw_sa (cw_sa h 27 (.inl (upd fn8 (x5.toInt).toNat (aj_nar 0 m)))) 28 (.inl (upd fn12 (x5.toInt).toNat (aj_nar 0 a)))) 29 (.inr (.inl (vp_updL fw (x5.toInt).toNat w)))) 26 3 (.int x41)) 29 1 1002 (.inr (.inl (vp_updL fw (x5.toInt).toNat w))) := cw_sf_A a40
        have f49 : cw_F (cw_sf (cw_sa (cw_sa (cw_sa h 27 (.inl (upd fn8 (x5.toInt).toNat (aj_nar 0 m)))) 28 (.inl (upd fn12 (x5.toInt).toNat (aj_nar 0 a)))) 29 (.inr (.inl (vp_updL fw (x5.toInt).toNat w)))) 26 3 (.int x41)) 26 8 3 (.int x41) := cw_sf_same f34
        refine cw_Wr aj_d27 rfl rfl hT42 ?_ ?_
        · refine ⟨rfl, rfl, (by first | exact cw_ex_rf | (refine cw_ex_tr ?_ (cw_ex_sf (by decide)); first | exact cw_ex_rf | (refine cw_ex_tr ?_ (cw_ex_sa (by decide)); refine cw_ex_tr ?_ (cw_ex_sa (by decide)); exact cw_ex_sa (by decide)))), ?_⟩
          refine ⟨_, (cw_oa_A (by decide)).mpr a48, fun j hj => ?_⟩
          unfold vp_updL
          split
          · exact hw
          · exact hW2 j hj
        · trivial
abbrev cw_n25 : ak_Con := (25, [.inr (some ([60], false)), .inr (some ([64], false)), .inl (0, 4000), .inl (0, 4000)], some (.inl (0, 4002)), ([76, 77, 78], [(8, 3)]), [], [], [], 0, 0, [], [], [])
abbrev cw_n29 : ak_Con := (29, [.inr (some ([60], false)), .inr (some ([64], false)), .inl (0, 4000), .inl (0, 4000)], some (.inl (0, 4002)), ([76, 77, 78], [(8, 3)]), [], [], [], 0, 0, [], [], [])
abbrev cw_n23 : ak_Con := (23, [.inr (some ([60], false)), .inr (some ([64], false)), .inl (0, 4000), .inl (0, 4000)], some (.inl (0, 4002)), ([76, 77, 78], [(8, 3)]), [], [], [], 0, 0, [], [], [])
theorem cw_scanName_x45 (htb : ak_tbOK ak_C0 tb) (hT : ak_Ty ak_C0 s h) (hB : cw_B s) (hd : 2 ≤ d) (hW : cw_wds (cw_o h)) {kc ks : Nat} {a e : Int32} (ha : 0 ≤ a.toInt) (he : e.toInt ≤ 4000) {x : Int32} {w : Int64} (hk : cw_wok w) (h1 : a.toInt ≤ x.toInt) (h2 : x.toInt ≤ 4000) : cw_W ak_C0 (fun s' _ h' => cw_B s' ∧ cw_ex [26, 27, 28, 29] (cw_o h) (cw_o h') ∧ cw_wds (cw_o h')) tb d aj_m25 cw_n25 s h kc ks 58 [(4, .int x), (5, .long w), (0, .ref (52 + 26)), (1, .ref (52 + 1)), (2, .int e), (3, .int a)] [] := by
  have hwr := cw_wok_r hk
  refine cw_n aj_d25 rfl rfl ?_
  refine cw_n aj_d25 rfl rfl ?_
  refine cw_sub aj_d25 rfl (a := x.toInt) (b := a.toInt) rfl rfl (by omega) (by omega) (fun x50 ex50 => ?_)
  refine cw_n aj_d25 rfl rfl ?_
  refine cw_c (tgt := 76) aj_d25 rfl rfl (fun q51 => ?_) (fun q51 => ?_)
  · have q51 : x50.toInt ≤ (8 : Int) := aw_t_le (a := x50.toInt) (b := (8 : Int)) rfl rfl q51
    refine cw_n aj_d25 rfl rfl ?_
    refine cw_n aj_d25 rfl rfl ?_
    refine cw_ks (con' := ap_c28) aj_d25 hT rfl rfl rfl [_] rfl rfl (Nat.le_of_ble_eq_true rfl) ⟨by decide, by decide⟩ (cw_a1 (by omega) (ap_0_28 htb (cw_SP1c _ rfl rfl) cw_hK) hT hB rfl ⟨trivial, trivial⟩) ?_
    rintro u52 ru52 h52 hT52 ⟨hB52, ho52⟩ hRu52 _
    obtain ⟨x53, rfl, bx53⟩ := cw_rI hRu52
    show cw_W _ _ _ _ _ _ _ _ _ _ 82 [(4, .int x), (5, .long w), (0, .ref (52 + 26)), (1, .ref (52 + 1)), (2, .int e), (3, .int a)] [.int x53, .ref (52 + 26)]
    refine cw_n aj_d25 rfl rfl ?_
    refine cw_n aj_d25 rfl rfl ?_
    refine cw_k0 (i := 26) (t := 60) (con' := cw_n27) aj_d25 htb hT52 rfl rfl [_, _, _] rfl rfl (cw_s0 hB52 rfl) rfl (Nat.le_of_ble_eq_true rfl) ⟨by decide, by decide⟩ (cw_tadd htb hT52 hB52 (by omega) (ho52.symm ▸ hW) x53 a w hwr) ?_
    rintro _ h54 hT55 ⟨rfl, hx, hw⟩ _
    show cw_W _ _ _ _ _ _ _ _ _ _ 88 [(4, .int x), (5, .long w), (0, .ref (52 + 26)), (1, .ref (52 + 1)), (2, .int e), (3, .int a)] []
    refine cw_n aj_d25 rfl rfl ?_
    refine cw_Wr aj_d25 rfl rfl hT55 ?_ ?_
    · exact ⟨hB52, (cw_ex_tr (cw_ex_of ho52) hx), hw⟩
    · exact cw_gw (s := (s ++ u52)) (a := _) rfl (by omega) (by omega)
  · have q51 : x50.toInt > (8 : Int) := aw_t_le (a := x50.toInt) (b := (8 : Int)) rfl rfl q51
    refine cw_n aj_d25 rfl rfl ?_
    refine cw_n aj_d25 rfl rfl ?_
    refine cw_n aj_d25 rfl rfl ?_
    refine cw_anyl aj_d25 rfl rfl (fun y56 ey56 => ?_)
    refine cw_k0 (i := 26) (t := 60) (con' := cw_n27) aj_d25 htb hT rfl rfl [_, _, _] rfl rfl (cw_s0 hB rfl) rfl (Nat.le_of_ble_eq_true rfl) ⟨by decide, by decide⟩ (cw_tadd htb hT hB (by omega) hW (Int32.ofInt 2) a y56 (by rw [ey56]; decide)) ?_
    rintro _ h57 hT58 ⟨rfl, hx, hw⟩ _
    show cw_W _ _ _ _ _ _ _ _ _ _ 74 [(4, .int x), (5, .long w), (0, .ref (52 + 26)), (1, .ref (52 + 1)), (2, .int e), (3, .int a)] []
    refine cw_n aj_d25 rfl rfl ?_
    refine cw_Wr aj_d25 rfl rfl hT58 ?_ ?_
    · exact ⟨hB, (cw_ex_tr cw_ex_rf hx), hw⟩
    · exact cw_gw (s := s) (a := _) rfl (by omega) (by omega)
theorem cw_scanName_x54 (htb : ak_tbOK ak_C0 tb) (hT : ak_Ty ak_C0 s h) (hB : cw_B s) (hd : 2 ≤ d) (hW : cw_wds (cw_o h)) {kc ks : Nat} {a e : Int32} (ha : 0 ≤ a.toInt) (he : e.toInt ≤ 4000) {x : Int32} {w : Int64} (hk : cw_wok w) (h1 : a.toInt ≤ x.toInt) (h2 : x.toInt ≤ 4000) : cw_W ak_C0 (fun s' _ h' => cw_B s' ∧ cw_ex [26, 27, 28, 29] (cw_o h) (cw_o h') ∧ cw_wds (cw_o h')) tb d aj_m25 cw_n25 s h kc ks 58 [(5, .long w), (4, .int x), (0, .ref (52 + 26)), (1, .ref (52 + 1)), (2, .int e), (3, .int a)] [] := by
  have hwr := cw_wok_r hk
  refine cw_n aj_d25 rfl rfl ?_
  refine cw_n aj_d25 rfl rfl ?_
  refine cw_sub aj_d25 rfl (a := x.toInt) (b := a.toInt) rfl rfl (by omega) (by omega) (fun x59 ex59 => ?_)
  refine cw_n aj_d25 rfl rfl ?_
  refine cw_c (tgt := 76) aj_d25 rfl rfl (fun q60 => ?_) (fun q60 => ?_)
  · have q60 : x59.toInt ≤ (8 : Int) := aw_t_le (a := x59.toInt) (b := (8 : Int)) rfl rfl q60
    refine cw_n aj_d25 rfl rfl ?_
    refine cw_n aj_d25 rfl rfl ?_
    refine cw_ks (con' := ap_c28) aj_d25 hT rfl rfl rfl [_] rfl rfl (Nat.le_of_ble_eq_true rfl) ⟨by decide, by decide⟩ (cw_a1 (by omega) (ap_0_28 htb (cw_SP1c _ rfl rfl) cw_hK) hT hB rfl ⟨trivial, trivial⟩) ?_
    rintro u61 ru61 h61 hT61 ⟨hB61, ho61⟩ hRu61 _
    obtain ⟨x62, rfl, bx62⟩ := cw_rI hRu61
    show cw_W _ _ _ _ _ _ _ _ _ _ 82 [(5, .long w), (4, .int x), (0, .ref (52 + 26)), (1, .ref (52 + 1)), (2, .int e), (3, .int a)] [.int x62, .ref (52 + 26)]
    refine cw_n aj_d25 rfl rfl ?_
    refine cw_n aj_d25 rfl rfl ?_
    refine cw_k0 (i := 26) (t := 60) (con' := cw_n27) aj_d25 htb hT61 rfl rfl [_, _, _] rfl rfl (cw_s0 hB61 rfl) rfl (Nat.le_of_ble_eq_true rfl) ⟨by decide, by decide⟩ (cw_tadd htb hT61 hB61 (by omega) (ho61.symm ▸ hW) x62 a w hwr) ?_
    rintro _ h63 hT64 ⟨rfl, hx, hw⟩ _
    show cw_W _ _ _ _ _ _ _ _ _ _ 88 [(5, .long w), (4, .int x), (0, .ref (52 + 26)), (1, .ref (52 + 1)), (2, .int e), (3, .int a)] []
    refine cw_n aj_d25 rfl rfl ?_
    refine cw_Wr aj_d25 rfl rfl hT64 ?_ ?_
    · exact ⟨hB61, (cw_ex_tr (cw_ex_of ho61) hx), hw⟩
    · exact cw_gw (s := (s ++ u61)) (a := _) rfl (by omega) (by omega)
  · have q60 : x59.toInt > (8 : Int) := aw_t_le (a := x59.toInt) (b := (8 : Int)) rfl rfl q60
    refine cw_n aj_d25 rfl rfl ?_
    refine cw_n aj_d25 rfl rfl ?_
    refine cw_n aj_d25 rfl rfl ?_
    refine cw_anyl aj_d25 rfl rfl (fun y65 ey65 => ?_)
    refine cw_k0 (i := 26) (t := 60) (con' := cw_n27) aj_d25 htb hT rfl rfl [_, _, _] rfl rfl (cw_s0 hB rfl) rfl (Nat.le_of_ble_eq_true rfl) ⟨by decide, by decide⟩ (cw_tadd htb hT hB (by omega) hW (Int32.ofInt 2) a y65 (by rw [ey65]; decide)) ?_
    rintro _ h66 hT67 ⟨rfl, hx, hw⟩ _
    show cw_W _ _ _ _ _ _ _ _ _ _ 74 [(5, .long w), (4, .int x), (0, .ref (52 + 26)), (1, .ref (52 + 1)), (2, .int e), (3, .int a)] []
    refine cw_n aj_d25 rfl rfl ?_
    refine cw_Wr aj_d25 rfl rfl hT67 ?_ ?_
    · exact ⟨hB, (cw_ex_tr cw_ex_rf hx), hw⟩
    · exact cw_gw (s := s) (a := _) rfl (by omega) (by omega)
theorem cw_scanName_l (htb : ak_tbOK ak_C0 tb) (hT : ak_Ty ak_C0 s h) (hB : cw_B s) (hd : 2 ≤ d) (hW : cw_wds (cw_o h)) {kc ks : Nat} {a e : Int32} (ha : 0 ≤ a.toInt) (he : e.toInt ≤ 4000) : ∀ (g : Nat) (x : Int32) {w : Int64} (hk : cw_wok w) (h1 : a.toInt ≤ x.toInt) (h2 : x.toInt ≤ 4000), 4000 - x.toInt ≤ g → cw_W ak_C0 (fun s' _ h' => cw_B s' ∧ cw_ex [26, 27, 28, 29] (cw_o h) (cw_o h') ∧ cw_wds (cw_o h')) tb d aj_m25 cw_n25 s h kc ks 6 [(4, .int x), (5, .long w), (0, .ref (52 + 26)), (1, .ref (52 + 1)), (2, .int e), (3, .int a)] [] := by
  intro g
  induction g with
  | zero =>
    intro x w hk h1 h2 hg
    refine cw_n aj_d25 rfl rfl ?_
    refine cw_n aj_d25 rfl rfl ?_
    refine cw_c (tgt := 58) aj_d25 rfl rfl (fun q92 => ?_) (fun q92 => ?_)
    · have q92 : x.toInt ≥ e.toInt := aw_t_ge (a := x.toInt) (b := e.toInt) rfl rfl q92
      exact cw_scanName_x45 htb hT hB hd hW ha he hk h1 (by omega)
    · have q92 : x.toInt < e.toInt := aw_t_ge (a := x.toInt) (b := e.toInt) rfl rfl q92
      exfalso
      omega
  | succ g ih =>
    intro x w hk h1 h2 hg
    refine cw_n aj_d25 rfl rfl ?_
    refine cw_n aj_d25 rfl rfl ?_
    refine cw_c (tgt := 58) aj_d25 rfl rfl (fun q68 => ?_) (fun q68 => ?_)
    · have q68 : x.toInt ≥ e.toInt := aw_t_ge (a := x.toInt) (b := e.toInt) rfl rfl q68
      exact cw_scanName_x45 htb hT hB hd hW ha he hk h1 (by omega)
    · have q68 : x.toInt < e.toInt := aw_t_ge (a := x.toInt) (b := e.toInt) rfl rfl q68
      refine cw_n aj_d25 rfl rfl ?_
      refine cw_n aj_d25 rfl rfl ?_
      obtain ⟨n70, z70, a70, p70l, p70r, p70⟩ := cw_tyA (i := 1) (t := 64) (kd := 3) (n1 := 4000) (n2 := 4000) (y := (.inl (0, 65535))) hT (cw_s0 hB rfl) rfl
      obtain rfl : n70 = 4000 := Nat.le_antisymm p70r p70l
      obtain ⟨fn70, rfl, p70c⟩ := cw_xi p70
      refine cw_alen (i := 1) htb.1 aj_d25 rfl a70 (by decide) (by omega) (fun x69 ex69 => ?_)
      refine cw_c (tgt := 58) aj_d25 rfl rfl (fun q71 => ?_) (fun q71 => ?_)
      · have q71 : x.toInt ≥ (4000 : Int) := aw_t_ge (a := x.toInt) (b := (4000 : Int)) rfl ex69 q71
        exact cw_scanName_x45 htb hT hB hd hW ha he hk h1 (by omega)
      · have q71 : x.toInt < (4000 : Int) := aw_t_ge (a := x.toInt) (b := (4000 : Int)) rfl ex69 q71
        refine cw_n aj_d25 rfl rfl ?_
        refine cw_n aj_d25 rfl rfl ?_
        refine cw_ld (i := 1) htb.1 aj_d25 (Or.inr (Or.inl ⟨rfl, rfl⟩)) rfl a70 (a := x.toInt) rfl (by omega) (by omega) (fun x72 ex72 => ?_)
        have b72 : 0 ≤ x72.toInt ∧ x72.toInt ≤ 65535 := by
          rw [ex72]
          exact p70c _ (by omega)
        refine cw_ks0 (con' := cw_n24) aj_d25 hT rfl rfl rfl [_] rfl rfl (Nat.le_of_ble_eq_true rfl) ⟨by decide, by decide⟩ (cw_isLetter htb hT (by omega) x72) ?_
        rintro _ h73 hT74 ⟨rfl, x75, rfl, hbx75⟩ _
        show cw_W _ _ _ _ _ _ _ _ _ _ 26 [(4, .int x), (5, .long w), (0, .ref (52 + 26)), (1, .ref (52 + 1)), (2, .int e), (3, .int a)] [.int x75]
        refine cw_z (tgt := 39) aj_d25 rfl rfl (fun q76 => ?_) (fun q76 => ?_)
        · have q76 : x75.toInt ≠ (0 : Int) := aw_t_ne (a := x75.toInt) (b := (0 : Int)) rfl rfl q76
          have hcc : 48 ≤ x72.toInt ∧ x72.toInt ≤ 122 := by
            rcases hbx75 with z | z <;> omega
          refine cw_n aj_d25 rfl rfl ?_
          refine cw_n aj_d25 rfl rfl ?_
          refine cw_anyl aj_d25 rfl rfl (fun y77 ey77 => ?_)
          refine cw_n aj_d25 rfl rfl ?_
          refine cw_n aj_d25 rfl rfl ?_
          refine cw_ld (i := 1) htb.1 aj_d25 (Or.inr (Or.inl ⟨rfl, rfl⟩)) rfl a70 (a := x.toInt) rfl (by omega) (by omega) (fun x78 ex78 => ?_)
          have b78 : 0 ≤ x78.toInt ∧ x78.toInt ≤ 65535 := by
            rw [ex78]
            exact p70c _ (by omega)
          have hx78 : 48 ≤ x78.toInt ∧ x78.toInt ≤ 122 := by
            have hz : x78 = x72 := by rw [ex78, ex72]
            rw [hz]
            exact hcc
          refine cw_anyl aj_d25 rfl rfl (fun y79 ey79 => ?_)
          refine cw_anyl aj_d25 rfl rfl (fun y80 ey80 => ?_)
          refine cw_n aj_d25 rfl rfl ?_
          show cw_W _ _ _ _ _ _ _ _ _ _ 52 [(5, .long y80), (4, .int x), (0, .ref (52 + 26)), (1, .ref (52 + 1)), (2, .int e), (3, .int a)] []
          refine cw_inc aj_d25 rfl rfl (a := x.toInt) rfl (by omega) (by omega) (by decide) (by decide) (fun x81 ex81 => ?_)
          show cw_W _ _ _ _ _ _ _ _ _ _ 55 [(4, .int x81), (5, .long y80), (0, .ref (52 + 26)), (1, .ref (52 + 1)), (2, .int e), (3, .int a)] []
          refine cw_n aj_d25 rfl rfl ?_
          refine ih x81 (w := y80) ?_ (by omega) (by omega) (by omega)
          rw [ey80, ey77, ey79]
          exact cw_wok_s hk (by omega) (by omega)
        · have q76 : x75.toInt = (0 : Int) := aw_t_ne (a := x75.toInt) (b := (0 : Int)) rfl rfl q76
          refine cw_n aj_d25 rfl rfl ?_
          refine cw_n aj_d25 rfl rfl ?_
          refine cw_ld (i := 1) htb.1 aj_d25 (Or.inr (Or.inl ⟨rfl, rfl⟩)) rfl a70 (a := x.toInt) rfl (by omega) (by omega) (fun x82 ex82 => ?_)
          have b82 : 0 ≤ x82.toInt ∧ x82.toInt ≤ 65535 := by
            rw [ex82]
            exact p70c _ (by omega)
          refine cw_ks0 (con' := cw_n26) aj_d25 hT74 rfl rfl rfl [_] rfl rfl (Nat.le_of_ble_eq_true rfl) ⟨by decide, by decide⟩ (cw_isDigit htb hT74 (by omega) x82) ?_
          rintro _ h83 hT84 ⟨rfl, x85, rfl, hbx85⟩ _
          show cw_W _ _ _ _ _ _ _ _ _ _ 36 [(4, .int x), (5, .long w), (0, .ref (52 + 26)), (1, .ref (52 + 1)), (2, .int e), (3, .int a)] [.int x85]
          refine cw_z (tgt := 58) aj_d25 rfl rfl (fun q86 => ?_) (fun q86 => ?_)
          · have q86 : x85.toInt = (0 : Int) := aw_t_eq (a := x85.toInt) (b := (0 : Int)) rfl rfl q86
            exact cw_scanName_x45 htb hT84 hB hd hW ha he hk h1 (by omega)
          · have q86 : x85.toInt ≠ (0 : Int) := aw_t_eq (a := x85.toInt) (b := (0 : Int)) rfl rfl q86
            have hcc : 48 ≤ x82.toInt ∧ x82.toInt ≤ 122 := by
              rcases hbx85 with z | z <;> omega
            refine cw_n aj_d25 rfl rfl ?_
            refine cw_n aj_d25 rfl rfl ?_
            refine cw_anyl aj_d25 rfl rfl (fun y87 ey87 => ?_)
            refine cw_n aj_d25 rfl rfl ?_
            refine cw_n aj_d25 rfl rfl ?_
            refine cw_ld (i := 1) htb.1 aj_d25 (Or.inr (Or.inl ⟨rfl, rfl⟩)) rfl a70 (a := x.toInt) rfl (by omega) (by omega) (fun x88 ex88 => ?_)
            have b88 : 0 ≤ x88.toInt ∧ x88.toInt ≤ 65535 := by
              rw [ex88]
              exact p70c _ (by omega)
            have hx88 : 48 ≤ x88.toInt ∧ x88.toInt ≤ 122 := by
              have hz : x88 = x82 := by rw [ex88, ex82]
              rw [hz]
              exact hcc
            refine cw_anyl aj_d25 rfl rfl (fun y89 ey89 => ?_)
            refine cw_anyl aj_d25 rfl rfl (fun y90 ey90 => ?_)
            refine cw_n aj_d25 rfl rfl ?_
            show cw_W _ _ _ _ _ _ _ _ _ _ 52 [(5, .long y90), (4, .int x), (0, .ref (52 + 26)), (1, .ref (52 + 1)), (2, .int e), (3, .int a)] []
            refine cw_inc aj_d25 rfl rfl (a := x.toInt) rfl (by omega) (by omega) (by decide) (by decide) (fun x91 ex91 => ?_)
            show cw_W _ _ _ _ _ _ _ _ _ _ 55 [(4, .int x91), (5, .long y90), (0, .ref (52 + 26)), (1, .ref (52 + 1)), (2, .int e), (3, .int a)] []
            refine cw_n aj_d25 rfl rfl ?_
            refine ih x91 (w := y90) ?_ (by omega) (by omega) (by omega)
            rw [ey90, ey87, ey89]
            exact cw_wok_s hk (by omega) (by omega)
theorem cw_scanName_f (htb : ak_tbOK ak_C0 tb) (hT : ak_Ty ak_C0 s h) (hB : cw_B s) (hd : 2 ≤ d) (hW : cw_wds (cw_o h)) {kc ks : Nat} {a e : Int32} (ha : 0 ≤ a.toInt) (he : e.toInt ≤ 4000) {x : Int32} {w : Int64} (hk : cw_wok w) (h1 : a.toInt ≤ x.toInt) (h2 : x.toInt ≤ 4000) : cw_W ak_C0 (fun s' _ h' => cw_B s' ∧ cw_ex [26, 27, 28, 29] (cw_o h) (cw_o h') ∧ cw_wds (cw_o h')) tb d aj_m25 cw_n25 s h kc ks 6 [(5, .long w), (4, .int x), (0, .ref (52 + 26)), (1, .ref (52 + 1)), (2, .int e), (3, .int a)] [] := by
  refine cw_n aj_d25 rfl rfl ?_
  refine cw_n aj_d25 rfl rfl ?_
  refine cw_c (tgt := 58) aj_d25 rfl rfl (fun q93 => ?_) (fun q93 => ?_)
  · have q93 : x.toInt ≥ e.toInt := aw_t_ge (a := x.toInt) (b := e.toInt) rfl rfl q93
    exact cw_scanName_x54 htb hT hB hd hW ha he hk h1 (by omega)
  · have q93 : x.toInt < e.toInt := aw_t_ge (a := x.toInt) (b := e.toInt) rfl rfl q93
    refine cw_n aj_d25 rfl rfl ?_
    refine cw_n aj_d25 rfl rfl ?_
    obtain ⟨n95, z95, a95, p95l, p95r, p95⟩ := cw_tyA (i := 1) (t := 64) (kd := 3) (n1 := 4000) (n2 := 4000) (y := (.inl (0, 65535))) hT (cw_s0 hB rfl) rfl
    obtain rfl : n95 = 4000 := Nat.le_antisymm p95r p95l
    obtain ⟨fn95, rfl, p95c⟩ := cw_xi p95
    refine cw_alen (i := 1) htb.1 aj_d25 rfl a95 (by decide) (by omega) (fun x94 ex94 => ?_)
    refine cw_c (tgt := 58) aj_d25 rfl rfl (fun q96 => ?_) (fun q96 => ?_)
    · have q96 : x.toInt ≥ (4000 : Int) := aw_t_ge (a := x.toInt) (b := (4000 : Int)) rfl ex94 q96
      exact cw_scanName_x54 htb hT hB hd hW ha he hk h1 (by omega)
    · have q96 : x.toInt < (4000 : Int) := aw_t_ge (a := x.toInt) (b := (4000 : Int)) rfl ex94 q96
      refine cw_n aj_d25 rfl rfl ?_
      refine cw_n aj_d25 rfl rfl ?_
      refine cw_ld (i := 1) htb.1 aj_d25 (Or.inr (Or.inl ⟨rfl, rfl⟩)) rfl a95 (a := x.toInt) rfl (by omega) (by omega) (fun x97 ex97 => ?_)
      have b97 : 0 ≤ x97.toInt ∧ x97.toInt ≤ 65535 := by
        rw [ex97]
        exact p95c _ (by omega)
      refine cw_ks0 (con' := cw_n24) aj_d25 hT rfl rfl rfl [_] rfl rfl (Nat.le_of_ble_eq_true rfl) ⟨by decide, by decide⟩ (cw_isLetter htb hT (by omega) x97) ?_
      rintro _ h98 hT99 ⟨rfl, x100, rfl, hbx100⟩ _
      show cw_W _ _ _ _ _ _ _ _ _ _ 26 [(5, .long w), (4, .int x), (0, .ref (52 + 26)), (1, .ref (52 + 1)), (2, .int e), (3, .int a)] [.int x100]
      refine cw_z (tgt := 39) aj_d25 rfl rfl (fun q101 => ?_) (fun q101 => ?_)
      · have q101 : x100.toInt ≠ (0 : Int) := aw_t_ne (a := x100.toInt) (b := (0 : Int)) rfl rfl q101
        have hcc : 48 ≤ x97.toInt ∧ x97.toInt ≤ 122 := by
          rcases hbx100 with z | z <;> omega
        refine cw_n aj_d25 rfl rfl ?_
        refine cw_n aj_d25 rfl rfl ?_
        refine cw_anyl aj_d25 rfl rfl (fun y102 ey102 => ?_)
        refine cw_n aj_d25 rfl rfl ?_
        refine cw_n aj_d25 rfl rfl ?_
        refine cw_ld (i := 1) htb.1 aj_d25 (Or.inr (Or.inl ⟨rfl, rfl⟩)) rfl a95 (a := x.toInt) rfl (by omega) (by omega) (fun x103 ex103 => ?_)
        have b103 : 0 ≤ x103.toInt ∧ x103.toInt ≤ 65535 := by
          rw [ex103]
          exact p95c _ (by omega)
        have hx103 : 48 ≤ x103.toInt ∧ x103.toInt ≤ 122 := by
          have hz : x103 = x97 := by rw [ex103, ex97]
          rw [hz]
          exact hcc
        refine cw_anyl aj_d25 rfl rfl (fun y104 ey104 => ?_)
        refine cw_anyl aj_d25 rfl rfl (fun y105 ey105 => ?_)
        refine cw_n aj_d25 rfl rfl ?_
        show cw_W _ _ _ _ _ _ _ _ _ _ 52 [(5, .long y105), (4, .int x), (0, .ref (52 + 26)), (1, .ref (52 + 1)), (2, .int e), (3, .int a)] []
        refine cw_inc aj_d25 rfl rfl (a := x.toInt) rfl (by omega) (by omega) (by decide) (by decide) (fun x106 ex106 => ?_)
        show cw_W _ _ _ _ _ _ _ _ _ _ 55 [(4, .int x106), (5, .long y105), (0, .ref (52 + 26)), (1, .ref (52 + 1)), (2, .int e), (3, .int a)] []
        refine cw_n aj_d25 rfl rfl ?_
        refine cw_scanName_l htb hT hB hd hW ha he 4000 x106 (w := y105) ?_ (by omega) (by omega) (by omega)
        rw [ey105, ey102, ey104]
        exact cw_wok_s hk (by omega) (by omega)
      · have q101 : x100.toInt = (0 : Int) := aw_t_ne (a := x100.toInt) (b := (0 : Int)) rfl rfl q101
        refine cw_n aj_d25 rfl rfl ?_
        refine cw_n aj_d25 rfl rfl ?_
        refine cw_ld (i := 1) htb.1 aj_d25 (Or.inr (Or.inl ⟨rfl, rfl⟩)) rfl a95 (a := x.toInt) rfl (by omega) (by omega) (fun x107 ex107 => ?_)
        have b107 : 0 ≤ x107.toInt ∧ x107.toInt ≤ 65535 := by
          rw [ex107]
          exact p95c _ (by omega)
        refine cw_ks0 (con' := cw_n26) aj_d25 hT99 rfl rfl rfl [_] rfl rfl (Nat.le_of_ble_eq_true rfl) ⟨by decide, by decide⟩ (cw_isDigit htb hT99 (by omega) x107) ?_
        rintro _ h108 hT109 ⟨rfl, x110, rfl, hbx110⟩ _
        show cw_W _ _ _ _ _ _ _ _ _ _ 36 [(5, .long w), (4, .int x), (0, .ref (52 + 26)), (1, .ref (52 + 1)), (2, .int e), (3, .int a)] [.int x110]
        refine cw_z (tgt := 58) aj_d25 rfl rfl (fun q111 => ?_) (fun q111 => ?_)
        · have q111 : x110.toInt = (0 : Int) := aw_t_eq (a := x110.toInt) (b := (0 : Int)) rfl rfl q111
          exact cw_scanName_x54 htb hT109 hB hd hW ha he hk h1 (by omega)
        · have q111 : x110.toInt ≠ (0 : Int) := aw_t_eq (a := x110.toInt) (b := (0 : Int)) rfl rfl q111
          have hcc : 48 ≤ x107.toInt ∧ x107.toInt ≤ 122 := by
            rcases hbx110 with z | z <;> omega
          refine cw_n aj_d25 rfl rfl ?_
          refine cw_n aj_d25 rfl rfl ?_
          refine cw_anyl aj_d25 rfl rfl (fun y112 ey112 => ?_)
          refine cw_n aj_d25 rfl rfl ?_
          refine cw_n aj_d25 rfl rfl ?_
          refine cw_ld (i := 1) htb.1 aj_d25 (Or.inr (Or.inl ⟨rfl, rfl⟩)) rfl a95 (a := x.toInt) rfl (by omega) (by omega) (fun x113 ex113 => ?_)
          have b113 : 0 ≤ x113.toInt ∧ x113.toInt ≤ 65535 := by
            rw [ex113]
            exact p95c _ (by omega)
          have hx113 : 48 ≤ x113.toInt ∧ x113.toInt ≤ 122 := by
            have hz : x113 = x107 := by rw [ex113, ex107]
            rw [hz]
            exact hcc
          refine cw_anyl aj_d25 rfl rfl (fun y114 ey114 => ?_)
          refine cw_anyl aj_d25 rfl rfl (fun y115 ey115 => ?_)
          refine cw_n aj_d25 rfl rfl ?_
          show cw_W _ _ _ _ _ _ _ _ _ _ 52 [(5, .long y115), (4, .int x), (0, .ref (52 + 26)), (1, .ref (52 + 1)), (2, .int e), (3, .int a)] []
          refine cw_inc aj_d25 rfl rfl (a := x.toInt) rfl (by omega) (by omega) (by decide) (by decide) (fun x116 ex116 => ?_)
          show cw_W _ _ _ _ _ _ _ _ _ _ 55 [(4, .int x116), (5, .long y115), (0, .ref (52 + 26)), (1, .ref (52 + 1)), (2, .int e), (3, .int a)] []
          refine cw_n aj_d25 rfl rfl ?_
          refine cw_scanName_l htb hT hB hd hW ha he 4000 x116 (w := y115) ?_ (by omega) (by omega) (by omega)
          rw [ey115, ey112, ey114]
          exact cw_wok_s hk (by omega) (by omega)
theorem cw_scanName (htb : ak_tbOK ak_C0 tb) (hT : ak_Ty ak_C0 s h) (hB : cw_B s) (hd : 3 ≤ d) (hW : cw_wds (cw_o h)) {a e : Int32} (ha : 0 ≤ a.toInt) (ha2 : a.toInt ≤ 4000) (he : e.toInt ≤ 4000) : cw_K ak_C0 (fun s' _ h' => cw_B s' ∧ cw_ex [26, 27, 28, 29] (cw_o h) (cw_o h') ∧ cw_wds (cw_o h')) tb d cw_n25 [.ref (52 + 26), .ref (52 + 1), .int e, .int a] s h := by
  obtain ⟨d, rfl⟩ : ∃ e, d = e + 1 := ⟨d - 1, by omega⟩
  refine cw_m (con := cw_n25) aj_m25_at (Nat.le_of_ble_eq_true rfl) ?_
  show cw_W _ _ _ _ _ _ _ _ _ _ 0 [(0, .ref (52 + 26)), (1, .ref (52 + 1)), (2, .int e), (3, .int a)] []
  refine cw_n aj_d25 rfl rfl ?_
  refine cw_n aj_d25 rfl rfl ?_
  show cw_W _ _ _ _ _ _ _ _ _ _ 3 [(4, .int a), (0, .ref (52 + 26)), (1, .ref (52 + 1)), (2, .int e), (3, .int a)] []
  refine cw_anyl aj_d25 rfl rfl (fun y117 ey117 => ?_)
  refine cw_n aj_d25 rfl rfl ?_
  show cw_W _ _ _ _ _ _ _ _ _ _ 6 [(5, .long y117), (4, .int a), (0, .ref (52 + 26)), (1, .ref (52 + 1)), (2, .int e), (3, .int a)] []
  exact cw_scanName_f htb hT hB (by omega) hW ha he (by rw [ey117]; exact cw_wok0) (Int.le_refl _) (by omega)
theorem cw_scanNumber_x45 (htb : ak_tbOK ak_C0 tb) (hT : ak_Ty ak_C0 s h) (hB : cw_B s) (hd : 2 ≤ d) (hW : cw_wds (cw_o h)) {kc ks : Nat} {a e : Int32} (ha : 0 ≤ a.toInt) (he : e.toInt ≤ 4000) {x : Int32} {w : Int64} (hk : x.toInt - a.toInt ≤ 4 → 0 ≤ w.toInt ∧ w.toInt < 10 ^ (x.toInt - a.toInt).toNat) (h1 : a.toInt ≤ x.toInt) (h2 : x.toInt ≤ 4000) : cw_W ak_C0 (fun s' _ h' => cw_B s' ∧ cw_ex [26, 27, 28, 29] (cw_o h) (cw_o h') ∧ cw_wds (cw_o h')) tb d aj_m29 cw_n29 s h kc ks 52 [(4, .int x), (5, .long w), (0, .ref (52 + 26)), (1, .ref (52 + 1)), (2, .int e), (3, .int a)] [] := by
  refine cw_n aj_d29 rfl rfl ?_
  refine cw_n aj_d29 rfl rfl ?_
  refine cw_sub aj_d29 rfl (a := x.toInt) (b := a.toInt) rfl rfl (by omega) (by omega) (fun x118 ex118 => ?_)
  refine cw_n aj_d29 rfl rfl ?_
  refine cw_c (tgt := 69) aj_d29 rfl rfl (fun q119 => ?_) (fun q119 => ?_)
  · have q119 : x118.toInt ≤ (4 : Int) := aw_t_le (a := x118.toInt) (b := (4 : Int)) rfl rfl q119
    have hwr : 0 ≤ w.toInt32.toInt ∧ w.toInt32.toInt ≤ 2139095039 := cw_num_f hk (by omega) (by omega)
    refine cw_n aj_d29 rfl rfl ?_
    refine cw_n aj_d29 rfl rfl ?_
    refine cw_n aj_d29 rfl rfl ?_
    refine cw_n aj_d29 rfl rfl ?_
    refine cw_k0 (i := 26) (t := 60) (con' := cw_n27) aj_d29 htb hT rfl rfl [_, _, _] rfl rfl (cw_s0 hB rfl) rfl (Nat.le_of_ble_eq_true rfl) ⟨by decide, by decide⟩ (cw_tadd htb hT hB (by omega) hW (Int32.ofInt 4) a w hwr) ?_
    rintro _ h120 hT121 ⟨rfl, hx, hw⟩ _
    show cw_W _ _ _ _ _ _ _ _ _ _ 77 [(4, .int x), (5, .long w), (0, .ref (52 + 26)), (1, .ref (52 + 1)), (2, .int e), (3, .int a)] []
    refine cw_n aj_d29 rfl rfl ?_
    refine cw_Wr aj_d29 rfl rfl hT121 ?_ ?_
    · exact ⟨hB, (cw_ex_tr cw_ex_rf hx), hw⟩
    · exact cw_gw (s := s) (a := _) rfl (by omega) (by omega)
  · have q119 : x118.toInt > (4 : Int) := aw_t_le (a := x118.toInt) (b := (4 : Int)) rfl rfl q119
    refine cw_n aj_d29 rfl rfl ?_
    refine cw_n aj_d29 rfl rfl ?_
    refine cw_n aj_d29 rfl rfl ?_
    refine cw_anyl aj_d29 rfl rfl (fun y122 ey122 => ?_)
    refine cw_k0 (i := 26) (t := 60) (con' := cw_n27) aj_d29 htb hT rfl rfl [_, _, _] rfl rfl (cw_s0 hB rfl) rfl (Nat.le_of_ble_eq_true rfl) ⟨by decide, by decide⟩ (cw_tadd htb hT hB (by omega) hW (Int32.ofInt 2) a y122 (by rw [ey122]; decide)) ?_
    rintro _ h123 hT124 ⟨rfl, hx, hw⟩ _
    show cw_W _ _ _ _ _ _ _ _ _ _ 67 [(4, .int x), (5, .long w), (0, .ref (52 + 26)), (1, .ref (52 + 1)), (2, .int e), (3, .int a)] []
    refine cw_n aj_d29 rfl rfl ?_
    refine cw_Wr aj_d29 rfl rfl hT124 ?_ ?_
    · exact ⟨hB, (cw_ex_tr cw_ex_rf hx), hw⟩
    · exact cw_gw (s := s) (a := _) rfl (by omega) (by omega)
theorem cw_scanNumber_x54 (htb : ak_tbOK ak_C0 tb) (hT : ak_Ty ak_C0 s h) (hB : cw_B s) (hd : 2 ≤ d) (hW : cw_wds (cw_o h)) {kc ks : Nat} {a e : Int32} (ha : 0 ≤ a.toInt) (he : e.toInt ≤ 4000) {x : Int32} {w : Int64} (hk : x.toInt - a.toInt ≤ 4 → 0 ≤ w.toInt ∧ w.toInt < 10 ^ (x.toInt - a.toInt).toNat) (h1 : a.toInt ≤ x.toInt) (h2 : x.toInt ≤ 4000) : cw_W ak_C0 (fun s' _ h' => cw_B s' ∧ cw_ex [26, 27, 28, 29] (cw_o h) (cw_o h') ∧ cw_wds (cw_o h')) tb d aj_m29 cw_n29 s h kc ks 52 [(5, .long w), (4, .int x), (0, .ref (52 + 26)), (1, .ref (52 + 1)), (2, .int e), (3, .int a)] [] := by
  refine cw_n aj_d29 rfl rfl ?_
  refine cw_n aj_d29 rfl rfl ?_
  refine cw_sub aj_d29 rfl (a := x.toInt) (b := a.toInt) rfl rfl (by omega) (by omega) (fun x125 ex125 => ?_)
  refine cw_n aj_d29 rfl rfl ?_
  refine cw_c (tgt := 69) aj_d29 rfl rfl (fun q126 => ?_) (fun q126 => ?_)
  · have q126 : x125.toInt ≤ (4 : Int) := aw_t_le (a := x125.toInt) (b := (4 : Int)) rfl rfl q126
    have hwr : 0 ≤ w.toInt32.toInt ∧ w.toInt32.toInt ≤ 2139095039 := cw_num_f hk (by omega) (by omega)
    refine cw_n aj_d29 rfl rfl ?_
    refine cw_n aj_d29 rfl rfl ?_
    refine cw_n aj_d29 rfl rfl ?_
    refine cw_n aj_d29 rfl rfl ?_
    refine cw_k0 (i := 26) (t := 60) (con' := cw_n27) aj_d29 htb hT rfl rfl [_, _, _] rfl rfl (cw_s0 hB rfl) rfl (Nat.le_of_ble_eq_true rfl) ⟨by decide, by decide⟩ (cw_tadd htb hT hB (by omega) hW (Int32.ofInt 4) a w hwr) ?_
    rintro _ h127 hT128 ⟨rfl, hx, hw⟩ _
    show cw_W _ _ _ _ _ _ _ _ _ _ 77 [(5, .long w), (4, .int x), (0, .ref (52 + 26)), (1, .ref (52 + 1)), (2, .int e), (3, .int a)] []
    refine cw_n aj_d29 rfl rfl ?_
    refine cw_Wr aj_d29 rfl rfl hT128 ?_ ?_
    · exact ⟨hB, (cw_ex_tr cw_ex_rf hx), hw⟩
    · exact cw_gw (s := s) (a := _) rfl (by omega) (by omega)
  · have q126 : x125.toInt > (4 : Int) := aw_t_le (a := x125.toInt) (b := (4 : Int)) rfl rfl q126
    refine cw_n aj_d29 rfl rfl ?_
    refine cw_n aj_d29 rfl rfl ?_
    refine cw_n aj_d29 rfl rfl ?_
    refine cw_anyl aj_d29 rfl rfl (fun y129 ey129 => ?_)
    refine cw_k0 (i := 26) (t := 60) (con' := cw_n27) aj_d29 htb hT rfl rfl [_, _, _] rfl rfl (cw_s0 hB rfl) rfl (Nat.le_of_ble_eq_true rfl) ⟨by decide, by decide⟩ (cw_tadd htb hT hB (by omega) hW (Int32.ofInt 2) a y129 (by rw [ey129]; decide)) ?_
    rintro _ h130 hT131 ⟨rfl, hx, hw⟩ _
    show cw_W _ _ _ _ _ _ _ _ _ _ 67 [(5, .long w), (4, .int x), (0, .ref (52 + 26)), (1, .ref (52 + 1)), (2, .int e), (3, .int a)] []
    refine cw_n aj_d29 rfl rfl ?_
    refine cw_Wr aj_d29 rfl rfl hT131 ?_ ?_
    · exact ⟨hB, (cw_ex_tr cw_ex_rf hx), hw⟩
    · exact cw_gw (s := s) (a := _) rfl (by omega) (by omega)
theorem cw_scanNumber_l (htb : ak_tbOK ak_C0 tb) (hT : ak_Ty ak_C0 s h) (hB : cw_B s) (hd : 2 ≤ d) (hW : cw_wds (cw_o h)) {kc ks : Nat} {a e : Int32} (ha : 0 ≤ a.toInt) (he : e.toInt ≤ 4000) : ∀ (g : Nat) (x : Int32) {w : Int64} (hk : x.toInt - a.toInt ≤ 4 → 0 ≤ w.toInt ∧ w.toInt < 10 ^ (x.toInt - a.toInt).toNat) (h1 : a.toInt ≤ x.toInt) (h2 : x.toInt ≤ 4000), 4000 - x.toInt ≤ g → cw_W ak_C0 (fun s' _ h' => cw_B s' ∧ cw_ex [26, 27, 28, 29] (cw_o h) (cw_o h') ∧ cw_wds (cw_o h')) tb d aj_m29 cw_n29 s h kc ks 6 [(4, .int x), (5, .long w), (0, .ref (52 + 26)), (1, .ref (52 + 1)), (2, .int e), (3, .int a)] [] := by
  intro g
  induction g with
  | zero =>
    intro x w hk h1 h2 hg
    refine cw_n aj_d29 rfl rfl ?_
    refine cw_n aj_d29 rfl rfl ?_
    refine cw_c (tgt := 52) aj_d29 rfl rfl (fun q148 => ?_) (fun q148 => ?_)
    · have q148 : x.toInt ≥ e.toInt := aw_t_ge (a := x.toInt) (b := e.toInt) rfl rfl q148
      exact cw_scanNumber_x45 htb hT hB hd hW ha he hk h1 (by omega)
    · have q148 : x.toInt < e.toInt := aw_t_ge (a := x.toInt) (b := e.toInt) rfl rfl q148
      exfalso
      omega
  | succ g ih =>
    intro x w hk h1 h2 hg
    refine cw_n aj_d29 rfl rfl ?_
    refine cw_n aj_d29 rfl rfl ?_
    refine cw_c (tgt := 52) aj_d29 rfl rfl (fun q132 => ?_) (fun q132 => ?_)
    · have q132 : x.toInt ≥ e.toInt := aw_t_ge (a := x.toInt) (b := e.toInt) rfl rfl q132
      exact cw_scanNumber_x45 htb hT hB hd hW ha he hk h1 (by omega)
    · have q132 : x.toInt < e.toInt := aw_t_ge (a := x.toInt) (b := e.toInt) rfl rfl q132
      refine cw_n aj_d29 rfl rfl ?_
      refine cw_n aj_d29 rfl rfl ?_
      obtain ⟨n134, z134, a134, p134l, p134r, p134⟩ := cw_tyA (i := 1) (t := 64) (kd := 3) (n1 := 4000) (n2 := 4000) (y := (.inl (0, 65535))) hT (cw_s0 hB rfl) rfl
      obtain rfl : n134 = 4000 := Nat.le_antisymm p134r p134l
      obtain ⟨fn134, rfl, p134c⟩ := cw_xi p134
      refine cw_alen (i := 1) htb.1 aj_d29 rfl a134 (by decide) (by omega) (fun x133 ex133 => ?_)
      refine cw_c (tgt := 52) aj_d29 rfl rfl (fun q135 => ?_) (fun q135 => ?_)
      · have q135 : x.toInt ≥ (4000 : Int) := aw_t_ge (a := x.toInt) (b := (4000 : Int)) rfl ex133 q135
        exact cw_scanNumber_x45 htb hT hB hd hW ha he hk h1 (by omega)
      · have q135 : x.toInt < (4000 : Int) := aw_t_ge (a := x.toInt) (b := (4000 : Int)) rfl ex133 q135
        refine cw_n aj_d29 rfl rfl ?_
        refine cw_n aj_d29 rfl rfl ?_
        refine cw_ld (i := 1) htb.1 aj_d29 (Or.inr (Or.inl ⟨rfl, rfl⟩)) rfl a134 (a := x.toInt) rfl (by omega) (by omega) (fun x136 ex136 => ?_)
        have b136 : 0 ≤ x136.toInt ∧ x136.toInt ≤ 65535 := by
          rw [ex136]
          exact p134c _ (by omega)
        refine cw_ks0 (con' := cw_n26) aj_d29 hT rfl rfl rfl [_] rfl rfl (Nat.le_of_ble_eq_true rfl) ⟨by decide, by decide⟩ (cw_isDigit htb hT (by omega) x136) ?_
        rintro _ h137 hT138 ⟨rfl, x139, rfl, hbx139⟩ _
        show cw_W _ _ _ _ _ _ _ _ _ _ 26 [(4, .int x), (5, .long w), (0, .ref (52 + 26)), (1, .ref (52 + 1)), (2, .int e), (3, .int a)] [.int x139]
        refine cw_z (tgt := 52) aj_d29 rfl rfl (fun q140 => ?_) (fun q140 => ?_)
        · have q140 : x139.toInt = (0 : Int) := aw_t_eq (a := x139.toInt) (b := (0 : Int)) rfl rfl q140
          exact cw_scanNumber_x45 htb hT138 hB hd hW ha he hk h1 (by omega)
        · have q140 : x139.toInt ≠ (0 : Int) := aw_t_eq (a := x139.toInt) (b := (0 : Int)) rfl rfl q140
          have hcc : 48 ≤ x136.toInt ∧ x136.toInt ≤ 57 := by
            rcases hbx139 with z | z <;> omega
          refine cw_n aj_d29 rfl rfl ?_
          refine cw_anyl aj_d29 rfl rfl (fun y141 ey141 => ?_)
          refine cw_anyl aj_d29 rfl rfl (fun y142 ey142 => ?_)
          refine cw_n aj_d29 rfl rfl ?_
          refine cw_n aj_d29 rfl rfl ?_
          refine cw_ld (i := 1) htb.1 aj_d29 (Or.inr (Or.inl ⟨rfl, rfl⟩)) rfl a134 (a := x.toInt) rfl (by omega) (by omega) (fun x143 ex143 => ?_)
          have b143 : 0 ≤ x143.toInt ∧ x143.toInt ≤ 65535 := by
            rw [ex143]
            exact p134c _ (by omega)
          have hx143 : 48 ≤ x143.toInt ∧ x143.toInt ≤ 57 := by
            have hz : x143 = x136 := by rw [ex143, ex136]
            rw [hz]
            exact hcc
          refine cw_n aj_d29 rfl rfl ?_
          refine cw_sub aj_d29 rfl (a := x143.toInt) (b := (48 : Int)) rfl rfl (by omega) (by omega) (fun x144 ex144 => ?_)
          refine cw_anyl aj_d29 rfl rfl (fun y145 ey145 => ?_)
          refine cw_anyl aj_d29 rfl rfl (fun y146 ey146 => ?_)
          refine cw_n aj_d29 rfl rfl ?_
          show cw_W _ _ _ _ _ _ _ _ _ _ 46 [(5, .long y146), (4, .int x), (0, .ref (52 + 26)), (1, .ref (52 + 1)), (2, .int e), (3, .int a)] []
          refine cw_inc aj_d29 rfl rfl (a := x.toInt) rfl (by omega) (by omega) (by decide) (by decide) (fun x147 ex147 => ?_)
          show cw_W _ _ _ _ _ _ _ _ _ _ 49 [(4, .int x147), (5, .long y146), (0, .ref (52 + 26)), (1, .ref (52 + 1)), (2, .int e), (3, .int a)] []
          refine cw_n aj_d29 rfl rfl ?_
          refine ih x147 (w := y146) ?_ (by omega) (by omega) (by omega)
          intro hle
          have hk := hk (by omega)
          rw [ey146, ey142, ey145]
          exact cw_num_l hk (by rw [ey141]; decide) ex144 (by omega) (by omega) (by omega) (by omega)
theorem cw_scanNumber_f (htb : ak_tbOK ak_C0 tb) (hT : ak_Ty ak_C0 s h) (hB : cw_B s) (hd : 2 ≤ d) (hW : cw_wds (cw_o h)) {kc ks : Nat} {a e : Int32} (ha : 0 ≤ a.toInt) (he : e.toInt ≤ 4000) {x : Int32} {w : Int64} (hk : x.toInt - a.toInt ≤ 4 → 0 ≤ w.toInt ∧ w.toInt < 10 ^ (x.toInt - a.toInt).toNat) (h1 : a.toInt ≤ x.toInt) (h2 : x.toInt ≤ 4000) : cw_W ak_C0 (fun s' _ h' => cw_B s' ∧ cw_ex [26, 27, 28, 29] (cw_o h) (cw_o h') ∧ cw_wds (cw_o h')) tb d aj_m29 cw_n29 s h kc ks 6 [(5, .long w), (4, .int x), (0, .ref (52 + 26)), (1, .ref (52 + 1)), (2, .int e), (3, .int a)] [] := by
  refine cw_n aj_d29 rfl rfl ?_
  refine cw_n aj_d29 rfl rfl ?_
  refine cw_c (tgt := 52) aj_d29 rfl rfl (fun q149 => ?_) (fun q149 => ?_)
  · have q149 : x.toInt ≥ e.toInt := aw_t_ge (a := x.toInt) (b := e.toInt) rfl rfl q149
    exact cw_scanNumber_x54 htb hT hB hd hW ha he hk h1 (by omega)
  · have q149 : x.toInt < e.toInt := aw_t_ge (a := x.toInt) (b := e.toInt) rfl rfl q149
    refine cw_n aj_d29 rfl rfl ?_
    refine cw_n aj_d29 rfl rfl ?_
    obtain ⟨n151, z151, a151, p151l, p151r, p151⟩ := cw_tyA (i := 1) (t := 64) (kd := 3) (n1 := 4000) (n2 := 4000) (y := (.inl (0, 65535))) hT (cw_s0 hB rfl) rfl
    obtain rfl : n151 = 4000 := Nat.le_antisymm p151r p151l
    obtain ⟨fn151, rfl, p151c⟩ := cw_xi p151
    refine cw_alen (i := 1) htb.1 aj_d29 rfl a151 (by decide) (by omega) (fun x150 ex150 => ?_)
    refine cw_c (tgt := 52) aj_d29 rfl rfl (fun q152 => ?_) (fun q152 => ?_)
    · have q152 : x.toInt ≥ (4000 : Int) := aw_t_ge (a := x.toInt) (b := (4000 : Int)) rfl ex150 q152
      exact cw_scanNumber_x54 htb hT hB hd hW ha he hk h1 (by omega)
    · have q152 : x.toInt < (4000 : Int) := aw_t_ge (a := x.toInt) (b := (4000 : Int)) rfl ex150 q152
      refine cw_n aj_d29 rfl rfl ?_
      refine cw_n aj_d29 rfl rfl ?_
      refine cw_ld (i := 1) htb.1 aj_d29 (Or.inr (Or.inl ⟨rfl, rfl⟩)) rfl a151 (a := x.toInt) rfl (by omega) (by omega) (fun x153 ex153 => ?_)
      have b153 : 0 ≤ x153.toInt ∧ x153.toInt ≤ 65535 := by
        rw [ex153]
        exact p151c _ (by omega)
      refine cw_ks0 (con' := cw_n26) aj_d29 hT rfl rfl rfl [_] rfl rfl (Nat.le_of_ble_eq_true rfl) ⟨by decide, by decide⟩ (cw_isDigit htb hT (by omega) x153) ?_
      rintro _ h154 hT155 ⟨rfl, x156, rfl, hbx156⟩ _
      show cw_W _ _ _ _ _ _ _ _ _ _ 26 [(5, .long w), (4, .int x), (0, .ref (52 + 26)), (1, .ref (52 + 1)), (2, .int e), (3, .int a)] [.int x156]
      refine cw_z (tgt := 52) aj_d29 rfl rfl (fun q157 => ?_) (fun q157 => ?_)
      · have q157 : x156.toInt = (0 : Int) := aw_t_eq (a := x156.toInt) (b := (0 : Int)) rfl rfl q157
        exact cw_scanNumber_x54 htb hT155 hB hd hW ha he hk h1 (by omega)
      · have q157 : x156.toInt ≠ (0 : Int) := aw_t_eq (a := x156.toInt) (b := (0 : Int)) rfl rfl q157
        have hcc : 48 ≤ x153.toInt ∧ x153.toInt ≤ 57 := by
          rcases hbx156 with z | z <;> omega
        refine cw_n aj_d29 rfl rfl ?_
        refine cw_anyl aj_d29 rfl rfl (fun y158 ey158 => ?_)
        refine cw_anyl aj_d29 rfl rfl (fun y159 ey159 => ?_)
        refine cw_n aj_d29 rfl rfl ?_
        refine cw_n aj_d29 rfl rfl ?_
        refine cw_ld (i := 1) htb.1 aj_d29 (Or.inr (Or.inl ⟨rfl, rfl⟩)) rfl a151 (a := x.toInt) rfl (by omega) (by omega) (fun x160 ex160 => ?_)
        have b160 : 0 ≤ x160.toInt ∧ x160.toInt ≤ 65535 := by
          rw [ex160]
          exact p151c _ (by omega)
        have hx160 : 48 ≤ x160.toInt ∧ x160.toInt ≤ 57 := by
          have hz : x160 = x153 := by rw [ex160, ex153]
          rw [hz]
          exact hcc
        refine cw_n aj_d29 rfl rfl ?_
        refine cw_sub aj_d29 rfl (a := x160.toInt) (b := (48 : Int)) rfl rfl (by omega) (by omega) (fun x161 ex161 => ?_)
        refine cw_anyl aj_d29 rfl rfl (fun y162 ey162 => ?_)
        refine cw_anyl aj_d29 rfl rfl (fun y163 ey163 => ?_)
        refine cw_n aj_d29 rfl rfl ?_
        show cw_W _ _ _ _ _ _ _ _ _ _ 46 [(5, .long y163), (4, .int x), (0, .ref (52 + 26)), (1, .ref (52 + 1)), (2, .int e), (3, .int a)] []
        refine cw_inc aj_d29 rfl rfl (a := x.toInt) rfl (by omega) (by omega) (by decide) (by decide) (fun x164 ex164 => ?_)
        show cw_W _ _ _ _ _ _ _ _ _ _ 49 [(4, .int x164), (5, .long y163), (0, .ref (52 + 26)), (1, .ref (52 + 1)), (2, .int e), (3, .int a)] []
        refine cw_n aj_d29 rfl rfl ?_
        refine cw_scanNumber_l htb hT hB hd hW ha he 4000 x164 (w := y163) ?_ (by omega) (by omega) (by omega)
        intro hle
        have hk := hk (by omega)
        rw [ey163, ey159, ey162]
        exact cw_num_l hk (by rw [ey158]; decide) ex161 (by omega) (by omega) (by omega) (by omega)
theorem cw_scanNumber (htb : ak_tbOK ak_C0 tb) (hT : ak_Ty ak_C0 s h) (hB : cw_B s) (hd : 3 ≤ d) (hW : cw_wds (cw_o h)) {a e : Int32} (ha : 0 ≤ a.toInt) (ha2 : a.toInt ≤ 4000) (he : e.toInt ≤ 4000) : cw_K ak_C0 (fun s' _ h' => cw_B s' ∧ cw_ex [26, 27, 28, 29] (cw_o h) (cw_o h') ∧ cw_wds (cw_o h')) tb d cw_n29 [.ref (52 + 26), .ref (52 + 1), .int e, .int a] s h := by
  obtain ⟨d, rfl⟩ : ∃ e, d = e + 1 := ⟨d - 1, by omega⟩
  refine cw_m (con := cw_n29) aj_m29_at (Nat.le_of_ble_eq_true rfl) ?_
  show cw_W _ _ _ _ _ _ _ _ _ _ 0 [(0, .ref (52 + 26)), (1, .ref (52 + 1)), (2, .int e), (3, .int a)] []
  refine cw_n aj_d29 rfl rfl ?_
  refine cw_n aj_d29 rfl rfl ?_
  show cw_W _ _ _ _ _ _ _ _ _ _ 3 [(4, .int a), (0, .ref (52 + 26)), (1, .ref (52 + 1)), (2, .int e), (3, .int a)] []
  refine cw_anyl aj_d29 rfl rfl (fun y165 ey165 => ?_)
  refine cw_n aj_d29 rfl rfl ?_
  show cw_W _ _ _ _ _ _ _ _ _ _ 6 [(5, .long y165), (4, .int a), (0, .ref (52 + 26)), (1, .ref (52 + 1)), (2, .int e), (3, .int a)] []
  refine cw_scanNumber_f htb hT hB (by omega) hW ha he (fun _ => ?_) (Int.le_refl _) (by omega)
  rw [ey165]
  exact ⟨by decide, by rw [Int.sub_self]; decide⟩
end CW61
