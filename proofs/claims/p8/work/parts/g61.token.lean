/-! TOKENS OF THE CLASS BY HAND (printed by wip/p2/cwalk/g61.py) -/
section CW61
variable {tb : aj_T} {s : List Nat} {h : aj_H} {d : Nat}
abbrev cw_n24 : ak_Con := (24, [.inl (0, 65535)], some (.inl (0, 1)), ([], []), [], [], [], 0, 0, [], [], [])
theorem cw_isLetter (htb : ak_tbOK ak_C0 tb) (hT : ak_Ty ak_C0 s h) (hd : 1 ≤ d) (c : Int32) : cw_K ak_C0 (fun s' r h' => s' = s ∧ h' = h ∧ ∃ b : Int32, r = some (.int b) ∧ ((b.toInt = 1 ∧ 97 ≤ c.toInt ∧ c.toInt ≤ 122) ∨ b.toInt = 0)) tb d cw_n24 [.int c] s h := by
  obtain ⟨d, rfl⟩ : ∃ e, d = e + 1 := ⟨d - 1, by omega⟩
  refine cw_m (con := cw_n24) aj_m24_at (Nat.le_of_ble_eq_true rfl) ?_
  show cw_W _ _ _ _ _ _ _ _ _ _ 0 [(0, .int c)] []
  refine cw_n aj_d24 rfl rfl ?_
  refine cw_n aj_d24 rfl rfl ?_
  refine cw_c (tgt := 16) aj_d24 rfl rfl (fun q1 => ?_) (fun q1 => ?_)
  · have q1 : c.toInt < (97 : Int) := aw_t_lt (a := c.toInt) (b := (97 : Int)) rfl rfl q1
    refine cw_n aj_d24 rfl rfl ?_
    refine cw_Wr aj_d24 rfl rfl hT ?_ ?_
    · exact ⟨rfl, rfl, _, rfl, Or.inr rfl⟩
    · exact cw_gw (s := s) (a := 0) rfl (by decide) (by decide)
  · have q1 : c.toInt ≥ (97 : Int) := aw_t_lt (a := c.toInt) (b := (97 : Int)) rfl rfl q1
    refine cw_n aj_d24 rfl rfl ?_
    refine cw_n aj_d24 rfl rfl ?_
    refine cw_c (tgt := 16) aj_d24 rfl rfl (fun q2 => ?_) (fun q2 => ?_)
    · have q2 : c.toInt > (122 : Int) := aw_t_gt (a := c.toInt) (b := (122 : Int)) rfl rfl q2
      refine cw_n aj_d24 rfl rfl ?_
      refine cw_Wr aj_d24 rfl rfl hT ?_ ?_
      · exact ⟨rfl, rfl, _, rfl, Or.inr rfl⟩
      · exact cw_gw (s := s) (a := 0) rfl (by decide) (by decide)
    · have q2 : c.toInt ≤ (122 : Int) := aw_t_gt (a := c.toInt) (b := (122 : Int)) rfl rfl q2
      refine cw_n aj_d24 rfl rfl ?_
      refine cw_n aj_d24 rfl rfl ?_
      refine cw_Wr aj_d24 rfl rfl hT ?_ ?_
      · exact ⟨rfl, rfl, _, rfl, Or.inl ⟨rfl, by omega, by omega⟩⟩
      · exact cw_gw (s := s) (a := 1) rfl (by decide) (by decide)
abbrev cw_n26 : ak_Con := (26, [.inl (0, 65535)], some (.inl (0, 1)), ([], []), [], [], [], 0, 0, [], [], [])
theorem cw_isDigit (htb : ak_tbOK ak_C0 tb) (hT : ak_Ty ak_C0 s h) (hd : 1 ≤ d) (c : Int32) : cw_K ak_C0 (fun s' r h' => s' = s ∧ h' = h ∧ ∃ b : Int32, r = some (.int b) ∧ ((b.toInt = 1 ∧ 48 ≤ c.toInt ∧ c.toInt ≤ 57) ∨ b.toInt = 0)) tb d cw_n26 [.int c] s h := by
  obtain ⟨d, rfl⟩ : ∃ e, d = e + 1 := ⟨d - 1, by omega⟩
  refine cw_m (con := cw_n26) aj_m26_at (Nat.le_of_ble_eq_true rfl) ?_
  show cw_W _ _ _ _ _ _ _ _ _ _ 0 [(0, .int c)] []
  refine cw_n aj_d26 rfl rfl ?_
  refine cw_n aj_d26 rfl rfl ?_
  refine cw_c (tgt := 16) aj_d26 rfl rfl (fun q3 => ?_) (fun q3 => ?_)
  · have q3 : c.toInt < (48 : Int) := aw_t_lt (a := c.toInt) (b := (48 : Int)) rfl rfl q3
    refine cw_n aj_d26 rfl rfl ?_
    refine cw_Wr aj_d26 rfl rfl hT ?_ ?_
    · exact ⟨rfl, rfl, _, rfl, Or.inr rfl⟩
    · exact cw_gw (s := s) (a := 0) rfl (by decide) (by decide)
  · have q3 : c.toInt ≥ (48 : Int) := aw_t_lt (a := c.toInt) (b := (48 : Int)) rfl rfl q3
    refine cw_n aj_d26 rfl rfl ?_
    refine cw_n aj_d26 rfl rfl ?_
    refine cw_c (tgt := 16) aj_d26 rfl rfl (fun q4 => ?_) (fun q4 => ?_)
    · have q4 : c.toInt > (57 : Int) := aw_t_gt (a := c.toInt) (b := (57 : Int)) rfl rfl q4
      refine cw_n aj_d26 rfl rfl ?_
      refine cw_Wr aj_d26 rfl rfl hT ?_ ?_
      · exact ⟨rfl, rfl, _, rfl, Or.inr rfl⟩
      · exact cw_gw (s := s) (a := 0) rfl (by decide) (by decide)
    · have q4 : c.toInt ≤ (57 : Int) := aw_t_gt (a := c.toInt) (b := (57 : Int)) rfl rfl q4
      refine cw_n aj_d26 rfl rfl ?_
      refine cw_n aj_d26 rfl rfl ?_
      refine cw_Wr aj_d26 rfl rfl hT ?_ ?_
      · exact ⟨rfl, rfl, _, rfl, Or.inl ⟨rfl, by omega, by omega⟩⟩
      · exact cw_gw (s := s) (a := 1) rfl (by decide) (by decide)
abbrev cw_n27 : ak_Con := (27, [.inr (some ([60], false)), .inl ((-2147483648), 2147483647), .inl ((-2147483648), 2147483647), .inr none], none, ([76, 77, 78], [(8, 3)]), [], [], [], 0, 0, [], [], [])
/-- a token more -/
theorem cw_tadd (htb : ak_tbOK ak_C0 tb) (hT : ak_Ty ak_C0 s h) (hB : cw_B s) (hd : 1 ≤ d) (hW : cw_wds (cw_o h)) (m a : Int32) (w : Int64) (hw : 0 ≤ w.toInt32.toInt ∧ w.toInt32.toInt ≤ 2139095039) : cw_K ak_C0 (fun s' r h' => s' = s ∧ r = none ∧ cw_ex [26, 27, 28, 29] (cw_o h) (cw_o h') ∧ cw_wds (cw_o h')) tb d cw_n27 [.ref (52 + 26), .int m, .int a, .long w] s h := by
  obtain ⟨d, rfl⟩ : ∃ e, d = e + 1 := ⟨d - 1, by omega⟩
  have hW' := hW
  obtain ⟨fw, aw, hW2⟩ := hW'
  have aw : cw_A h 29 1 1002 (.inr (.inl fw)) := (cw_oa_A (h := h) (i := 29) (by decide)).mp aw
  refine cw_m (con := cw_n27) aj_m27_at (Nat.le_of_ble_eq_true rfl) ?_
  show cw_W _ _ _ _ _ _ _ _ _ _ 0 [(0, .ref (52 + 26)), (1, .int m), (2, .int a), (3, .long w)] []
  refine cw_n aj_d27 rfl rfl ?_
  obtain ⟨v5, f5, g5⟩ := cw_tyF (i := 26) (t := 60) (c := 8) (k := 3) (y := (.inl (0, 1002))) hT (cw_s0 hB rfl) rfl rfl rfl
  obtain ⟨x5, rfl, b5⟩ := ak_gi g5
  dsimp only [ak_win] at b5
  refine cw_g (i := 26) (v := .int x5) htb.1 aj_d27 rfl rfl (by decide) f5 ?_
  refine cw_n aj_d27 rfl rfl ?_
  obtain ⟨v6, f6, g6⟩ := cw_tyF (i := 26) (t := 60) (c := 8) (k := 0) (y := (.inr (some ([76], false)))) hT (cw_s0 hB rfl) rfl rfl rfl
  obtain rfl := cw_gu (i := 27) hB g6 (by decide) (by decide) (by decide)
  refine cw_g (i := 26) (v := .ref (52 + 27)) htb.1 aj_d27 rfl rfl (by decide) f6 ?_
  obtain ⟨n8, z8, a8, p8l, p8r, p8⟩ := cw_tyA (i := 27) (t := 76) (kd := 0) (n1 := 1002) (n2 := 1002) (y := (.inl ((-2147483648), 2147483647))) hT (cw_s0 hB rfl) rfl
  obtain rfl : n8 = 1002 := Nat.le_antisymm p8r p8l
  obtain ⟨fn8, rfl, p8c⟩ := cw_xi p8
  refine cw_alen (i := 27) htb.1 aj_d27 rfl a8 (by decide) (by omega) (fun x7 ex7 => ?_)
  refine cw_c (tgt := 76) aj_d27 rfl rfl (fun q9 => ?_) (fun q9 => ?_)
  · have q9 : x5.toInt ≥ (1002 : Int) := aw_t_ge (a := x5.toInt) (b := (1002 : Int)) rfl ex7 q9
    refine cw_Wr aj_d27 rfl rfl hT ?_ ?_
    · exact ⟨rfl, rfl, cw_ex_rf, hW⟩
    · trivial
  · have q9 : x5.toInt < (1002 : Int) := aw_t_ge (a := x5.toInt) (b := (1002 : Int)) rfl ex7 q9
    refine cw_n aj_d27 rfl rfl ?_
    refine cw_g (i := 26) (v := .int x5) htb.1 aj_d27 rfl rfl (by decide) f5 ?_
    refine cw_n aj_d27 rfl rfl ?_
    obtain ⟨v10, f10, g10⟩ := cw_tyF (i := 26) (t := 60) (c := 8) (k := 1) (y := (.inr (some ([77], false)))) hT (cw_s0 hB rfl) rfl rfl rfl
    obtain rfl := cw_gu (i := 28) hB g10 (by decide) (by decide) (by decide)
    refine cw_g (i := 26) (v := .ref (52 + 28)) htb.1 aj_d27 rfl rfl (by decide) f10 ?_
    obtain ⟨n12, z12, a12, p12l, p12r, p12⟩ := cw_tyA (i := 28) (t := 77) (kd := 0) (n1 := 1002) (n2 := 1002) (y := (.inl ((-2147483648), 2147483647))) hT (cw_s0 hB rfl) rfl
    obtain rfl : n12 = 1002 := Nat.le_antisymm p12r p12l
    obtain ⟨fn12, rfl, p12c⟩ := cw_xi p12
    refine cw_alen (i := 28) htb.1 aj_d27 rfl a12 (by decide) (by omega) (fun x11 ex11 => ?_)
    refine cw_c (tgt := 76) aj_d27 rfl rfl (fun q13 => ?_) (fun q13 => ?_)
    · have q13 : x5.toInt ≥ (1002 : Int) := aw_t_ge (a := x5.toInt) (b := (1002 : Int)) rfl ex11 q13
      refine cw_Wr aj_d27 rfl rfl hT ?_ ?_
      · exact ⟨rfl, rfl, cw_ex_rf, hW⟩
      · trivial
    · have q13 : x5.toInt < (1002 : Int) := aw_t_ge (a := x5.toInt) (b := (1002 : Int)) rfl ex11 q13
      refine cw_n aj_d27 rfl rfl ?_
      refine cw_g (i := 26) (v := .int x5) htb.1 aj_d27 rfl rfl (by decide) f5 ?_
      refine cw_n aj_d27 rfl rfl ?_
      obtain ⟨v14, f14, g14⟩ := cw_tyF (i := 26) (t := 60) (c := 8) (k := 2) (y := (.inr (some ([78], false)))) hT (cw_s0 hB rfl) rfl rfl rfl
      obtain rfl := cw_gu (i := 29) hB g14 (by decide) (by decide) (by decide)
      refine cw_g (i := 26) (v := .ref (52 + 29)) htb.1 aj_d27 rfl rfl (by decide) f14 ?_
      refine cw_alen (i := 29) htb.1 aj_d27 rfl aw (by decide) (by omega) (fun x15 ex15 => ?_)
      refine cw_c (tgt := 76) aj_d27 rfl rfl (fun q16 => ?_) (fun q16 => ?_)
      · have q16 : x5.toInt ≥ (1002 : Int) := aw_t_ge (a := x5.toInt) (b := (1002 : Int)) rfl ex15 q16
        refine cw_Wr aj_d27 rfl rfl hT ?_ ?_
        · exact ⟨rfl, rfl, cw_ex_rf, hW⟩
        · trivial
      · have q16 : x5.toInt < (1002 : Int) := aw_t_ge (a := x5.toInt) (b := (1002 : Int)) rfl ex15 q16
        refine cw_n aj_d27 rfl rfl ?_
        refine cw_g (i := 26) (v := .ref (52 + 27)) htb.1 aj_d27 rfl rfl (by decide) f6 ?_
        refine cw_n aj_d27 rfl rfl ?_
        refine cw_g (i := 26) (v := .int x5) htb.1 aj_d27 rfl rfl (by decide) f5 ?_
        refine cw_n aj_d27 rfl rfl ?_
        refine cw_st (i := 27) htb aj_d27 (Or.inl ⟨rfl, rfl⟩) rfl a8 hT (cw_s0 hB rfl) rfl (by decide) (a := x5.toInt) rfl (by omega) (by omega) (cw_full _) (fun hT17 => ?_)
        have f18 : cw_F (cw_sa h 27 (.inl (upd fn8 (x5.toInt).toNat (aj_nar 0 m)))) 26 8 3 (.int x5) := cw_sa_F f5
        have f19 : cw_F (cw_sa h 27 (.inl (upd fn8 (x5.toInt).toNat (aj_nar 0 m)))) 26 8 0 (.ref (52 + 27)) := cw_sa_F f6
        have f20 : cw_F (cw_sa h 27 (.inl (upd fn8 (x5.toInt).toNat (aj_nar 0 m)))) 26 8 1 (.ref (52 + 28)) := cw_sa_F f10
        have f21 : cw_F (cw_sa h 27 (.inl (upd fn8 (x5.toInt).toNat (aj_nar 0 m)))) 26 8 2 (.ref (52 + 29)) := cw_sa_F f14
        have a22 : cw_A (cw_sa h 27 (.inl (upd fn8 (x5.toInt).toNat (aj_nar 0 m)))) 29 1 1002 (.inr (.inl fw)) := cw_sa_ne aw (by decide)
        have a23 : cw_A (cw_sa h 27 (.inl (upd fn8 (x5.toInt).toNat (aj_nar 0 m)))) 28 0 1002 (.inl fn12) := cw_sa_ne a12 (by decide)
        have a24 : cw_A (cw_sa h 27 (.inl (upd fn8 (x5.toInt).toNat (aj_nar 0 m)))) 27 0 1002 (.inl (upd fn8 (x5.toInt).toNat (aj_nar 0 m))) := cw_sa_same a8
        refine cw_n aj_d27 rfl rfl ?_
        refine cw_g (i := 26) (v := .ref (52 + 28)) htb.1 aj_d27 rfl rfl (by decide) f20 ?_
        refine cw_n aj_d27 rfl rfl ?_
        refine cw_g (i := 26) (v := .int x5) htb.1 aj_d27 rfl rfl (by decide) f18 ?_
        refine cw_n aj_d27 rfl rfl ?_
        refine cw_st (i := 28) htb aj_d27 (Or.inl ⟨rfl, rfl⟩) rfl a23 hT17 (cw_s0 hB rfl) rfl (by decide) (a := x5.toInt) rfl (by omega) (by omega) (cw_full _) (fun hT25 => ?_)
        have f26 : cw_F (cw_sa (cw_sa h 27 (.inl (upd fn8 (x5.toInt).toNat (aj_nar 0 m)))) 28 (.inl (upd fn12 (x5.toInt).toNat (aj_nar 0 a)))) 26 8 3 (.int x5) := cw_sa_F f18
        have f27 : cw_F (cw_sa (cw_sa h 27 (.inl (upd fn8 (x5.toInt).toNat (aj_nar 0 m)))) 28 (.inl (upd fn12 (x5.toInt).toNat (aj_nar 0 a)))) 26 8 0 (.ref (52 + 27)) := cw_sa_F f19
        have f28 : cw_F (cw_sa (cw_sa h 27 (.inl (upd fn8 (x5.toInt).toNat (aj_nar 0 m)))) 28 (.inl (upd fn12 (x5.toInt).toNat (aj_nar 0 a)))) 26 8 1 (.ref (52 + 28)) := cw_sa_F f20
        have f29 : cw_F (cw_sa (cw_sa h 27 (.inl (upd fn8 (x5.toInt).toNat (aj_nar 0 m)))) 28 (.inl (upd fn12 (x5.toInt).toNat (aj_nar 0 a)))) 26 8 2 (.ref (52 + 29)) := cw_sa_F f21
        have a30 : cw_A (cw_sa (cw_sa h 27 (.inl (upd fn8 (x5.toInt).toNat (aj_nar 0 m)))) 28 (.inl (upd fn12 (x5.toInt).toNat (aj_nar 0 a)))) 29 1 1002 (.inr (.inl fw)) := cw_sa_ne a22 (by decide)
        have a31 : cw_A (cw_sa (cw_sa h 27 (.inl (upd fn8 (x5.toInt).toNat (aj_nar 0 m)))) 28 (.inl (upd fn12 (x5.toInt).toNat (aj_nar 0 a)))) 27 0 1002 (.inl (upd fn8 (x5.toInt).toNat (aj_nar 0 m))) := cw_sa_ne a24 (by decide)
        have a32 : cw_A (cw_sa (cw_sa h 27 (.inl (upd fn8 (x5.toInt).toNat (aj_nar 0 m)))) 28 (.inl (upd fn12 (x5.toInt).toNat (aj_nar 0 a)))) 28 0 1002 (.inl (upd fn12 (x5.toInt).toNat (aj_nar 0 a))) := cw_sa_same a23
        refine cw_n aj_d27 rfl rfl ?_
        refine cw_g (i := 26) (v := .ref (52 + 29)) htb.1 aj_d27 rfl rfl (by decide) f29 ?_
        refine cw_n aj_d27 rfl rfl ?_
        refine cw_g (i := 26) (v := .int x5) htb.1 aj_d27 rfl rfl (by decide) f26 ?_
        refine cw_n aj_d27 rfl rfl ?_
        refine cw_stl (i := 29) htb aj_d27 rfl a30 hT25 (cw_s0 hB rfl) rfl (by decide) (a := x5.toInt) rfl (by omega) (by omega) (fun hT33 => ?_)
        have f34 : cw_F (cw_sa (cw_sa (cw_sa h 27 (.inl (upd fn8 (x5.toInt).toNat (aj_nar 0 m)))) 28 (.inl (upd fn12 (x5.toInt).toNat (aj_nar 0 a)))) 29 (.inr (.inl (vp_updL fw (x5.toInt).toNat w)))) 26 8 3 (.int x5) := cw_sa_F f26
        have f35 : cw_F (cw_sa (cw_sa (cw_sa h 27 (.inl (upd fn8 (x5.toInt).toNat (aj_nar 0 m)))) 28 (.inl (upd fn12 (x5.toInt).toNat (aj_nar 0 a)))) 29 (.inr (.inl (vp_updL fw (x5.toInt).toNat w)))) 26 8 0 (.ref (52 + 27)) := cw_sa_F f27
        have f36 : cw_F (cw_sa (cw_sa (cw_sa h 27 (.inl (upd fn8 (x5.toInt).toNat (aj_nar 0 m)))) 28 (.inl (upd fn12 (x5.toInt).toNat (aj_nar 0 a)))) 29 (.inr (.inl (vp_updL fw (x5.toInt).toNat w)))) 26 8 1 (.ref (52 + 28)) := cw_sa_F f28
        have f37 : cw_F (cw_sa (cw_sa (cw_sa h 27 (.inl (upd fn8 (x5.toInt).toNat (aj_nar 0 m)))) 28 (.inl (upd fn12 (x5.toInt).toNat (aj_nar 0 a)))) 29 (.inr (.inl (vp_updL fw (x5.toInt).toNat w)))) 26 8 2 (.ref (52 + 29)) := cw_sa_F f29
        have a38 : cw_A (cw_sa (cw_sa (cw_sa h 27 (.inl (upd fn8 (x5.toInt).toNat (aj_nar 0 m)))) 28 (.inl (upd fn12 (x5.toInt).toNat (aj_nar 0 a)))) 29 (.inr (.inl (vp_updL fw (x5.toInt).toNat w)))) 27 0 1002 (.inl (upd fn8 (x5.toInt).toNat (aj_nar 0 m))) := cw_sa_ne a31 (by decide)
        have a39 : cw_A (cw_sa (cw_sa (cw_sa h 27 (.inl (upd fn8 (x5.toInt).toNat (aj_nar 0 m)))) 28 (.inl (upd fn12 (x5.toInt).toNat (aj_nar 0 a)))) 29 (.inr (.inl (vp_updL fw (x5.toInt).toNat w)))) 28 0 1002 (.inl (upd fn12 (x5.toInt).toNat (aj_nar 0 a))) := cw_sa_ne a32 (by decide)
        have a40 : cw_A (cw_sa (cw_sa (cw_sa h 27 (.inl (upd fn8 (x5.toInt).toNat (aj_nar 0 m)))) 28 (.inl (upd fn12 (x5.toInt).toNat (aj_nar 0 a)))) 29 (.inr (.inl (vp_updL fw (x5.toInt).toNat w)))) 29 1 1002 (.inr (.inl (vp_updL fw (x5.toInt).toNat w))) := cw_sa_same a30
        refine cw_n aj_d27 rfl rfl ?_
        refine cw_n aj_d27 rfl rfl ?_
        refine cw_g (i := 26) (v := .int x5) htb.1 aj_d27 rfl rfl (by decide) f34 ?_
        refine cw_n aj_d27 rfl rfl ?_
        refine cw_add aj_d27 rfl (a := x5.toInt) (b := (1 : Int)) rfl rfl (by omega) (by omega) (fun x41 ex41 => ?_)
        refine cw_p (i := 26) (t := 60) (c := 8) (k := 3) (v := .int x41) (y := (.inl (0, 1002))) htb aj_d27 rfl rfl hT33 (cw_s0 hB rfl) rfl rfl rfl (cw_gw (a := x41.toInt) rfl (by omega) (by omega)) (by decide) rfl rfl (fun hT42 => ?_)
        have f43 : cw_F (cw_sf (cw_sa (cw_sa (cw_sa h 27 (.inl (upd fn8 (x5.toInt).toNat (aj_nar 0 m)))) 28 (.inl (upd fn12 (x5.toInt).toNat (aj_nar 0 a)))) 29 (.inr (.inl (vp_updL fw (x5.toInt).toNat w)))) 26 3 (.int x41)) 26 8 0 (.ref (52 + 27)) := cw_sf_ne f35 (Or.inr (by decide))
        have f44 : cw_F (cw_sf (cw_sa (cw_sa (cw_sa h 27 (.inl (upd fn8 (x5.toInt).toNat (aj_nar 0 m)))) 28 (.inl (upd fn12 (x5.toInt).toNat (aj_nar 0 a)))) 29 (.inr (.inl (vp_updL fw (x5.toInt).toNat w)))) 26 3 (.int x41)) 26 8 1 (.ref (52 + 28)) := cw_sf_ne f36 (Or.inr (by decide))
        have f45 : cw_F (cw_sf (cw_sa (cw_sa (cw_sa h 27 (.inl (upd fn8 (x5.toInt).toNat (aj_nar 0 m)))) 28 (.inl (upd fn12 (x5.toInt).toNat (aj_nar 0 a)))) 29 (.inr (.inl (vp_updL fw (x5.toInt).toNat w)))) 26 3 (.int x41)) 26 8 2 (.ref (52 + 29)) := cw_sf_ne f37 (Or.inr (by decide))
        have a46 : cw_A (cw_sf (cw_sa (cw_sa (cw_sa h 27 (.inl (upd fn8 (x5.toInt).toNat (aj_nar 0 m)))) 28 (.inl (upd fn12 (x5.toInt).toNat (aj_nar 0 a)))) 29 (.inr (.inl (vp_updL fw (x5.toInt).toNat w)))) 26 3 (.int x41)) 27 0 1002 (.inl (upd fn8 (x5.toInt).toNat (aj_nar 0 m))) := cw_sf_A a38
        have a47 : cw_A (cw_sf (cw_sa (cw_sa (cw_sa h 27 (.inl (upd fn8 (x5.toInt).toNat (aj_nar 0 m)))) 28 (.inl (upd fn12 (x5.toInt).toNat (aj_nar 0 a)))) 29 (.inr (.inl (vp_updL fw (x5.toInt).toNat w)))) 26 3 (.int x41)) 28 0 1002 (.inl (upd fn12 (x5.toInt).toNat (aj_nar 0 a))) := cw_sf_A a39
        have a48 : cw_A (cw_sf (cw_sa (cw_sa (cw_sa h 27 (.inl (upd fn8 (x5.toInt).toNat (aj_nar 0 m)))) 28 (.inl (upd fn12 (x5.toInt).toNat (aj_nar 0 a)))) 29 (.inr (.inl (vp_updL fw (x5.toInt).toNat w)))) 26 3 (.int x41)) 29 1 1002 (.inr (.inl (vp_updL fw (x5.toInt).toNat w))) := cw_sf_A a40
        have f49 : cw_F (cw_sf (cw_sa (cw_sa (cw_sa h 27 (.inl (upd fn8 (x5.toInt).toNat (aj_nar 0 m)))) 28 (.inl (upd fn12 (x5.toInt).toNat (aj_nar 0 a)))) 29 (.inr (.inl (vp_updL fw (x5.toInt).toNat w)))) 26 3 (.int x41)) 26 8 3 (.int x41) := cw_sf_same f34
        refine cw_Wr aj_d27 rfl rfl hT42 ?_ ?_
        · refine ⟨rfl, rfl, (by first | exact cw_ex_rf | (refine cw_ex_tr ?_ (cw_ex_sf (by decide)); first | exact cw_ex_rf | (refine cw_ex_tr ?_ (cw_ex_sa (by decide)); refine cw_ex_tr ?_ (cw_ex_sa (by decide)); exact cw_ex_sa (by decide)))), ?_⟩
          refine ⟨_, (cw_oa_A (by decide)).mpr a48, fun j hj => ?_⟩
          unfold vp_updL
          split
          · exact hw
          · exact hW2 j hj
        · trivial
abbrev cw_n25 : ak_Con := (25, [.inr (some ([60], false)), .inr (some ([64], false)), .inl (0, 4000), .inl (0, 4000)], some (.inl (0, 4002)), ([76, 77, 78], [(8, 3)]), [], [], [], 0, 0, [], [], [])
abbrev cw_n29 : ak_Con := (29, [.inr (some ([60], false)), .inr (some ([64], false)), .inl (0, 4000), .inl (0, 4000)], some (.inl (0, 4002)), ([76, 77, 78], [(8, 3)]), [], [], [], 0, 0, [], [], [])
abbrev cw_n23 : ak_Con := (23, [.inr (some ([60], false)), .inr (some ([64], false)), .inl (0, 4000), .inl (0, 4000)], some (.inl (0, 4002)), ([76, 77, 78], [(8, 3)]), [], [], [], 0, 0, [], [], [])
theorem cw_scanName_x45 (htb : ak_tbOK ak_C0 tb) (hT : ak_Ty ak_C0 s h) (hB : cw_B s) (hd : 2 ≤ d) (hW : cw_wds (cw_o h)) {kc ks : Nat} {a e : Int32} (ha : 0 ≤ a.toInt) (he : e.toInt ≤ 4000) {x : Int32} {w : Int64} (hk : cw_wok w) (h1 : a.toInt ≤ x.toInt) (h2 : x.toInt ≤ 4000) : cw_W ak_C0 (fun s' _ h' => s' = s ∧ cw_ex [26, 27, 28, 29] (cw_o h) (cw_o h') ∧ cw_wds (cw_o h')) tb d aj_m25 cw_n25 s h kc ks 58 [(4, .int x), (5, .long w), (0, .ref (52 + 26)), (1, .ref (52 + 1)), (2, .int e), (3, .int a)] [] := by
  have hwr := cw_wok_r hk
  refine cw_n aj_d25 rfl rfl ?_
  refine cw_n aj_d25 rfl rfl ?_
  refine cw_sub aj_d25 rfl (a := x.toInt) (b := a.toInt) rfl rfl (by omega) (by omega) (fun x50 ex50 => ?_)
  refine cw_n aj_d25 rfl rfl ?_
  refine cw_c (tgt := 76) aj_d25 rfl rfl (fun q51 => ?_) (fun q51 => ?_)
  · have q51 : x50.toInt ≤ (8 : Int) := aw_t_le (a := x50.toInt) (b := (8 : Int)) rfl rfl q51
    refine cw_n aj_d25 rfl rfl ?_
    refine cw_n aj_d25 rfl rfl ?_
    refine cw_ks0 (con' := ap_c28) aj_d25 hT rfl rfl rfl [_] rfl rfl (Nat.le_of_ble_eq_true rfl) ⟨by decide, by decide⟩ (cw_a1 (by omega) (ap_0_28 htb (cw_SP1c _ _ rfl rfl) cw_hK) hT hB rfl ⟨trivial, trivial⟩) ?_
    rintro ru52 h52 hT52 ho52 hRu52
    obtain ⟨x53, rfl, bx53⟩ := cw_rI hRu52
    show cw_W _ _ _ _ _ _ _ _ _ _ 82 [(4, .int x), (5, .long w), (0, .ref (52 + 26)), (1, .ref (52 + 1)), (2, .int e), (3, .int a)] [.int x53, .ref (52 + 26)]
    refine cw_n aj_d25 rfl rfl ?_
    refine cw_n aj_d25 rfl rfl ?_
    refine cw_k0 (i := 26) (t := 60) (con' := cw_n27) aj_d25 htb hT52 rfl rfl [_, _, _] rfl rfl (cw_s0 hB rfl) rfl (Nat.le_of_ble_eq_true rfl) ⟨by decide, by decide⟩ (cw_tadd htb hT52 hB (by omega) (ho52.symm ▸ hW) x53 a w hwr) ?_
    rintro _ h54 hT55 ⟨rfl, hx, hw⟩ _
    show cw_W _ _ _ _ _ _ _ _ _ _ 88 [(4, .int x), (5, .long w), (0, .ref (52 + 26)), (1, .ref (52 + 1)), (2, .int e), (3, .int a)] []
    refine cw_n aj_d25 rfl rfl ?_
    refine cw_Wr aj_d25 rfl rfl hT55 ?_ ?_
    · exact ⟨rfl, (cw_ex_tr (cw_ex_of ho52) hx), hw⟩
    · exact cw_gw (s := s) (a := _) rfl (by omega) (by omega)
  · have q51 : x50.toInt > (8 : Int) := aw_t_le (a := x50.toInt) (b := (8 : Int)) rfl rfl q51
    refine cw_n aj_d25 rfl rfl ?_
    refine cw_n aj_d25 rfl rfl ?_
    refine cw_n aj_d25 rfl rfl ?_
    refine cw_anyl aj_d25 rfl rfl (fun y56 ey56 => ?_)
    refine cw_k0 (i := 26) (t := 60) (con' := cw_n27) aj_d25 htb hT rfl rfl [_, _, _] rfl rfl (cw_s0 hB rfl) rfl (Nat.le_of_ble_eq_true rfl) ⟨by decide, by decide⟩ (cw_tadd htb hT hB (by omega) hW (Int32.ofInt 2) a y56 (by rw [ey56]; decide)) ?_
    rintro _ h57 hT58 ⟨rfl, hx, hw⟩ _
    show cw_W _ _ _ _ _ _ _ _ _ _ 74 [(4, .int x), (5, .long w), (0, .ref (52 + 26)), (1, .ref (52 + 1)), (2, .int e), (3, .int a)] []
    refine cw_n aj_d25 rfl rfl ?_
    refine cw_Wr aj_d25 rfl rfl hT58 ?_ ?_
    · exact ⟨rfl, (cw_ex_tr cw_ex_rf hx), hw⟩
    · exact cw_gw (s := s) (a := _) rfl (by omega) (by omega)
theorem cw_scanName_x54 (htb : ak_tbOK ak_C0 tb) (hT : ak_Ty ak_C0 s h) (hB : cw_B s) (hd : 2 ≤ d) (hW : cw_wds (cw_o h)) {kc ks : Nat} {a e : Int32} (ha : 0 ≤ a.toInt) (he : e.toInt ≤ 4000) {x : Int32} {w : Int64} (hk : cw_wok w) (h1 : a.toInt ≤ x.toInt) (h2 : x.toInt ≤ 4000) : cw_W ak_C0 (fun s' _ h' => s' = s ∧ cw_ex [26, 27, 28, 29] (cw_o h) (cw_o h') ∧ cw_wds (cw_o h')) tb d aj_m25 cw_n25 s h kc ks 58 [(5, .long w), (4, .int x), (0, .ref (52 + 26)), (1, .ref (52 + 1)), (2, .int e), (3, .int a)] [] := by
  have hwr := cw_wok_r hk
  refine cw_n aj_d25 rfl rfl ?_
  refine cw_n aj_d25 rfl rfl ?_
  refine cw_sub aj_d25 rfl (a := x.toInt) (b := a.toInt) rfl rfl (by omega) (by omega) (fun x59 ex59 => ?_)
  refine cw_n aj_d25 rfl rfl ?_
  refine cw_c (tgt := 76) aj_d25 rfl rfl (fun q60 => ?_) (fun q60 => ?_)
  · have q60 : x59.toInt ≤ (8 : Int) := aw_t_le (a := x59.toInt) (b := (8 : Int)) rfl rfl q60
    refine cw_n aj_d25 rfl rfl ?_
    refine cw_n aj_d25 rfl rfl ?_
    refine cw_ks0 (con' := ap_c28) aj_d25 hT rfl rfl rfl [_] rfl rfl (Nat.le_of_ble_eq_true rfl) ⟨by decide, by decide⟩ (cw_a1 (by omega) (ap_0_28 htb (cw_SP1c _ _ rfl rfl) cw_hK) hT hB rfl ⟨trivial, trivial⟩) ?_
    rintro ru61 h61 hT61 ho61 hRu61
    obtain ⟨x62, rfl, bx62⟩ := cw_rI hRu61
    show cw_W _ _ _ _ _ _ _ _ _ _ 82 [(5, .long w), (4, .int x), (0, .ref (52 + 26)), (1, .ref (52 + 1)), (2, .int e), (3, .int a)] [.int x62, .ref (52 + 26)]
    refine cw_n aj_d25 rfl rfl ?_
    refine cw_n aj_d25 rfl rfl ?_
    refine cw_k0 (i := 26) (t := 60) (con' := cw_n27) aj_d25 htb hT61 rfl rfl [_, _, _] rfl rfl (cw_s0 hB rfl) rfl (Nat.le_of_ble_eq_true rfl) ⟨by decide, by decide⟩ (cw_tadd htb hT61 hB (by omega) (ho61.symm ▸ hW) x62 a w hwr) ?_
    rintro _ h63 hT64 ⟨rfl, hx, hw⟩ _
    show cw_W _ _ _ _ _ _ _ _ _ _ 88 [(5, .long w), (4, .int x), (0, .ref (52 + 26)), (1, .ref (52 + 1)), (2, .int e), (3, .int a)] []
    refine cw_n aj_d25 rfl rfl ?_
    refine cw_Wr aj_d25 rfl rfl hT64 ?_ ?_
    · exact ⟨rfl, (cw_ex_tr (cw_ex_of ho61) hx), hw⟩
    · exact cw_gw (s := s) (a := _) rfl (by omega) (by omega)
  · have q60 : x59.toInt > (8 : Int) := aw_t_le (a := x59.toInt) (b := (8 : Int)) rfl rfl q60
    refine cw_n aj_d25 rfl rfl ?_
    refine cw_n aj_d25 rfl rfl ?_
    refine cw_n aj_d25 rfl rfl ?_
    refine cw_anyl aj_d25 rfl rfl (fun y65 ey65 => ?_)
    refine cw_k0 (i := 26) (t := 60) (con' := cw_n27) aj_d25 htb hT rfl rfl [_, _, _] rfl rfl (cw_s0 hB rfl) rfl (Nat.le_of_ble_eq_true rfl) ⟨by decide, by decide⟩ (cw_tadd htb hT hB (by omega) hW (Int32.ofInt 2) a y65 (by rw [ey65]; decide)) ?_
    rintro _ h66 hT67 ⟨rfl, hx, hw⟩ _
    show cw_W _ _ _ _ _ _ _ _ _ _ 74 [(5, .long w), (4, .int x), (0, .ref (52 + 26)), (1, .ref (52 + 1)), (2, .int e), (3, .int a)] []
    refine cw_n aj_d25 rfl rfl ?_
    refine cw_Wr aj_d25 rfl rfl hT67 ?_ ?_
    · exact ⟨rfl, (cw_ex_tr cw_ex_rf hx), hw⟩
    · exact cw_gw (s := s) (a := _) rfl (by omega) (by omega)
theorem cw_scanName_l (htb : ak_tbOK ak_C0 tb) (hT : ak_Ty ak_C0 s h) (hB : cw_B s) (hd : 2 ≤ d) (hW : cw_wds (cw_o h)) {kc ks : Nat} {a e : Int32} (ha : 0 ≤ a.toInt) (he : e.toInt ≤ 4000) : ∀ (g : Nat) (x : Int32) {w : Int64} (hk : cw_wok w) (h1 : a.toInt ≤ x.toInt) (h2 : x.toInt ≤ 4000), 4000 - x.toInt ≤ g → cw_W ak_C0 (fun s' _ h' => s' = s ∧ cw_ex [26, 27, 28, 29] (cw_o h) (cw_o h') ∧ cw_wds (cw_o h')) tb d aj_m25 cw_n25 s h kc ks 6 [(4, .int x), (5, .long w), (0, .ref (52 + 26)), (1, .ref (52 + 1)), (2, .int e), (3, .int a)] [] := by
  intro g
  induction g with
  | zero =>
    intro x w hk h1 h2 hg
    refine cw_n aj_d25 rfl rfl ?_
    refine cw_n aj_d25 rfl rfl ?_
    refine cw_c (tgt := 58) aj_d25 rfl rfl (fun q92 => ?_) (fun q92 => ?_)
    · have q92 : x.toInt ≥ e.toInt := aw_t_ge (a := x.toInt) (b := e.toInt) rfl rfl q92
      exact cw_scanName_x45 htb hT hB hd hW ha he hk h1 (by omega)
    · have q92 : x.toInt < e.toInt := aw_t_ge (a := x.toInt) (b := e.toInt) rfl rfl q92
      exfalso
      omega
  | succ g ih =>
    intro x w hk h1 h2 hg
    refine cw_n aj_d25 rfl rfl ?_
    refine cw_n aj_d25 rfl rfl ?_
    refine cw_c (tgt := 58) aj_d25 rfl rfl (fun q68 => ?_) (fun q68 => ?_)
    · have q68 : x.toInt ≥ e.toInt := aw_t_ge (a := x.toInt) (b := e.toInt) rfl rfl q68
      exact cw_scanName_x45 htb hT hB hd hW ha he hk h1 (by omega)
    · have q68 : x.toInt < e.toInt := aw_t_ge (a := x.toInt) (b := e.toInt) rfl rfl q68
      refine cw_n aj_d25 rfl rfl ?_
      refine cw_n aj_d25 rfl rfl ?_
      obtain ⟨n70, z70, a70, p70l, p70r, p70⟩ := cw_tyA (i := 1) (t := 64) (kd := 3) (n1 := 4000) (n2 := 4000) (y := (.inl (0, 65535))) hT (cw_s0 hB rfl) rfl
      obtain rfl : n70 = 4000 := Nat.le_antisymm p70r p70l
      obtain ⟨fn70, rfl, p70c⟩ := cw_xi p70
      refine cw_alen (i := 1) htb.1 aj_d25 rfl a70 (by decide) (by omega) (fun x69 ex69 => ?_)
      refine cw_c (tgt := 58) aj_d25 rfl rfl (fun q71 => ?_) (fun q71 => ?_)
      · have q71 : x.toInt ≥ (4000 : Int) := aw_t_ge (a := x.toInt) (b := (4000 : Int)) rfl ex69 q71
        exact cw_scanName_x45 htb hT hB hd hW ha he hk h1 (by omega)
      · have q71 : x.toInt < (4000 : Int) := aw_t_ge (a := x.toInt) (b := (4000 : Int)) rfl ex69 q71
        refine cw_n aj_d25 rfl rfl ?_
        refine cw_n aj_d25 rfl rfl ?_
        refine cw_ld (i := 1) htb.1 aj_d25 (Or.inr (Or.inl ⟨rfl, rfl⟩)) rfl a70 (a := x.toInt) rfl (by omega) (by omega) (fun x72 ex72 => ?_)
        have b72 : 0 ≤ x72.toInt ∧ x72.toInt ≤ 65535 := by
          rw [ex72]
          exact p70c _ (by omega)
        refine cw_ks0 (con' := cw_n24) aj_d25 hT rfl rfl rfl [_] rfl rfl (Nat.le_of_ble_eq_true rfl) ⟨by decide, by decide⟩ (cw_isLetter htb hT (by omega) x72) ?_
        rintro _ h73 hT74 ⟨rfl, x75, rfl, hbx75⟩ _
        show cw_W _ _ _ _ _ _ _ _ _ _ 26 [(4, .int x), (5, .long w), (0, .ref (52 + 26)), (1, .ref (52 + 1)), (2, .int e), (3, .int a)] [.int x75]
        refine cw_z (tgt := 39) aj_d25 rfl rfl (fun q76 => ?_) (fun q76 => ?_)
        · have q76 : x75.toInt ≠ (0 : Int) := aw_t_ne (a := x75.toInt) (b := (0 : Int)) rfl rfl q76
          have hcc : 48 ≤ x72.toInt ∧ x72.toInt ≤ 122 := by
            rcases hbx75 with z | z <;> omega
          refine cw_n aj_d25 rfl rfl ?_
          refine cw_n aj_d25 rfl rfl ?_
          refine cw_anyl aj_d25 rfl rfl (fun y77 ey77 => ?_)
          refine cw_n aj_d25 rfl rfl ?_
          refine cw_n aj_d25 rfl rfl ?_
          refine cw_ld (i := 1) htb.1 aj_d25 (Or.inr (Or.inl ⟨rfl, rfl⟩)) rfl a70 (a := x.toInt) rfl (by omega) (by omega) (fun x78 ex78 => ?_)
          have b78 : 0 ≤ x78.toInt ∧ x78.toInt ≤ 65535 := by
            rw [ex78]
            exact p70c _ (by omega)
          have hzx78 : x78.toInt = x72.toInt := by rw [ex78, ex72]
          have hx78 : 48 ≤ x78.toInt ∧ x78.toInt ≤ 122 := by
            have hz : x78 = x72 := by rw [ex78, ex72]
            rw [hz]
            exact hcc
          refine cw_anyl aj_d25 rfl rfl (fun y79 ey79 => ?_)
          refine cw_anyl aj_d25 rfl rfl (fun y80 ey80 => ?_)
          refine cw_n aj_d25 rfl rfl ?_
          show cw_W _ _ _ _ _ _ _ _ _ _ 52 [(5, .long y80), (4, .int x), (0, .ref (52 + 26)), (1, .ref (52 + 1)), (2, .int e), (3, .int a)] []
          refine cw_inc aj_d25 rfl rfl (a := x.toInt) rfl (by omega) (by omega) (by decide) (by decide) (fun x81 ex81 => ?_)
          show cw_W _ _ _ _ _ _ _ _ _ _ 55 [(4, .int x81), (5, .long y80), (0, .ref (52 + 26)), (1, .ref (52 + 1)), (2, .int e), (3, .int a)] []
          refine cw_n aj_d25 rfl rfl ?_
          refine ih x81 (w := y80) ?_ (by omega) (by omega) (by omega)
          rw [ey80, ey77, ey79]
          exact cw_wok_s hk (by omega) (by omega)
        · have q76 : x75.toInt = (0 : Int) := aw_t_ne (a := x75.toInt) (b := (0 : Int)) rfl rfl q76
          refine cw_n aj_d25 rfl rfl ?_
          refine cw_n aj_d25 rfl rfl ?_
          refine cw_ld (i := 1) htb.1 aj_d25 (Or.inr (Or.inl ⟨rfl, rfl⟩)) rfl a70 (a := x.toInt) rfl (by omega) (by omega) (fun x82 ex82 => ?_)
          have b82 : 0 ≤ x82.toInt ∧ x82.toInt ≤ 65535 := by
            rw [ex82]
            exact p70c _ (by omega)
          have hzx82 : x82.toInt = x72.toInt := by rw [ex82, ex72]
          refine cw_ks0 (con' := cw_n26) aj_d25 hT74 rfl rfl rfl [_] rfl rfl (Nat.le_of_ble_eq_true rfl) ⟨by decide, by decide⟩ (cw_isDigit htb hT74 (by omega) x82) ?_
          rintro _ h83 hT84 ⟨rfl, x85, rfl, hbx85⟩ _
          show cw_W _ _ _ _ _ _ _ _ _ _ 36 [(4, .int x), (5, .long w), (0, .ref (52 + 26)), (1, .ref (52 + 1)), (2, .int e), (3, .int a)] [.int x85]
          refine cw_z (tgt := 58) aj_d25 rfl rfl (fun q86 => ?_) (fun q86 => ?_)
          · have q86 : x85.toInt = (0 : Int) := aw_t_eq (a := x85.toInt) (b := (0 : Int)) rfl rfl q86
            exact cw_scanName_x45 htb hT84 hB hd hW ha he hk h1 (by omega)
          · have q86 : x85.toInt ≠ (0 : Int) := aw_t_eq (a := x85.toInt) (b := (0 : Int)) rfl rfl q86
            have hcc : 48 ≤ x82.toInt ∧ x82.toInt ≤ 122 := by
              rcases hbx85 with z | z <;> omega
            refine cw_n aj_d25 rfl rfl ?_
            refine cw_n aj_d25 rfl rfl ?_
            refine cw_anyl aj_d25 rfl rfl (fun y87 ey87 => ?_)
            refine cw_n aj_d25 rfl rfl ?_
            refine cw_n aj_d25 rfl rfl ?_
            refine cw_ld (i := 1) htb.1 aj_d25 (Or.inr (Or.inl ⟨rfl, rfl⟩)) rfl a70 (a := x.toInt) rfl (by omega) (by omega) (fun x88 ex88 => ?_)
            have b88 : 0 ≤ x88.toInt ∧ x88.toInt ≤ 65535 := by
              rw [ex88]
              exact p70c _ (by omega)
            have hzx88 : x88.toInt = x72.toInt := by rw [ex88, ex72]
            have hx88 : 48 ≤ x88.toInt ∧ x88.toInt ≤ 122 := by
              have hz : x88 = x82 := by rw [ex88, ex82]
              rw [hz]
              exact hcc
            refine cw_anyl aj_d25 rfl rfl (fun y89 ey89 => ?_)
            refine cw_anyl aj_d25 rfl rfl (fun y90 ey90 => ?_)
            refine cw_n aj_d25 rfl rfl ?_
            show cw_W _ _ _ _ _ _ _ _ _ _ 52 [(5, .long y90), (4, .int x), (0, .ref (52 + 26)), (1, .ref (52 + 1)), (2, .int e), (3, .int a)] []
            refine cw_inc aj_d25 rfl rfl (a := x.toInt) rfl (by omega) (by omega) (by decide) (by decide) (fun x91 ex91 => ?_)
            show cw_W _ _ _ _ _ _ _ _ _ _ 55 [(4, .int x91), (5, .long y90), (0, .ref (52 + 26)), (1, .ref (52 + 1)), (2, .int e), (3, .int a)] []
            refine cw_n aj_d25 rfl rfl ?_
            refine ih x91 (w := y90) ?_ (by omega) (by omega) (by omega)
            rw [ey90, ey87, ey89]
            exact cw_wok_s hk (by omega) (by omega)
theorem cw_scanName_f (htb : ak_tbOK ak_C0 tb) (hT : ak_Ty ak_C0 s h) (hB : cw_B s) (hd : 2 ≤ d) (hW : cw_wds (cw_o h)) {kc ks : Nat} {a e : Int32} (ha : 0 ≤ a.toInt) (he : e.toInt ≤ 4000) {x : Int32} {w : Int64} (hk : cw_wok w) (h1 : a.toInt ≤ x.toInt) (h2 : x.toInt ≤ 4000) : cw_W ak_C0 (fun s' _ h' => s' = s ∧ cw_ex [26, 27, 28, 29] (cw_o h) (cw_o h') ∧ cw_wds (cw_o h')) tb d aj_m25 cw_n25 s h kc ks 6 [(5, .long w), (4, .int x), (0, .ref (52 + 26)), (1, .ref (52 + 1)), (2, .int e), (3, .int a)] [] := by
  refine cw_n aj_d25 rfl rfl ?_
  refine cw_n aj_d25 rfl rfl ?_
  refine cw_c (tgt := 58) aj_d25 rfl rfl (fun q93 => ?_) (fun q93 => ?_)
  · have q93 : x.toInt ≥ e.toInt := aw_t_ge (a := x.toInt) (b := e.toInt) rfl rfl q93
    exact cw_scanName_x54 htb hT hB hd hW ha he hk h1 (by omega)
  · have q93 : x.toInt < e.toInt := aw_t_ge (a := x.toInt) (b := e.toInt) rfl rfl q93
    refine cw_n aj_d25 rfl rfl ?_
    refine cw_n aj_d25 rfl rfl ?_
    obtain ⟨n95, z95, a95, p95l, p95r, p95⟩ := cw_tyA (i := 1) (t := 64) (kd := 3) (n1 := 4000) (n2 := 4000) (y := (.inl (0, 65535))) hT (cw_s0 hB rfl) rfl
    obtain rfl : n95 = 4000 := Nat.le_antisymm p95r p95l
    obtain ⟨fn95, rfl, p95c⟩ := cw_xi p95
    refine cw_alen (i := 1) htb.1 aj_d25 rfl a95 (by decide) (by omega) (fun x94 ex94 => ?_)
    refine cw_c (tgt := 58) aj_d25 rfl rfl (fun q96 => ?_) (fun q96 => ?_)
    · have q96 : x.toInt ≥ (4000 : Int) := aw_t_ge (a := x.toInt) (b := (4000 : Int)) rfl ex94 q96
      exact cw_scanName_x54 htb hT hB hd hW ha he hk h1 (by omega)
    · have q96 : x.toInt < (4000 : Int) := aw_t_ge (a := x.toInt) (b := (4000 : Int)) rfl ex94 q96
      refine cw_n aj_d25 rfl rfl ?_
      refine cw_n aj_d25 rfl rfl ?_
      refine cw_ld (i := 1) htb.1 aj_d25 (Or.inr (Or.inl ⟨rfl, rfl⟩)) rfl a95 (a := x.toInt) rfl (by omega) (by omega) (fun x97 ex97 => ?_)
      have b97 : 0 ≤ x97.toInt ∧ x97.toInt ≤ 65535 := by
        rw [ex97]
        exact p95c _ (by omega)
      refine cw_ks0 (con' := cw_n24) aj_d25 hT rfl rfl rfl [_] rfl rfl (Nat.le_of_ble_eq_true rfl) ⟨by decide, by decide⟩ (cw_isLetter htb hT (by omega) x97) ?_
      rintro _ h98 hT99 ⟨rfl, x100, rfl, hbx100⟩ _
      show cw_W _ _ _ _ _ _ _ _ _ _ 26 [(5, .long w), (4, .int x), (0, .ref (52 + 26)), (1, .ref (52 + 1)), (2, .int e), (3, .int a)] [.int x100]
      refine cw_z (tgt := 39) aj_d25 rfl rfl (fun q101 => ?_) (fun q101 => ?_)
      · have q101 : x100.toInt ≠ (0 : Int) := aw_t_ne (a := x100.toInt) (b := (0 : Int)) rfl rfl q101
        have hcc : 48 ≤ x97.toInt ∧ x97.toInt ≤ 122 := by
          rcases hbx100 with z | z <;> omega
        refine cw_n aj_d25 rfl rfl ?_
        refine cw_n aj_d25 rfl rfl ?_
        refine cw_anyl aj_d25 rfl rfl (fun y102 ey102 => ?_)
        refine cw_n aj_d25 rfl rfl ?_
        refine cw_n aj_d25 rfl rfl ?_
        refine cw_ld (i := 1) htb.1 aj_d25 (Or.inr (Or.inl ⟨rfl, rfl⟩)) rfl a95 (a := x.toInt) rfl (by omega) (by omega) (fun x103 ex103 => ?_)
        have b103 : 0 ≤ x103.toInt ∧ x103.toInt ≤ 65535 := by
          rw [ex103]
          exact p95c _ (by omega)
        have hzx103 : x103.toInt = x97.toInt := by rw [ex103, ex97]
        have hx103 : 48 ≤ x103.toInt ∧ x103.toInt ≤ 122 := by
          have hz : x103 = x97 := by rw [ex103, ex97]
          rw [hz]
          exact hcc
        refine cw_anyl aj_d25 rfl rfl (fun y104 ey104 => ?_)
        refine cw_anyl aj_d25 rfl rfl (fun y105 ey105 => ?_)
        refine cw_n aj_d25 rfl rfl ?_
        show cw_W _ _ _ _ _ _ _ _ _ _ 52 [(5, .long y105), (4, .int x), (0, .ref (52 + 26)), (1, .ref (52 + 1)), (2, .int e), (3, .int a)] []
        refine cw_inc aj_d25 rfl rfl (a := x.toInt) rfl (by omega) (by omega) (by decide) (by decide) (fun x106 ex106 => ?_)
        show cw_W _ _ _ _ _ _ _ _ _ _ 55 [(4, .int x106), (5, .long y105), (0, .ref (52 + 26)), (1, .ref (52 + 1)), (2, .int e), (3, .int a)] []
        refine cw_n aj_d25 rfl rfl ?_
        refine cw_scanName_l htb hT hB hd hW ha he 4000 x106 (w := y105) ?_ (by omega) (by omega) (by omega)
        rw [ey105, ey102, ey104]
        exact cw_wok_s hk (by omega) (by omega)
      · have q101 : x100.toInt = (0 : Int) := aw_t_ne (a := x100.toInt) (b := (0 : Int)) rfl rfl q101
        refine cw_n aj_d25 rfl rfl ?_
        refine cw_n aj_d25 rfl rfl ?_
        refine cw_ld (i := 1) htb.1 aj_d25 (Or.inr (Or.inl ⟨rfl, rfl⟩)) rfl a95 (a := x.toInt) rfl (by omega) (by omega) (fun x107 ex107 => ?_)
        have b107 : 0 ≤ x107.toInt ∧ x107.toInt ≤ 65535 := by
          rw [ex107]
          exact p95c _ (by omega)
        have hzx107 : x107.toInt = x97.toInt := by rw [ex107, ex97]
        refine cw_ks0 (con' := cw_n26) aj_d25 hT99 rfl rfl rfl [_] rfl rfl (Nat.le_of_ble_eq_true rfl) ⟨by decide, by decide⟩ (cw_isDigit htb hT99 (by omega) x107) ?_
        rintro _ h108 hT109 ⟨rfl, x110, rfl, hbx110⟩ _
        show cw_W _ _ _ _ _ _ _ _ _ _ 36 [(5, .long w), (4, .int x), (0, .ref (52 + 26)), (1, .ref (52 + 1)), (2, .int e), (3, .int a)] [.int x110]
        refine cw_z (tgt := 58) aj_d25 rfl rfl (fun q111 => ?_) (fun q111 => ?_)
        · have q111 : x110.toInt = (0 : Int) := aw_t_eq (a := x110.toInt) (b := (0 : Int)) rfl rfl q111
          exact cw_scanName_x54 htb hT109 hB hd hW ha he hk h1 (by omega)
        · have q111 : x110.toInt ≠ (0 : Int) := aw_t_eq (a := x110.toInt) (b := (0 : Int)) rfl rfl q111
          have hcc : 48 ≤ x107.toInt ∧ x107.toInt ≤ 122 := by
            rcases hbx110 with z | z <;> omega
          refine cw_n aj_d25 rfl rfl ?_
          refine cw_n aj_d25 rfl rfl ?_
          refine cw_anyl aj_d25 rfl rfl (fun y112 ey112 => ?_)
          refine cw_n aj_d25 rfl rfl ?_
          refine cw_n aj_d25 rfl rfl ?_
          refine cw_ld (i := 1) htb.1 aj_d25 (Or.inr (Or.inl ⟨rfl, rfl⟩)) rfl a95 (a := x.toInt) rfl (by omega) (by omega) (fun x113 ex113 => ?_)
          have b113 : 0 ≤ x113.toInt ∧ x113.toInt ≤ 65535 := by
            rw [ex113]
            exact p95c _ (by omega)
          have hzx113 : x113.toInt = x97.toInt := by rw [ex113, ex97]
          have hx113 : 48 ≤ x113.toInt ∧ x113.toInt ≤ 122 := by
            have hz : x113 = x107 := by rw [ex113, ex107]
            rw [hz]
            exact hcc
          refine cw_anyl aj_d25 rfl rfl (fun y114 ey114 => ?_)
          refine cw_anyl aj_d25 rfl rfl (fun y115 ey115 => ?_)
          refine cw_n aj_d25 rfl rfl ?_
          show cw_W _ _ _ _ _ _ _ _ _ _ 52 [(5, .long y115), (4, .int x), (0, .ref (52 + 26)), (1, .ref (52 + 1)), (2, .int e), (3, .int a)] []
          refine cw_inc aj_d25 rfl rfl (a := x.toInt) rfl (by omega) (by omega) (by decide) (by decide) (fun x116 ex116 => ?_)
          show cw_W _ _ _ _ _ _ _ _ _ _ 55 [(4, .int x116), (5, .long y115), (0, .ref (52 + 26)), (1, .ref (52 + 1)), (2, .int e), (3, .int a)] []
          refine cw_n aj_d25 rfl rfl ?_
          refine cw_scanName_l htb hT hB hd hW ha he 4000 x116 (w := y115) ?_ (by omega) (by omega) (by omega)
          rw [ey115, ey112, ey114]
          exact cw_wok_s hk (by omega) (by omega)
theorem cw_scanName (htb : ak_tbOK ak_C0 tb) (hT : ak_Ty ak_C0 s h) (hB : cw_B s) (hd : 3 ≤ d) (hW : cw_wds (cw_o h)) {a e : Int32} (ha : 0 ≤ a.toInt) (ha2 : a.toInt ≤ 4000) (he : e.toInt ≤ 4000) : cw_K ak_C0 (fun s' _ h' => s' = s ∧ cw_ex [26, 27, 28, 29] (cw_o h) (cw_o h') ∧ cw_wds (cw_o h')) tb d cw_n25 [.ref (52 + 26), .ref (52 + 1), .int e, .int a] s h := by
  obtain ⟨d, rfl⟩ : ∃ e, d = e + 1 := ⟨d - 1, by omega⟩
  refine cw_m (con := cw_n25) aj_m25_at (Nat.le_of_ble_eq_true rfl) ?_
  show cw_W _ _ _ _ _ _ _ _ _ _ 0 [(0, .ref (52 + 26)), (1, .ref (52 + 1)), (2, .int e), (3, .int a)] []
  refine cw_n aj_d25 rfl rfl ?_
  refine cw_n aj_d25 rfl rfl ?_
  show cw_W _ _ _ _ _ _ _ _ _ _ 3 [(4, .int a), (0, .ref (52 + 26)), (1, .ref (52 + 1)), (2, .int e), (3, .int a)] []
  refine cw_anyl aj_d25 rfl rfl (fun y117 ey117 => ?_)
  refine cw_n aj_d25 rfl rfl ?_
  show cw_W _ _ _ _ _ _ _ _ _ _ 6 [(5, .long y117), (4, .int a), (0, .ref (52 + 26)), (1, .ref (52 + 1)), (2, .int e), (3, .int a)] []
  exact cw_scanName_f htb hT hB (by omega) hW ha he (by rw [ey117]; exact cw_wok0) (Int.le_refl _) (by omega)
theorem cw_scanNumber_x45 (htb : ak_tbOK ak_C0 tb) (hT : ak_Ty ak_C0 s h) (hB : cw_B s) (hd : 2 ≤ d) (hW : cw_wds (cw_o h)) {kc ks : Nat} {a e : Int32} (ha : 0 ≤ a.toInt) (he : e.toInt ≤ 4000) {x : Int32} {w : Int64} (hk : x.toInt - a.toInt ≤ 4 → 0 ≤ w.toInt ∧ w.toInt < 10 ^ (x.toInt - a.toInt).toNat) (h1 : a.toInt ≤ x.toInt) (h2 : x.toInt ≤ 4000) : cw_W ak_C0 (fun s' _ h' => s' = s ∧ cw_ex [26, 27, 28, 29] (cw_o h) (cw_o h') ∧ cw_wds (cw_o h')) tb d aj_m29 cw_n29 s h kc ks 52 [(4, .int x), (5, .long w), (0, .ref (52 + 26)), (1, .ref (52 + 1)), (2, .int e), (3, .int a)] [] := by
  refine cw_n aj_d29 rfl rfl ?_
  refine cw_n aj_d29 rfl rfl ?_
  refine cw_sub aj_d29 rfl (a := x.toInt) (b := a.toInt) rfl rfl (by omega) (by omega) (fun x118 ex118 => ?_)
  refine cw_n aj_d29 rfl rfl ?_
  refine cw_c (tgt := 69) aj_d29 rfl rfl (fun q119 => ?_) (fun q119 => ?_)
  · have q119 : x118.toInt ≤ (4 : Int) := aw_t_le (a := x118.toInt) (b := (4 : Int)) rfl rfl q119
    have hwr : 0 ≤ w.toInt32.toInt ∧ w.toInt32.toInt ≤ 2139095039 := cw_num_f hk (by omega) (by omega)
    refine cw_n aj_d29 rfl rfl ?_
    refine cw_n aj_d29 rfl rfl ?_
    refine cw_n aj_d29 rfl rfl ?_
    refine cw_n aj_d29 rfl rfl ?_
    refine cw_k0 (i := 26) (t := 60) (con' := cw_n27) aj_d29 htb hT rfl rfl [_, _, _] rfl rfl (cw_s0 hB rfl) rfl (Nat.le_of_ble_eq_true rfl) ⟨by decide, by decide⟩ (cw_tadd htb hT hB (by omega) hW (Int32.ofInt 4) a w hwr) ?_
    rintro _ h120 hT121 ⟨rfl, hx, hw⟩ _
    show cw_W _ _ _ _ _ _ _ _ _ _ 77 [(4, .int x), (5, .long w), (0, .ref (52 + 26)), (1, .ref (52 + 1)), (2, .int e), (3, .int a)] []
    refine cw_n aj_d29 rfl rfl ?_
    refine cw_Wr aj_d29 rfl rfl hT121 ?_ ?_
    · exact ⟨rfl, (cw_ex_tr cw_ex_rf hx), hw⟩
    · exact cw_gw (s := s) (a := _) rfl (by omega) (by omega)
  · have q119 : x118.toInt > (4 : Int) := aw_t_le (a := x118.toInt) (b := (4 : Int)) rfl rfl q119
    refine cw_n aj_d29 rfl rfl ?_
    refine cw_n aj_d29 rfl rfl ?_
    refine cw_n aj_d29 rfl rfl ?_
    refine cw_anyl aj_d29 rfl rfl (fun y122 ey122 => ?_)
    refine cw_k0 (i := 26) (t := 60) (con' := cw_n27) aj_d29 htb hT rfl rfl [_, _, _] rfl rfl (cw_s0 hB rfl) rfl (Nat.le_of_ble_eq_true rfl) ⟨by decide, by decide⟩ (cw_tadd htb hT hB (by omega) hW (Int32.ofInt 2) a y122 (by rw [ey122]; decide)) ?_
    rintro _ h123 hT124 ⟨rfl, hx, hw⟩ _
    show cw_W _ _ _ _ _ _ _ _ _ _ 67 [(4, .int x), (5, .long w), (0, .ref (52 + 26)), (1, .ref (52 + 1)), (2, .int e), (3, .int a)] []
    refine cw_n aj_d29 rfl rfl ?_
    refine cw_Wr aj_d29 rfl rfl hT124 ?_ ?_
    · exact ⟨rfl, (cw_ex_tr cw_ex_rf hx), hw⟩
    · exact cw_gw (s := s) (a := _) rfl (by omega) (by omega)
theorem cw_scanNumber_x54 (htb : ak_tbOK ak_C0 tb) (hT : ak_Ty ak_C0 s h) (hB : cw_B s) (hd : 2 ≤ d) (hW : cw_wds (cw_o h)) {kc ks : Nat} {a e : Int32} (ha : 0 ≤ a.toInt) (he : e.toInt ≤ 4000) {x : Int32} {w : Int64} (hk : x.toInt - a.toInt ≤ 4 → 0 ≤ w.toInt ∧ w.toInt < 10 ^ (x.toInt - a.toInt).toNat) (h1 : a.toInt ≤ x.toInt) (h2 : x.toInt ≤ 4000) : cw_W ak_C0 (fun s' _ h' => s' = s ∧ cw_ex [26, 27, 28, 29] (cw_o h) (cw_o h') ∧ cw_wds (cw_o h')) tb d aj_m29 cw_n29 s h kc ks 52 [(5, .long w), (4, .int x), (0, .ref (52 + 26)), (1, .ref (52 + 1)), (2, .int e), (3, .int a)] [] := by
  refine cw_n aj_d29 rfl rfl ?_
  refine cw_n aj_d29 rfl rfl ?_
  refine cw_sub aj_d29 rfl (a := x.toInt) (b := a.toInt) rfl rfl (by omega) (by omega) (fun x125 ex125 => ?_)
  refine cw_n aj_d29 rfl rfl ?_
  refine cw_c (tgt := 69) aj_d29 rfl rfl (fun q126 => ?_) (fun q126 => ?_)
  · have q126 : x125.toInt ≤ (4 : Int) := aw_t_le (a := x125.toInt) (b := (4 : Int)) rfl rfl q126
    have hwr : 0 ≤ w.toInt32.toInt ∧ w.toInt32.toInt ≤ 2139095039 := cw_num_f hk (by omega) (by omega)
    refine cw_n aj_d29 rfl rfl ?_
    refine cw_n aj_d29 rfl rfl ?_
    refine cw_n aj_d29 rfl rfl ?_
    refine cw_n aj_d29 rfl rfl ?_
    refine cw_k0 (i := 26) (t := 60) (con' := cw_n27) aj_d29 htb hT rfl rfl [_, _, _] rfl rfl (cw_s0 hB rfl) rfl (Nat.le_of_ble_eq_true rfl) ⟨by decide, by decide⟩ (cw_tadd htb hT hB (by omega) hW (Int32.ofInt 4) a w hwr) ?_
    rintro _ h127 hT128 ⟨rfl, hx, hw⟩ _
    show cw_W _ _ _ _ _ _ _ _ _ _ 77 [(5, .long w), (4, .int x), (0, .ref (52 + 26)), (1, .ref (52 + 1)), (2, .int e), (3, .int a)] []
    refine cw_n aj_d29 rfl rfl ?_
    refine cw_Wr aj_d29 rfl rfl hT128 ?_ ?_
    · exact ⟨rfl, (cw_ex_tr cw_ex_rf hx), hw⟩
    · exact cw_gw (s := s) (a := _) rfl (by omega) (by omega)
  · have q126 : x125.toInt > (4 : Int) := aw_t_le (a := x125.toInt) (b := (4 : Int)) rfl rfl q126
    refine cw_n aj_d29 rfl rfl ?_
    refine cw_n aj_d29 rfl rfl ?_
    refine cw_n aj_d29 rfl rfl ?_
    refine cw_anyl aj_d29 rfl rfl (fun y129 ey129 => ?_)
    refine cw_k0 (i := 26) (t := 60) (con' := cw_n27) aj_d29 htb hT rfl rfl [_, _, _] rfl rfl (cw_s0 hB rfl) rfl (Nat.le_of_ble_eq_true rfl) ⟨by decide, by decide⟩ (cw_tadd htb hT hB (by omega) hW (Int32.ofInt 2) a y129 (by rw [ey129]; decide)) ?_
    rintro _ h130 hT131 ⟨rfl, hx, hw⟩ _
    show cw_W _ _ _ _ _ _ _ _ _ _ 67 [(5, .long w), (4, .int x), (0, .ref (52 + 26)), (1, .ref (52 + 1)), (2, .int e), (3, .int a)] []
    refine cw_n aj_d29 rfl rfl ?_
    refine cw_Wr aj_d29 rfl rfl hT131 ?_ ?_
    · exact ⟨rfl, (cw_ex_tr cw_ex_rf hx), hw⟩
    · exact cw_gw (s := s) (a := _) rfl (by omega) (by omega)
theorem cw_scanNumber_l (htb : ak_tbOK ak_C0 tb) (hT : ak_Ty ak_C0 s h) (hB : cw_B s) (hd : 2 ≤ d) (hW : cw_wds (cw_o h)) {kc ks : Nat} {a e : Int32} (ha : 0 ≤ a.toInt) (he : e.toInt ≤ 4000) : ∀ (g : Nat) (x : Int32) {w : Int64} (hk : x.toInt - a.toInt ≤ 4 → 0 ≤ w.toInt ∧ w.toInt < 10 ^ (x.toInt - a.toInt).toNat) (h1 : a.toInt ≤ x.toInt) (h2 : x.toInt ≤ 4000), 4000 - x.toInt ≤ g → cw_W ak_C0 (fun s' _ h' => s' = s ∧ cw_ex [26, 27, 28, 29] (cw_o h) (cw_o h') ∧ cw_wds (cw_o h')) tb d aj_m29 cw_n29 s h kc ks 6 [(4, .int x), (5, .long w), (0, .ref (52 + 26)), (1, .ref (52 + 1)), (2, .int e), (3, .int a)] [] := by
  intro g
  induction g with
  | zero =>
    intro x w hk h1 h2 hg
    refine cw_n aj_d29 rfl rfl ?_
    refine cw_n aj_d29 rfl rfl ?_
    refine cw_c (tgt := 52) aj_d29 rfl rfl (fun q148 => ?_) (fun q148 => ?_)
    · have q148 : x.toInt ≥ e.toInt := aw_t_ge (a := x.toInt) (b := e.toInt) rfl rfl q148
      exact cw_scanNumber_x45 htb hT hB hd hW ha he hk h1 (by omega)
    · have q148 : x.toInt < e.toInt := aw_t_ge (a := x.toInt) (b := e.toInt) rfl rfl q148
      exfalso
      omega
  | succ g ih =>
    intro x w hk h1 h2 hg
    refine cw_n aj_d29 rfl rfl ?_
    refine cw_n aj_d29 rfl rfl ?_
    refine cw_c (tgt := 52) aj_d29 rfl rfl (fun q132 => ?_) (fun q132 => ?_)
    · have q132 : x.toInt ≥ e.toInt := aw_t_ge (a := x.toInt) (b := e.toInt) rfl rfl q132
      exact cw_scanNumber_x45 htb hT hB hd hW ha he hk h1 (by omega)
    · have q132 : x.toInt < e.toInt := aw_t_ge (a := x.toInt) (b := e.toInt) rfl rfl q132
      refine cw_n aj_d29 rfl rfl ?_
      refine cw_n aj_d29 rfl rfl ?_
      obtain ⟨n134, z134, a134, p134l, p134r, p134⟩ := cw_tyA (i := 1) (t := 64) (kd := 3) (n1 := 4000) (n2 := 4000) (y := (.inl (0, 65535))) hT (cw_s0 hB rfl) rfl
      obtain rfl : n134 = 4000 := Nat.le_antisymm p134r p134l
      obtain ⟨fn134, rfl, p134c⟩ := cw_xi p134
      refine cw_alen (i := 1) htb.1 aj_d29 rfl a134 (by decide) (by omega) (fun x133 ex133 => ?_)
      refine cw_c (tgt := 52) aj_d29 rfl rfl (fun q135 => ?_) (fun q135 => ?_)
      · have q135 : x.toInt ≥ (4000 : Int) := aw_t_ge (a := x.toInt) (b := (4000 : Int)) rfl ex133 q135
        exact cw_scanNumber_x45 htb hT hB hd hW ha he hk h1 (by omega)
      · have q135 : x.toInt < (4000 : Int) := aw_t_ge (a := x.toInt) (b := (4000 : Int)) rfl ex133 q135
        refine cw_n aj_d29 rfl rfl ?_
        refine cw_n aj_d29 rfl rfl ?_
        refine cw_ld (i := 1) htb.1 aj_d29 (Or.inr (Or.inl ⟨rfl, rfl⟩)) rfl a134 (a := x.toInt) rfl (by omega) (by omega) (fun x136 ex136 => ?_)
        have b136 : 0 ≤ x136.toInt ∧ x136.toInt ≤ 65535 := by
          rw [ex136]
          exact p134c _ (by omega)
        refine cw_ks0 (con' := cw_n26) aj_d29 hT rfl rfl rfl [_] rfl rfl (Nat.le_of_ble_eq_true rfl) ⟨by decide, by decide⟩ (cw_isDigit htb hT (by omega) x136) ?_
        rintro _ h137 hT138 ⟨rfl, x139, rfl, hbx139⟩ _
        show cw_W _ _ _ _ _ _ _ _ _ _ 26 [(4, .int x), (5, .long w), (0, .ref (52 + 26)), (1, .ref (52 + 1)), (2, .int e), (3, .int a)] [.int x139]
        refine cw_z (tgt := 52) aj_d29 rfl rfl (fun q140 => ?_) (fun q140 => ?_)
        · have q140 : x139.toInt = (0 : Int) := aw_t_eq (a := x139.toInt) (b := (0 : Int)) rfl rfl q140
          exact cw_scanNumber_x45 htb hT138 hB hd hW ha he hk h1 (by omega)
        · have q140 : x139.toInt ≠ (0 : Int) := aw_t_eq (a := x139.toInt) (b := (0 : Int)) rfl rfl q140
          have hcc : 48 ≤ x136.toInt ∧ x136.toInt ≤ 57 := by
            rcases hbx139 with z | z <;> omega
          refine cw_n aj_d29 rfl rfl ?_
          refine cw_anyl aj_d29 rfl rfl (fun y141 ey141 => ?_)
          refine cw_anyl aj_d29 rfl rfl (fun y142 ey142 => ?_)
          refine cw_n aj_d29 rfl rfl ?_
          refine cw_n aj_d29 rfl rfl ?_
          refine cw_ld (i := 1) htb.1 aj_d29 (Or.inr (Or.inl ⟨rfl, rfl⟩)) rfl a134 (a := x.toInt) rfl (by omega) (by omega) (fun x143 ex143 => ?_)
          have b143 : 0 ≤ x143.toInt ∧ x143.toInt ≤ 65535 := by
            rw [ex143]
            exact p134c _ (by omega)
          have hzx143 : x143.toInt = x136.toInt := by rw [ex143, ex136]
          have hx143 : 48 ≤ x143.toInt ∧ x143.toInt ≤ 57 := by
            have hz : x143 = x136 := by rw [ex143, ex136]
            rw [hz]
            exact hcc
          refine cw_n aj_d29 rfl rfl ?_
          refine cw_sub aj_d29 rfl (a := x143.toInt) (b := (48 : Int)) rfl rfl (by omega) (by omega) (fun x144 ex144 => ?_)
          refine cw_anyl aj_d29 rfl rfl (fun y145 ey145 => ?_)
          refine cw_anyl aj_d29 rfl rfl (fun y146 ey146 => ?_)
          refine cw_n aj_d29 rfl rfl ?_
          show cw_W _ _ _ _ _ _ _ _ _ _ 46 [(5, .long y146), (4, .int x), (0, .ref (52 + 26)), (1, .ref (52 + 1)), (2, .int e), (3, .int a)] []
          refine cw_inc aj_d29 rfl rfl (a := x.toInt) rfl (by omega) (by omega) (by decide) (by decide) (fun x147 ex147 => ?_)
          show cw_W _ _ _ _ _ _ _ _ _ _ 49 [(4, .int x147), (5, .long y146), (0, .ref (52 + 26)), (1, .ref (52 + 1)), (2, .int e), (3, .int a)] []
          refine cw_n aj_d29 rfl rfl ?_
          refine ih x147 (w := y146) ?_ (by omega) (by omega) (by omega)
          intro hle
          have hk := hk (by omega)
          rw [ey146, ey142, ey145]
          exact cw_num_l hk (by rw [ey141]; decide) ex144 (by omega) (by omega) (by omega) (by omega)
theorem cw_scanNumber_f (htb : ak_tbOK ak_C0 tb) (hT : ak_Ty ak_C0 s h) (hB : cw_B s) (hd : 2 ≤ d) (hW : cw_wds (cw_o h)) {kc ks : Nat} {a e : Int32} (ha : 0 ≤ a.toInt) (he : e.toInt ≤ 4000) {x : Int32} {w : Int64} (hk : x.toInt - a.toInt ≤ 4 → 0 ≤ w.toInt ∧ w.toInt < 10 ^ (x.toInt - a.toInt).toNat) (h1 : a.toInt ≤ x.toInt) (h2 : x.toInt ≤ 4000) : cw_W ak_C0 (fun s' _ h' => s' = s ∧ cw_ex [26, 27, 28, 29] (cw_o h) (cw_o h') ∧ cw_wds (cw_o h')) tb d aj_m29 cw_n29 s h kc ks 6 [(5, .long w), (4, .int x), (0, .ref (52 + 26)), (1, .ref (52 + 1)), (2, .int e), (3, .int a)] [] := by
  refine cw_n aj_d29 rfl rfl ?_
  refine cw_n aj_d29 rfl rfl ?_
  refine cw_c (tgt := 52) aj_d29 rfl rfl (fun q149 => ?_) (fun q149 => ?_)
  · have q149 : x.toInt ≥ e.toInt := aw_t_ge (a := x.toInt) (b := e.toInt) rfl rfl q149
    exact cw_scanNumber_x54 htb hT hB hd hW ha he hk h1 (by omega)
  · have q149 : x.toInt < e.toInt := aw_t_ge (a := x.toInt) (b := e.toInt) rfl rfl q149
    refine cw_n aj_d29 rfl rfl ?_
    refine cw_n aj_d29 rfl rfl ?_
    obtain ⟨n151, z151, a151, p151l, p151r, p151⟩ := cw_tyA (i := 1) (t := 64) (kd := 3) (n1 := 4000) (n2 := 4000) (y := (.inl (0, 65535))) hT (cw_s0 hB rfl) rfl
    obtain rfl : n151 = 4000 := Nat.le_antisymm p151r p151l
    obtain ⟨fn151, rfl, p151c⟩ := cw_xi p151
    refine cw_alen (i := 1) htb.1 aj_d29 rfl a151 (by decide) (by omega) (fun x150 ex150 => ?_)
    refine cw_c (tgt := 52) aj_d29 rfl rfl (fun q152 => ?_) (fun q152 => ?_)
    · have q152 : x.toInt ≥ (4000 : Int) := aw_t_ge (a := x.toInt) (b := (4000 : Int)) rfl ex150 q152
      exact cw_scanNumber_x54 htb hT hB hd hW ha he hk h1 (by omega)
    · have q152 : x.toInt < (4000 : Int) := aw_t_ge (a := x.toInt) (b := (4000 : Int)) rfl ex150 q152
      refine cw_n aj_d29 rfl rfl ?_
      refine cw_n aj_d29 rfl rfl ?_
      refine cw_ld (i := 1) htb.1 aj_d29 (Or.inr (Or.inl ⟨rfl, rfl⟩)) rfl a151 (a := x.toInt) rfl (by omega) (by omega) (fun x153 ex153 => ?_)
      have b153 : 0 ≤ x153.toInt ∧ x153.toInt ≤ 65535 := by
        rw [ex153]
        exact p151c _ (by omega)
      refine cw_ks0 (con' := cw_n26) aj_d29 hT rfl rfl rfl [_] rfl rfl (Nat.le_of_ble_eq_true rfl) ⟨by decide, by decide⟩ (cw_isDigit htb hT (by omega) x153) ?_
      rintro _ h154 hT155 ⟨rfl, x156, rfl, hbx156⟩ _
      show cw_W _ _ _ _ _ _ _ _ _ _ 26 [(5, .long w), (4, .int x), (0, .ref (52 + 26)), (1, .ref (52 + 1)), (2, .int e), (3, .int a)] [.int x156]
      refine cw_z (tgt := 52) aj_d29 rfl rfl (fun q157 => ?_) (fun q157 => ?_)
      · have q157 : x156.toInt = (0 : Int) := aw_t_eq (a := x156.toInt) (b := (0 : Int)) rfl rfl q157
        exact cw_scanNumber_x54 htb hT155 hB hd hW ha he hk h1 (by omega)
      · have q157 : x156.toInt ≠ (0 : Int) := aw_t_eq (a := x156.toInt) (b := (0 : Int)) rfl rfl q157
        have hcc : 48 ≤ x153.toInt ∧ x153.toInt ≤ 57 := by
          rcases hbx156 with z | z <;> omega
        refine cw_n aj_d29 rfl rfl ?_
        refine cw_anyl aj_d29 rfl rfl (fun y158 ey158 => ?_)
        refine cw_anyl aj_d29 rfl rfl (fun y159 ey159 => ?_)
        refine cw_n aj_d29 rfl rfl ?_
        refine cw_n aj_d29 rfl rfl ?_
        refine cw_ld (i := 1) htb.1 aj_d29 (Or.inr (Or.inl ⟨rfl, rfl⟩)) rfl a151 (a := x.toInt) rfl (by omega) (by omega) (fun x160 ex160 => ?_)
        have b160 : 0 ≤ x160.toInt ∧ x160.toInt ≤ 65535 := by
          rw [ex160]
          exact p151c _ (by omega)
        have hzx160 : x160.toInt = x153.toInt := by rw [ex160, ex153]
        have hx160 : 48 ≤ x160.toInt ∧ x160.toInt ≤ 57 := by
          have hz : x160 = x153 := by rw [ex160, ex153]
          rw [hz]
          exact hcc
        refine cw_n aj_d29 rfl rfl ?_
        refine cw_sub aj_d29 rfl (a := x160.toInt) (b := (48 : Int)) rfl rfl (by omega) (by omega) (fun x161 ex161 => ?_)
        refine cw_anyl aj_d29 rfl rfl (fun y162 ey162 => ?_)
        refine cw_anyl aj_d29 rfl rfl (fun y163 ey163 => ?_)
        refine cw_n aj_d29 rfl rfl ?_
        show cw_W _ _ _ _ _ _ _ _ _ _ 46 [(5, .long y163), (4, .int x), (0, .ref (52 + 26)), (1, .ref (52 + 1)), (2, .int e), (3, .int a)] []
        refine cw_inc aj_d29 rfl rfl (a := x.toInt) rfl (by omega) (by omega) (by decide) (by decide) (fun x164 ex164 => ?_)
        show cw_W _ _ _ _ _ _ _ _ _ _ 49 [(4, .int x164), (5, .long y163), (0, .ref (52 + 26)), (1, .ref (52 + 1)), (2, .int e), (3, .int a)] []
        refine cw_n aj_d29 rfl rfl ?_
        refine cw_scanNumber_l htb hT hB hd hW ha he 4000 x164 (w := y163) ?_ (by omega) (by omega) (by omega)
        intro hle
        have hk := hk (by omega)
        rw [ey163, ey159, ey162]
        exact cw_num_l hk (by rw [ey158]; decide) ex161 (by omega) (by omega) (by omega) (by omega)
theorem cw_scanNumber (htb : ak_tbOK ak_C0 tb) (hT : ak_Ty ak_C0 s h) (hB : cw_B s) (hd : 3 ≤ d) (hW : cw_wds (cw_o h)) {a e : Int32} (ha : 0 ≤ a.toInt) (ha2 : a.toInt ≤ 4000) (he : e.toInt ≤ 4000) : cw_K ak_C0 (fun s' _ h' => s' = s ∧ cw_ex [26, 27, 28, 29] (cw_o h) (cw_o h') ∧ cw_wds (cw_o h')) tb d cw_n29 [.ref (52 + 26), .ref (52 + 1), .int e, .int a] s h := by
  obtain ⟨d, rfl⟩ : ∃ e, d = e + 1 := ⟨d - 1, by omega⟩
  refine cw_m (con := cw_n29) aj_m29_at (Nat.le_of_ble_eq_true rfl) ?_
  show cw_W _ _ _ _ _ _ _ _ _ _ 0 [(0, .ref (52 + 26)), (1, .ref (52 + 1)), (2, .int e), (3, .int a)] []
  refine cw_n aj_d29 rfl rfl ?_
  refine cw_n aj_d29 rfl rfl ?_
  show cw_W _ _ _ _ _ _ _ _ _ _ 3 [(4, .int a), (0, .ref (52 + 26)), (1, .ref (52 + 1)), (2, .int e), (3, .int a)] []
  refine cw_anyl aj_d29 rfl rfl (fun y165 ey165 => ?_)
  refine cw_n aj_d29 rfl rfl ?_
  show cw_W _ _ _ _ _ _ _ _ _ _ 6 [(5, .long y165), (4, .int a), (0, .ref (52 + 26)), (1, .ref (52 + 1)), (2, .int e), (3, .int a)] []
  refine cw_scanNumber_f htb hT hB (by omega) hW ha he (fun _ => ?_) (Int.le_refl _) (by omega)
  rw [ey165]
  exact ⟨by decide, by rw [Int.sub_self]; decide⟩
theorem cw_scanOne (htb : ak_tbOK ak_C0 tb) (hT : ak_Ty ak_C0 s h) (hB : cw_B s) (hd : 4 ≤ d) (hW : cw_wds (cw_o h)) {a e : Int32} (ha : 0 ≤ a.toInt) (ha2 : a.toInt ≤ 3999) (he : e.toInt ≤ 4000) : cw_K ak_C0 (fun s' _ h' => s' = s ∧ cw_ex [26, 27, 28, 29] (cw_o h) (cw_o h') ∧ cw_wds (cw_o h')) tb d cw_n23 [.ref (52 + 26), .ref (52 + 1), .int e, .int a] s h := by
  obtain ⟨d, rfl⟩ : ∃ e, d = e + 1 := ⟨d - 1, by omega⟩
  refine cw_m (con := cw_n23) aj_m23_at (Nat.le_of_ble_eq_true rfl) ?_
  show cw_W _ _ _ _ _ _ _ _ _ _ 0 [(0, .ref (52 + 26)), (1, .ref (52 + 1)), (2, .int e), (3, .int a)] []
  refine cw_n aj_d23 rfl rfl ?_
  refine cw_n aj_d23 rfl rfl ?_
  obtain ⟨n167, z167, a167, p167l, p167r, p167⟩ := cw_tyA (i := 1) (t := 64) (kd := 3) (n1 := 4000) (n2 := 4000) (y := (.inl (0, 65535))) hT (cw_s0 hB rfl) rfl
  obtain rfl : n167 = 4000 := Nat.le_antisymm p167r p167l
  obtain ⟨fn167, rfl, p167c⟩ := cw_xi p167
  refine cw_alen (i := 1) htb.1 aj_d23 rfl a167 (by decide) (by omega) (fun x166 ex166 => ?_)
  refine cw_c (tgt := 12) aj_d23 rfl rfl (fun q168 => ?_) (fun q168 => ?_)
  · have q168 : a.toInt ≥ (4000 : Int) := aw_t_ge (a := a.toInt) (b := (4000 : Int)) rfl ex166 q168
    exfalso
    omega
  · have q168 : a.toInt < (4000 : Int) := aw_t_ge (a := a.toInt) (b := (4000 : Int)) rfl ex166 q168
    refine cw_n aj_d23 rfl rfl ?_
    refine cw_n aj_d23 rfl rfl ?_
    refine cw_ld (i := 1) htb.1 aj_d23 (Or.inr (Or.inl ⟨rfl, rfl⟩)) rfl a167 (a := a.toInt) rfl (by omega) (by omega) (fun x169 ex169 => ?_)
    have b169 : 0 ≤ x169.toInt ∧ x169.toInt ≤ 65535 := by
      rw [ex169]
      exact p167c _ (by omega)
    refine cw_n aj_d23 rfl rfl ?_
    refine cw_n aj_d23 rfl rfl ?_
    show cw_W _ _ _ _ _ _ _ _ _ _ 15 [(4, .int x169), (0, .ref (52 + 26)), (1, .ref (52 + 1)), (2, .int e), (3, .int a)] []
    refine cw_n aj_d23 rfl rfl ?_
    refine cw_ks0 (con' := cw_n24) aj_d23 hT rfl rfl rfl [_] rfl rfl (Nat.le_of_ble_eq_true rfl) ⟨by decide, by decide⟩ (cw_isLetter htb hT (by omega) x169) ?_
    rintro _ h170 hT171 ⟨rfl, x172, rfl, hbx172⟩ _
    show cw_W _ _ _ _ _ _ _ _ _ _ 20 [(4, .int x169), (0, .ref (52 + 26)), (1, .ref (52 + 1)), (2, .int e), (3, .int a)] [.int x172]
    refine cw_z (tgt := 31) aj_d23 rfl rfl (fun q173 => ?_) (fun q173 => ?_)
    · have q173 : x172.toInt = (0 : Int) := aw_t_eq (a := x172.toInt) (b := (0 : Int)) rfl rfl q173
      refine cw_n aj_d23 rfl rfl ?_
      refine cw_ks0 (con' := cw_n26) aj_d23 hT171 rfl rfl rfl [_] rfl rfl (Nat.le_of_ble_eq_true rfl) ⟨by decide, by decide⟩ (cw_isDigit htb hT171 (by omega) x169) ?_
      rintro _ h174 hT175 ⟨rfl, x176, rfl, hbx176⟩ _
      show cw_W _ _ _ _ _ _ _ _ _ _ 36 [(4, .int x169), (0, .ref (52 + 26)), (1, .ref (52 + 1)), (2, .int e), (3, .int a)] [.int x176]
      refine cw_z (tgt := 47) aj_d23 rfl rfl (fun q177 => ?_) (fun q177 => ?_)
      · have q177 : x176.toInt = (0 : Int) := aw_t_eq (a := x176.toInt) (b := (0 : Int)) rfl rfl q177
        refine cw_n aj_d23 rfl rfl ?_
        refine cw_n aj_d23 rfl rfl ?_
        refine cw_add aj_d23 rfl (a := a.toInt) (b := (1 : Int)) rfl rfl (by omega) (by omega) (fun x178 ex178 => ?_)
        refine cw_n aj_d23 rfl rfl ?_
        refine cw_c (tgt := 70) aj_d23 rfl rfl (fun q179 => ?_) (fun q179 => ?_)
        · have q179 : x178.toInt ≥ e.toInt := aw_t_ge (a := x178.toInt) (b := e.toInt) rfl rfl q179
          refine cw_n aj_d23 rfl rfl ?_
          refine cw_n aj_d23 rfl rfl ?_
          show cw_W _ _ _ _ _ _ _ _ _ _ 73 [(5, .int (Int32.ofInt 0)), (4, .int x169), (0, .ref (52 + 26)), (1, .ref (52 + 1)), (2, .int e), (3, .int a)] []
          refine cw_n aj_d23 rfl rfl ?_
          refine cw_n aj_d23 rfl rfl ?_
          refine cw_c (tgt := 98) aj_d23 rfl rfl (fun q180 => ?_) (fun q180 => ?_)
          · have q180 : x169.toInt ≠ (46 : Int) := aw_t_ne (a := x169.toInt) (b := (46 : Int)) rfl rfl q180
            refine cw_n aj_d23 rfl rfl ?_
            refine cw_n aj_d23 rfl rfl ?_
            refine cw_c (tgt := 143) aj_d23 rfl rfl (fun q181 => ?_) (fun q181 => ?_)
            · have q181 : (0 : Int) ≠ (61 : Int) := aw_t_ne (a := (0 : Int)) (b := (61 : Int)) rfl rfl q181
              refine cw_n aj_d23 rfl rfl ?_
              refine cw_ks0 (con' := ap_c30) aj_d23 hT175 rfl rfl rfl [_] rfl rfl (Nat.le_of_ble_eq_true rfl) ⟨by decide, by decide⟩ (cw_a1 (by omega) (ap_0_30 htb (cw_SP1c _ _ rfl rfl) cw_hK) hT175 hB rfl ⟨(cw_gw (a := x169.toInt) rfl (by omega) (by omega)), trivial⟩) ?_
              rintro ru182 h182 hT182 ho182 hRu182
              obtain ⟨x183, rfl, bx183⟩ := cw_rI hRu182
              show cw_W _ _ _ _ _ _ _ _ _ _ 148 [(5, .int (Int32.ofInt 0)), (4, .int x169), (0, .ref (52 + 26)), (1, .ref (52 + 1)), (2, .int e), (3, .int a)] [.int x183]
              refine cw_z (tgt := 160) aj_d23 rfl rfl (fun q184 => ?_) (fun q184 => ?_)
              · have q184 : x183.toInt ≠ (0 : Int) := aw_t_ne (a := x183.toInt) (b := (0 : Int)) rfl rfl q184
                refine cw_n aj_d23 rfl rfl ?_
                refine cw_n aj_d23 rfl rfl ?_
                refine cw_n aj_d23 rfl rfl ?_
                refine cw_anyl aj_d23 rfl rfl (fun y185 ey185 => ?_)
                refine cw_k0 (i := 26) (t := 60) (con' := cw_n27) aj_d23 htb hT182 rfl rfl [_, _, _] rfl rfl (cw_s0 hB rfl) rfl (Nat.le_of_ble_eq_true rfl) ⟨by decide, by decide⟩ (cw_tadd htb hT182 hB (by omega) (ho182.symm ▸ hW) x169 a y185 (by rw [ey185]; decide)) ?_
                rintro _ h186 hT187 ⟨rfl, hx, hw⟩ _
                show cw_W _ _ _ _ _ _ _ _ _ _ 168 [(5, .int (Int32.ofInt 0)), (4, .int x169), (0, .ref (52 + 26)), (1, .ref (52 + 1)), (2, .int e), (3, .int a)] []
                refine cw_n aj_d23 rfl rfl ?_
                refine cw_n aj_d23 rfl rfl ?_
                refine cw_add aj_d23 rfl (a := a.toInt) (b := (1 : Int)) rfl rfl (by omega) (by omega) (fun x188 ex188 => ?_)
                refine cw_Wr aj_d23 rfl rfl hT187 ?_ ?_
                · exact ⟨rfl, (cw_ex_tr (cw_ex_of ho182) hx), hw⟩
                · exact cw_gw (s := s) (a := _) rfl (by omega) (by omega)
              · have q184 : x183.toInt = (0 : Int) := aw_t_ne (a := x183.toInt) (b := (0 : Int)) rfl rfl q184
                refine cw_n aj_d23 rfl rfl ?_
                refine cw_n aj_d23 rfl rfl ?_
                refine cw_n aj_d23 rfl rfl ?_
                refine cw_anyl aj_d23 rfl rfl (fun y189 ey189 => ?_)
                refine cw_k0 (i := 26) (t := 60) (con' := cw_n27) aj_d23 htb hT182 rfl rfl [_, _, _] rfl rfl (cw_s0 hB rfl) rfl (Nat.le_of_ble_eq_true rfl) ⟨by decide, by decide⟩ (cw_tadd htb hT182 hB (by omega) (ho182.symm ▸ hW) (Int32.ofInt 2) a y189 (by rw [ey189]; decide)) ?_
                rintro _ h190 hT191 ⟨rfl, hx, hw⟩ _
                show cw_W _ _ _ _ _ _ _ _ _ _ 158 [(5, .int (Int32.ofInt 0)), (4, .int x169), (0, .ref (52 + 26)), (1, .ref (52 + 1)), (2, .int e), (3, .int a)] []
                refine cw_n aj_d23 rfl rfl ?_
                refine cw_Wr aj_d23 rfl rfl hT191 ?_ ?_
                · exact ⟨rfl, (cw_ex_tr (cw_ex_of ho182) hx), hw⟩
                · exact cw_gw (s := s) (a := _) rfl (by omega) (by omega)
            · have q181 : (0 : Int) = (61 : Int) := aw_t_ne (a := (0 : Int)) (b := (61 : Int)) rfl rfl q181
              exfalso
              omega
          · have q180 : x169.toInt = (46 : Int) := aw_t_ne (a := x169.toInt) (b := (46 : Int)) rfl rfl q180
            refine cw_n aj_d23 rfl rfl ?_
            refine cw_n aj_d23 rfl rfl ?_
            refine cw_c (tgt := 98) aj_d23 rfl rfl (fun q192 => ?_) (fun q192 => ?_)
            · have q192 : (0 : Int) ≠ (46 : Int) := aw_t_ne (a := (0 : Int)) (b := (46 : Int)) rfl rfl q192
              refine cw_n aj_d23 rfl rfl ?_
              refine cw_n aj_d23 rfl rfl ?_
              refine cw_c (tgt := 143) aj_d23 rfl rfl (fun q193 => ?_) (fun q193 => ?_)
              · have q193 : (0 : Int) ≠ (61 : Int) := aw_t_ne (a := (0 : Int)) (b := (61 : Int)) rfl rfl q193
                refine cw_n aj_d23 rfl rfl ?_
                refine cw_ks0 (con' := ap_c30) aj_d23 hT175 rfl rfl rfl [_] rfl rfl (Nat.le_of_ble_eq_true rfl) ⟨by decide, by decide⟩ (cw_a1 (by omega) (ap_0_30 htb (cw_SP1c _ _ rfl rfl) cw_hK) hT175 hB rfl ⟨(cw_gw (a := x169.toInt) rfl (by omega) (by omega)), trivial⟩) ?_
                rintro ru194 h194 hT194 ho194 hRu194
                obtain ⟨x195, rfl, bx195⟩ := cw_rI hRu194
                show cw_W _ _ _ _ _ _ _ _ _ _ 148 [(5, .int (Int32.ofInt 0)), (4, .int x169), (0, .ref (52 + 26)), (1, .ref (52 + 1)), (2, .int e), (3, .int a)] [.int x195]
                refine cw_z (tgt := 160) aj_d23 rfl rfl (fun q196 => ?_) (fun q196 => ?_)
                · have q196 : x195.toInt ≠ (0 : Int) := aw_t_ne (a := x195.toInt) (b := (0 : Int)) rfl rfl q196
                  refine cw_n aj_d23 rfl rfl ?_
                  refine cw_n aj_d23 rfl rfl ?_
                  refine cw_n aj_d23 rfl rfl ?_
                  refine cw_anyl aj_d23 rfl rfl (fun y197 ey197 => ?_)
                  refine cw_k0 (i := 26) (t := 60) (con' := cw_n27) aj_d23 htb hT194 rfl rfl [_, _, _] rfl rfl (cw_s0 hB rfl) rfl (Nat.le_of_ble_eq_true rfl) ⟨by decide, by decide⟩ (cw_tadd htb hT194 hB (by omega) (ho194.symm ▸ hW) x169 a y197 (by rw [ey197]; decide)) ?_
                  rintro _ h198 hT199 ⟨rfl, hx, hw⟩ _
                  show cw_W _ _ _ _ _ _ _ _ _ _ 168 [(5, .int (Int32.ofInt 0)), (4, .int x169), (0, .ref (52 + 26)), (1, .ref (52 + 1)), (2, .int e), (3, .int a)] []
                  refine cw_n aj_d23 rfl rfl ?_
                  refine cw_n aj_d23 rfl rfl ?_
                  refine cw_add aj_d23 rfl (a := a.toInt) (b := (1 : Int)) rfl rfl (by omega) (by omega) (fun x200 ex200 => ?_)
                  refine cw_Wr aj_d23 rfl rfl hT199 ?_ ?_
                  · exact ⟨rfl, (cw_ex_tr (cw_ex_of ho194) hx), hw⟩
                  · exact cw_gw (s := s) (a := _) rfl (by omega) (by omega)
                · have q196 : x195.toInt = (0 : Int) := aw_t_ne (a := x195.toInt) (b := (0 : Int)) rfl rfl q196
                  refine cw_n aj_d23 rfl rfl ?_
                  refine cw_n aj_d23 rfl rfl ?_
                  refine cw_n aj_d23 rfl rfl ?_
                  refine cw_anyl aj_d23 rfl rfl (fun y201 ey201 => ?_)
                  refine cw_k0 (i := 26) (t := 60) (con' := cw_n27) aj_d23 htb hT194 rfl rfl [_, _, _] rfl rfl (cw_s0 hB rfl) rfl (Nat.le_of_ble_eq_true rfl) ⟨by decide, by decide⟩ (cw_tadd htb hT194 hB (by omega) (ho194.symm ▸ hW) (Int32.ofInt 2) a y201 (by rw [ey201]; decide)) ?_
                  rintro _ h202 hT203 ⟨rfl, hx, hw⟩ _
                  show cw_W _ _ _ _ _ _ _ _ _ _ 158 [(5, .int (Int32.ofInt 0)), (4, .int x169), (0, .ref (52 + 26)), (1, .ref (52 + 1)), (2, .int e), (3, .int a)] []
                  refine cw_n aj_d23 rfl rfl ?_
                  refine cw_Wr aj_d23 rfl rfl hT203 ?_ ?_
                  · exact ⟨rfl, (cw_ex_tr (cw_ex_of ho194) hx), hw⟩
                  · exact cw_gw (s := s) (a := _) rfl (by omega) (by omega)
              · have q193 : (0 : Int) = (61 : Int) := aw_t_ne (a := (0 : Int)) (b := (61 : Int)) rfl rfl q193
                exfalso
                omega
            · have q192 : (0 : Int) = (46 : Int) := aw_t_ne (a := (0 : Int)) (b := (46 : Int)) rfl rfl q192
              exfalso
              omega
        · have q179 : x178.toInt < e.toInt := aw_t_ge (a := x178.toInt) (b := e.toInt) rfl rfl q179
          refine cw_n aj_d23 rfl rfl ?_
          refine cw_n aj_d23 rfl rfl ?_
          refine cw_add aj_d23 rfl (a := a.toInt) (b := (1 : Int)) rfl rfl (by omega) (by omega) (fun x204 ex204 => ?_)
          refine cw_n aj_d23 rfl rfl ?_
          refine cw_alen (i := 1) htb.1 aj_d23 rfl a167 (by decide) (by omega) (fun x205 ex205 => ?_)
          refine cw_c (tgt := 70) aj_d23 rfl rfl (fun q206 => ?_) (fun q206 => ?_)
          · have q206 : x204.toInt ≥ (4000 : Int) := aw_t_ge (a := x204.toInt) (b := (4000 : Int)) rfl ex205 q206
            refine cw_n aj_d23 rfl rfl ?_
            refine cw_n aj_d23 rfl rfl ?_
            show cw_W _ _ _ _ _ _ _ _ _ _ 73 [(5, .int (Int32.ofInt 0)), (4, .int x169), (0, .ref (52 + 26)), (1, .ref (52 + 1)), (2, .int e), (3, .int a)] []
            refine cw_n aj_d23 rfl rfl ?_
            refine cw_n aj_d23 rfl rfl ?_
            refine cw_c (tgt := 98) aj_d23 rfl rfl (fun q207 => ?_) (fun q207 => ?_)
            · have q207 : x169.toInt ≠ (46 : Int) := aw_t_ne (a := x169.toInt) (b := (46 : Int)) rfl rfl q207
              refine cw_n aj_d23 rfl rfl ?_
              refine cw_n aj_d23 rfl rfl ?_
              refine cw_c (tgt := 143) aj_d23 rfl rfl (fun q208 => ?_) (fun q208 => ?_)
              · have q208 : (0 : Int) ≠ (61 : Int) := aw_t_ne (a := (0 : Int)) (b := (61 : Int)) rfl rfl q208
                refine cw_n aj_d23 rfl rfl ?_
                refine cw_ks0 (con' := ap_c30) aj_d23 hT175 rfl rfl rfl [_] rfl rfl (Nat.le_of_ble_eq_true rfl) ⟨by decide, by decide⟩ (cw_a1 (by omega) (ap_0_30 htb (cw_SP1c _ _ rfl rfl) cw_hK) hT175 hB rfl ⟨(cw_gw (a := x169.toInt) rfl (by omega) (by omega)), trivial⟩) ?_
                rintro ru209 h209 hT209 ho209 hRu209
                obtain ⟨x210, rfl, bx210⟩ := cw_rI hRu209
                show cw_W _ _ _ _ _ _ _ _ _ _ 148 [(5, .int (Int32.ofInt 0)), (4, .int x169), (0, .ref (52 + 26)), (1, .ref (52 + 1)), (2, .int e), (3, .int a)] [.int x210]
                refine cw_z (tgt := 160) aj_d23 rfl rfl (fun q211 => ?_) (fun q211 => ?_)
                · have q211 : x210.toInt ≠ (0 : Int) := aw_t_ne (a := x210.toInt) (b := (0 : Int)) rfl rfl q211
                  refine cw_n aj_d23 rfl rfl ?_
                  refine cw_n aj_d23 rfl rfl ?_
                  refine cw_n aj_d23 rfl rfl ?_
                  refine cw_anyl aj_d23 rfl rfl (fun y212 ey212 => ?_)
                  refine cw_k0 (i := 26) (t := 60) (con' := cw_n27) aj_d23 htb hT209 rfl rfl [_, _, _] rfl rfl (cw_s0 hB rfl) rfl (Nat.le_of_ble_eq_true rfl) ⟨by decide, by decide⟩ (cw_tadd htb hT209 hB (by omega) (ho209.symm ▸ hW) x169 a y212 (by rw [ey212]; decide)) ?_
                  rintro _ h213 hT214 ⟨rfl, hx, hw⟩ _
                  show cw_W _ _ _ _ _ _ _ _ _ _ 168 [(5, .int (Int32.ofInt 0)), (4, .int x169), (0, .ref (52 + 26)), (1, .ref (52 + 1)), (2, .int e), (3, .int a)] []
                  refine cw_n aj_d23 rfl rfl ?_
                  refine cw_n aj_d23 rfl rfl ?_
                  refine cw_add aj_d23 rfl (a := a.toInt) (b := (1 : Int)) rfl rfl (by omega) (by omega) (fun x215 ex215 => ?_)
                  refine cw_Wr aj_d23 rfl rfl hT214 ?_ ?_
                  · exact ⟨rfl, (cw_ex_tr (cw_ex_of ho209) hx), hw⟩
                  · exact cw_gw (s := s) (a := _) rfl (by omega) (by omega)
                · have q211 : x210.toInt = (0 : Int) := aw_t_ne (a := x210.toInt) (b := (0 : Int)) rfl rfl q211
                  refine cw_n aj_d23 rfl rfl ?_
                  refine cw_n aj_d23 rfl rfl ?_
                  refine cw_n aj_d23 rfl rfl ?_
                  refine cw_anyl aj_d23 rfl rfl (fun y216 ey216 => ?_)
                  refine cw_k0 (i := 26) (t := 60) (con' := cw_n27) aj_d23 htb hT209 rfl rfl [_, _, _] rfl rfl (cw_s0 hB rfl) rfl (Nat.le_of_ble_eq_true rfl) ⟨by decide, by decide⟩ (cw_tadd htb hT209 hB (by omega) (ho209.symm ▸ hW) (Int32.ofInt 2) a y216 (by rw [ey216]; decide)) ?_
                  rintro _ h217 hT218 ⟨rfl, hx, hw⟩ _
                  show cw_W _ _ _ _ _ _ _ _ _ _ 158 [(5, .int (Int32.ofInt 0)), (4, .int x169), (0, .ref (52 + 26)), (1, .ref (52 + 1)), (2, .int e), (3, .int a)] []
                  refine cw_n aj_d23 rfl rfl ?_
                  refine cw_Wr aj_d23 rfl rfl hT218 ?_ ?_
                  · exact ⟨rfl, (cw_ex_tr (cw_ex_of ho209) hx), hw⟩
                  · exact cw_gw (s := s) (a := _) rfl (by omega) (by omega)
              · have q208 : (0 : Int) = (61 : Int) := aw_t_ne (a := (0 : Int)) (b := (61 : Int)) rfl rfl q208
                exfalso
                omega
            · have q207 : x169.toInt = (46 : Int) := aw_t_ne (a := x169.toInt) (b := (46 : Int)) rfl rfl q207
              refine cw_n aj_d23 rfl rfl ?_
              refine cw_n aj_d23 rfl rfl ?_
              refine cw_c (tgt := 98) aj_d23 rfl rfl (fun q219 => ?_) (fun q219 => ?_)
              · have q219 : (0 : Int) ≠ (46 : Int) := aw_t_ne (a := (0 : Int)) (b := (46 : Int)) rfl rfl q219
                refine cw_n aj_d23 rfl rfl ?_
                refine cw_n aj_d23 rfl rfl ?_
                refine cw_c (tgt := 143) aj_d23 rfl rfl (fun q220 => ?_) (fun q220 => ?_)
                · have q220 : (0 : Int) ≠ (61 : Int) := aw_t_ne (a := (0 : Int)) (b := (61 : Int)) rfl rfl q220
                  refine cw_n aj_d23 rfl rfl ?_
                  refine cw_ks0 (con' := ap_c30) aj_d23 hT175 rfl rfl rfl [_] rfl rfl (Nat.le_of_ble_eq_true rfl) ⟨by decide, by decide⟩ (cw_a1 (by omega) (ap_0_30 htb (cw_SP1c _ _ rfl rfl) cw_hK) hT175 hB rfl ⟨(cw_gw (a := x169.toInt) rfl (by omega) (by omega)), trivial⟩) ?_
                  rintro ru221 h221 hT221 ho221 hRu221
                  obtain ⟨x222, rfl, bx222⟩ := cw_rI hRu221
                  show cw_W _ _ _ _ _ _ _ _ _ _ 148 [(5, .int (Int32.ofInt 0)), (4, .int x169), (0, .ref (52 + 26)), (1, .ref (52 + 1)), (2, .int e), (3, .int a)] [.int x222]
                  refine cw_z (tgt := 160) aj_d23 rfl rfl (fun q223 => ?_) (fun q223 => ?_)
                  · have q223 : x222.toInt ≠ (0 : Int) := aw_t_ne (a := x222.toInt) (b := (0 : Int)) rfl rfl q223
                    refine cw_n aj_d23 rfl rfl ?_
                    refine cw_n aj_d23 rfl rfl ?_
                    refine cw_n aj_d23 rfl rfl ?_
                    refine cw_anyl aj_d23 rfl rfl (fun y224 ey224 => ?_)
                    refine cw_k0 (i := 26) (t := 60) (con' := cw_n27) aj_d23 htb hT221 rfl rfl [_, _, _] rfl rfl (cw_s0 hB rfl) rfl (Nat.le_of_ble_eq_true rfl) ⟨by decide, by decide⟩ (cw_tadd htb hT221 hB (by omega) (ho221.symm ▸ hW) x169 a y224 (by rw [ey224]; decide)) ?_
                    rintro _ h225 hT226 ⟨rfl, hx, hw⟩ _
                    show cw_W _ _ _ _ _ _ _ _ _ _ 168 [(5, .int (Int32.ofInt 0)), (4, .int x169), (0, .ref (52 + 26)), (1, .ref (52 + 1)), (2, .int e), (3, .int a)] []
                    refine cw_n aj_d23 rfl rfl ?_
                    refine cw_n aj_d23 rfl rfl ?_
                    refine cw_add aj_d23 rfl (a := a.toInt) (b := (1 : Int)) rfl rfl (by omega) (by omega) (fun x227 ex227 => ?_)
                    refine cw_Wr aj_d23 rfl rfl hT226 ?_ ?_
                    · exact ⟨rfl, (cw_ex_tr (cw_ex_of ho221) hx), hw⟩
                    · exact cw_gw (s := s) (a := _) rfl (by omega) (by omega)
                  · have q223 : x222.toInt = (0 : Int) := aw_t_ne (a := x222.toInt) (b := (0 : Int)) rfl rfl q223
                    refine cw_n aj_d23 rfl rfl ?_
                    refine cw_n aj_d23 rfl rfl ?_
                    refine cw_n aj_d23 rfl rfl ?_
                    refine cw_anyl aj_d23 rfl rfl (fun y228 ey228 => ?_)
                    refine cw_k0 (i := 26) (t := 60) (con' := cw_n27) aj_d23 htb hT221 rfl rfl [_, _, _] rfl rfl (cw_s0 hB rfl) rfl (Nat.le_of_ble_eq_true rfl) ⟨by decide, by decide⟩ (cw_tadd htb hT221 hB (by omega) (ho221.symm ▸ hW) (Int32.ofInt 2) a y228 (by rw [ey228]; decide)) ?_
                    rintro _ h229 hT230 ⟨rfl, hx, hw⟩ _
                    show cw_W _ _ _ _ _ _ _ _ _ _ 158 [(5, .int (Int32.ofInt 0)), (4, .int x169), (0, .ref (52 + 26)), (1, .ref (52 + 1)), (2, .int e), (3, .int a)] []
                    refine cw_n aj_d23 rfl rfl ?_
                    refine cw_Wr aj_d23 rfl rfl hT230 ?_ ?_
                    · exact ⟨rfl, (cw_ex_tr (cw_ex_of ho221) hx), hw⟩
                    · exact cw_gw (s := s) (a := _) rfl (by omega) (by omega)
                · have q220 : (0 : Int) = (61 : Int) := aw_t_ne (a := (0 : Int)) (b := (61 : Int)) rfl rfl q220
                  exfalso
                  omega
              · have q219 : (0 : Int) = (46 : Int) := aw_t_ne (a := (0 : Int)) (b := (46 : Int)) rfl rfl q219
                exfalso
                omega
          · have q206 : x204.toInt < (4000 : Int) := aw_t_ge (a := x204.toInt) (b := (4000 : Int)) rfl ex205 q206
            refine cw_n aj_d23 rfl rfl ?_
            refine cw_n aj_d23 rfl rfl ?_
            refine cw_n aj_d23 rfl rfl ?_
            refine cw_add aj_d23 rfl (a := a.toInt) (b := (1 : Int)) rfl rfl (by omega) (by omega) (fun x231 ex231 => ?_)
            refine cw_ld (i := 1) htb.1 aj_d23 (Or.inr (Or.inl ⟨rfl, rfl⟩)) rfl a167 (a := x231.toInt) rfl (by omega) (by omega) (fun x232 ex232 => ?_)
            have b232 : 0 ≤ x232.toInt ∧ x232.toInt ≤ 65535 := by
              rw [ex232]
              exact p167c _ (by omega)
            refine cw_n aj_d23 rfl rfl ?_
            refine cw_n aj_d23 rfl rfl ?_
            show cw_W _ _ _ _ _ _ _ _ _ _ 73 [(5, .int x232), (4, .int x169), (0, .ref (52 + 26)), (1, .ref (52 + 1)), (2, .int e), (3, .int a)] []
            refine cw_n aj_d23 rfl rfl ?_
            refine cw_n aj_d23 rfl rfl ?_
            refine cw_c (tgt := 98) aj_d23 rfl rfl (fun q233 => ?_) (fun q233 => ?_)
            · have q233 : x169.toInt ≠ (46 : Int) := aw_t_ne (a := x169.toInt) (b := (46 : Int)) rfl rfl q233
              refine cw_n aj_d23 rfl rfl ?_
              refine cw_n aj_d23 rfl rfl ?_
              refine cw_c (tgt := 143) aj_d23 rfl rfl (fun q234 => ?_) (fun q234 => ?_)
              · have q234 : x232.toInt ≠ (61 : Int) := aw_t_ne (a := x232.toInt) (b := (61 : Int)) rfl rfl q234
                refine cw_n aj_d23 rfl rfl ?_
                refine cw_ks0 (con' := ap_c30) aj_d23 hT175 rfl rfl rfl [_] rfl rfl (Nat.le_of_ble_eq_true rfl) ⟨by decide, by decide⟩ (cw_a1 (by omega) (ap_0_30 htb (cw_SP1c _ _ rfl rfl) cw_hK) hT175 hB rfl ⟨(cw_gw (a := x169.toInt) rfl (by omega) (by omega)), trivial⟩) ?_
                rintro ru235 h235 hT235 ho235 hRu235
                obtain ⟨x236, rfl, bx236⟩ := cw_rI hRu235
                show cw_W _ _ _ _ _ _ _ _ _ _ 148 [(5, .int x232), (4, .int x169), (0, .ref (52 + 26)), (1, .ref (52 + 1)), (2, .int e), (3, .int a)] [.int x236]
                refine cw_z (tgt := 160) aj_d23 rfl rfl (fun q237 => ?_) (fun q237 => ?_)
                · have q237 : x236.toInt ≠ (0 : Int) := aw_t_ne (a := x236.toInt) (b := (0 : Int)) rfl rfl q237
                  refine cw_n aj_d23 rfl rfl ?_
                  refine cw_n aj_d23 rfl rfl ?_
                  refine cw_n aj_d23 rfl rfl ?_
                  refine cw_anyl aj_d23 rfl rfl (fun y238 ey238 => ?_)
                  refine cw_k0 (i := 26) (t := 60) (con' := cw_n27) aj_d23 htb hT235 rfl rfl [_, _, _] rfl rfl (cw_s0 hB rfl) rfl (Nat.le_of_ble_eq_true rfl) ⟨by decide, by decide⟩ (cw_tadd htb hT235 hB (by omega) (ho235.symm ▸ hW) x169 a y238 (by rw [ey238]; decide)) ?_
                  rintro _ h239 hT240 ⟨rfl, hx, hw⟩ _
                  show cw_W _ _ _ _ _ _ _ _ _ _ 168 [(5, .int x232), (4, .int x169), (0, .ref (52 + 26)), (1, .ref (52 + 1)), (2, .int e), (3, .int a)] []
                  refine cw_n aj_d23 rfl rfl ?_
                  refine cw_n aj_d23 rfl rfl ?_
                  refine cw_add aj_d23 rfl (a := a.toInt) (b := (1 : Int)) rfl rfl (by omega) (by omega) (fun x241 ex241 => ?_)
                  refine cw_Wr aj_d23 rfl rfl hT240 ?_ ?_
                  · exact ⟨rfl, (cw_ex_tr (cw_ex_of ho235) hx), hw⟩
                  · exact cw_gw (s := s) (a := _) rfl (by omega) (by omega)
                · have q237 : x236.toInt = (0 : Int) := aw_t_ne (a := x236.toInt) (b := (0 : Int)) rfl rfl q237
                  refine cw_n aj_d23 rfl rfl ?_
                  refine cw_n aj_d23 rfl rfl ?_
                  refine cw_n aj_d23 rfl rfl ?_
                  refine cw_anyl aj_d23 rfl rfl (fun y242 ey242 => ?_)
                  refine cw_k0 (i := 26) (t := 60) (con' := cw_n27) aj_d23 htb hT235 rfl rfl [_, _, _] rfl rfl (cw_s0 hB rfl) rfl (Nat.le_of_ble_eq_true rfl) ⟨by decide, by decide⟩ (cw_tadd htb hT235 hB (by omega) (ho235.symm ▸ hW) (Int32.ofInt 2) a y242 (by rw [ey242]; decide)) ?_
                  rintro _ h243 hT244 ⟨rfl, hx, hw⟩ _
                  show cw_W _ _ _ _ _ _ _ _ _ _ 158 [(5, .int x232), (4, .int x169), (0, .ref (52 + 26)), (1, .ref (52 + 1)), (2, .int e), (3, .int a)] []
                  refine cw_n aj_d23 rfl rfl ?_
                  refine cw_Wr aj_d23 rfl rfl hT244 ?_ ?_
                  · exact ⟨rfl, (cw_ex_tr (cw_ex_of ho235) hx), hw⟩
                  · exact cw_gw (s := s) (a := _) rfl (by omega) (by omega)
              · have q234 : x232.toInt = (61 : Int) := aw_t_ne (a := x232.toInt) (b := (61 : Int)) rfl rfl q234
                refine cw_n aj_d23 rfl rfl ?_
                refine cw_n aj_d23 rfl rfl ?_
                refine cw_c (tgt := 119) aj_d23 rfl rfl (fun q245 => ?_) (fun q245 => ?_)
                · have q245 : x169.toInt = (33 : Int) := aw_t_eq (a := x169.toInt) (b := (33 : Int)) rfl rfl q245
                  refine cw_n aj_d23 rfl rfl ?_
                  refine cw_n aj_d23 rfl rfl ?_
                  refine cw_n aj_d23 rfl rfl ?_
                  refine cw_c (tgt := 132) aj_d23 rfl rfl (fun q246 => ?_) (fun q246 => ?_)
                  · have q246 : x169.toInt ≠ (33 : Int) := aw_t_ne (a := x169.toInt) (b := (33 : Int)) rfl rfl q246
                    refine cw_n aj_d23 rfl rfl ?_
                    refine cw_n aj_d23 rfl rfl ?_
                    refine cw_anyl aj_d23 rfl rfl (fun y247 ey247 => ?_)
                    refine cw_k0 (i := 26) (t := 60) (con' := cw_n27) aj_d23 htb hT175 rfl rfl [_, _, _] rfl rfl (cw_s0 hB rfl) rfl (Nat.le_of_ble_eq_true rfl) ⟨by decide, by decide⟩ (cw_tadd htb hT175 hB (by omega) hW (Int8.ofInt 7).toInt32 a y247 (by rw [ey247]; decide)) ?_
                    rintro _ h248 hT249 ⟨rfl, hx, hw⟩ _
                    show cw_W _ _ _ _ _ _ _ _ _ _ 139 [(5, .int x232), (4, .int x169), (0, .ref (52 + 26)), (1, .ref (52 + 1)), (2, .int e), (3, .int a)] []
                    refine cw_n aj_d23 rfl rfl ?_
                    refine cw_n aj_d23 rfl rfl ?_
                    refine cw_add aj_d23 rfl (a := a.toInt) (b := (2 : Int)) rfl rfl (by omega) (by omega) (fun x250 ex250 => ?_)
                    refine cw_Wr aj_d23 rfl rfl hT249 ?_ ?_
                    · exact ⟨rfl, (cw_ex_tr cw_ex_rf hx), hw⟩
                    · exact cw_gw (s := s) (a := _) rfl (by omega) (by omega)
                  · have q246 : x169.toInt = (33 : Int) := aw_t_ne (a := x169.toInt) (b := (33 : Int)) rfl rfl q246
                    refine cw_n aj_d23 rfl rfl ?_
                    refine cw_n aj_d23 rfl rfl ?_
                    refine cw_n aj_d23 rfl rfl ?_
                    refine cw_anyl aj_d23 rfl rfl (fun y251 ey251 => ?_)
                    refine cw_k0 (i := 26) (t := 60) (con' := cw_n27) aj_d23 htb hT175 rfl rfl [_, _, _] rfl rfl (cw_s0 hB rfl) rfl (Nat.le_of_ble_eq_true rfl) ⟨by decide, by decide⟩ (cw_tadd htb hT175 hB (by omega) hW (Int8.ofInt 6).toInt32 a y251 (by rw [ey251]; decide)) ?_
                    rintro _ h252 hT253 ⟨rfl, hx, hw⟩ _
                    show cw_W _ _ _ _ _ _ _ _ _ _ 139 [(5, .int x232), (4, .int x169), (0, .ref (52 + 26)), (1, .ref (52 + 1)), (2, .int e), (3, .int a)] []
                    refine cw_n aj_d23 rfl rfl ?_
                    refine cw_n aj_d23 rfl rfl ?_
                    refine cw_add aj_d23 rfl (a := a.toInt) (b := (2 : Int)) rfl rfl (by omega) (by omega) (fun x254 ex254 => ?_)
                    refine cw_Wr aj_d23 rfl rfl hT253 ?_ ?_
                    · exact ⟨rfl, (cw_ex_tr cw_ex_rf hx), hw⟩
                    · exact cw_gw (s := s) (a := _) rfl (by omega) (by omega)
                · have q245 : x169.toInt ≠ (33 : Int) := aw_t_eq (a := x169.toInt) (b := (33 : Int)) rfl rfl q245
                  refine cw_n aj_d23 rfl rfl ?_
                  refine cw_n aj_d23 rfl rfl ?_
                  refine cw_c (tgt := 143) aj_d23 rfl rfl (fun q255 => ?_) (fun q255 => ?_)
                  · have q255 : x169.toInt ≠ (60 : Int) := aw_t_ne (a := x169.toInt) (b := (60 : Int)) rfl rfl q255
                    refine cw_n aj_d23 rfl rfl ?_
                    refine cw_ks0 (con' := ap_c30) aj_d23 hT175 rfl rfl rfl [_] rfl rfl (Nat.le_of_ble_eq_true rfl) ⟨by decide, by decide⟩ (cw_a1 (by omega) (ap_0_30 htb (cw_SP1c _ _ rfl rfl) cw_hK) hT175 hB rfl ⟨(cw_gw (a := x169.toInt) rfl (by omega) (by omega)), trivial⟩) ?_
                    rintro ru256 h256 hT256 ho256 hRu256
                    obtain ⟨x257, rfl, bx257⟩ := cw_rI hRu256
                    show cw_W _ _ _ _ _ _ _ _ _ _ 148 [(5, .int x232), (4, .int x169), (0, .ref (52 + 26)), (1, .ref (52 + 1)), (2, .int e), (3, .int a)] [.int x257]
                    refine cw_z (tgt := 160) aj_d23 rfl rfl (fun q258 => ?_) (fun q258 => ?_)
                    · have q258 : x257.toInt ≠ (0 : Int) := aw_t_ne (a := x257.toInt) (b := (0 : Int)) rfl rfl q258
                      refine cw_n aj_d23 rfl rfl ?_
                      refine cw_n aj_d23 rfl rfl ?_
                      refine cw_n aj_d23 rfl rfl ?_
                      refine cw_anyl aj_d23 rfl rfl (fun y259 ey259 => ?_)
                      refine cw_k0 (i := 26) (t := 60) (con' := cw_n27) aj_d23 htb hT256 rfl rfl [_, _, _] rfl rfl (cw_s0 hB rfl) rfl (Nat.le_of_ble_eq_true rfl) ⟨by decide, by decide⟩ (cw_tadd htb hT256 hB (by omega) (ho256.symm ▸ hW) x169 a y259 (by rw [ey259]; decide)) ?_
                      rintro _ h260 hT261 ⟨rfl, hx, hw⟩ _
                      show cw_W _ _ _ _ _ _ _ _ _ _ 168 [(5, .int x232), (4, .int x169), (0, .ref (52 + 26)), (1, .ref (52 + 1)), (2, .int e), (3, .int a)] []
                      refine cw_n aj_d23 rfl rfl ?_
                      refine cw_n aj_d23 rfl rfl ?_
                      refine cw_add aj_d23 rfl (a := a.toInt) (b := (1 : Int)) rfl rfl (by omega) (by omega) (fun x262 ex262 => ?_)
                      refine cw_Wr aj_d23 rfl rfl hT261 ?_ ?_
                      · exact ⟨rfl, (cw_ex_tr (cw_ex_of ho256) hx), hw⟩
                      · exact cw_gw (s := s) (a := _) rfl (by omega) (by omega)
                    · have q258 : x257.toInt = (0 : Int) := aw_t_ne (a := x257.toInt) (b := (0 : Int)) rfl rfl q258
                      refine cw_n aj_d23 rfl rfl ?_
                      refine cw_n aj_d23 rfl rfl ?_
                      refine cw_n aj_d23 rfl rfl ?_
                      refine cw_anyl aj_d23 rfl rfl (fun y263 ey263 => ?_)
                      refine cw_k0 (i := 26) (t := 60) (con' := cw_n27) aj_d23 htb hT256 rfl rfl [_, _, _] rfl rfl (cw_s0 hB rfl) rfl (Nat.le_of_ble_eq_true rfl) ⟨by decide, by decide⟩ (cw_tadd htb hT256 hB (by omega) (ho256.symm ▸ hW) (Int32.ofInt 2) a y263 (by rw [ey263]; decide)) ?_
                      rintro _ h264 hT265 ⟨rfl, hx, hw⟩ _
                      show cw_W _ _ _ _ _ _ _ _ _ _ 158 [(5, .int x232), (4, .int x169), (0, .ref (52 + 26)), (1, .ref (52 + 1)), (2, .int e), (3, .int a)] []
                      refine cw_n aj_d23 rfl rfl ?_
                      refine cw_Wr aj_d23 rfl rfl hT265 ?_ ?_
                      · exact ⟨rfl, (cw_ex_tr (cw_ex_of ho256) hx), hw⟩
                      · exact cw_gw (s := s) (a := _) rfl (by omega) (by omega)
                  · have q255 : x169.toInt = (60 : Int) := aw_t_ne (a := x169.toInt) (b := (60 : Int)) rfl rfl q255
                    refine cw_n aj_d23 rfl rfl ?_
                    refine cw_n aj_d23 rfl rfl ?_
                    refine cw_n aj_d23 rfl rfl ?_
                    refine cw_c (tgt := 132) aj_d23 rfl rfl (fun q266 => ?_) (fun q266 => ?_)
                    · have q266 : x169.toInt ≠ (33 : Int) := aw_t_ne (a := x169.toInt) (b := (33 : Int)) rfl rfl q266
                      refine cw_n aj_d23 rfl rfl ?_
                      refine cw_n aj_d23 rfl rfl ?_
                      refine cw_anyl aj_d23 rfl rfl (fun y267 ey267 => ?_)
                      refine cw_k0 (i := 26) (t := 60) (con' := cw_n27) aj_d23 htb hT175 rfl rfl [_, _, _] rfl rfl (cw_s0 hB rfl) rfl (Nat.le_of_ble_eq_true rfl) ⟨by decide, by decide⟩ (cw_tadd htb hT175 hB (by omega) hW (Int8.ofInt 7).toInt32 a y267 (by rw [ey267]; decide)) ?_
                      rintro _ h268 hT269 ⟨rfl, hx, hw⟩ _
                      show cw_W _ _ _ _ _ _ _ _ _ _ 139 [(5, .int x232), (4, .int x169), (0, .ref (52 + 26)), (1, .ref (52 + 1)), (2, .int e), (3, .int a)] []
                      refine cw_n aj_d23 rfl rfl ?_
                      refine cw_n aj_d23 rfl rfl ?_
                      refine cw_add aj_d23 rfl (a := a.toInt) (b := (2 : Int)) rfl rfl (by omega) (by omega) (fun x270 ex270 => ?_)
                      refine cw_Wr aj_d23 rfl rfl hT269 ?_ ?_
                      · exact ⟨rfl, (cw_ex_tr cw_ex_rf hx), hw⟩
                      · exact cw_gw (s := s) (a := _) rfl (by omega) (by omega)
                    · have q266 : x169.toInt = (33 : Int) := aw_t_ne (a := x169.toInt) (b := (33 : Int)) rfl rfl q266
                      refine cw_n aj_d23 rfl rfl ?_
                      refine cw_n aj_d23 rfl rfl ?_
                      refine cw_n aj_d23 rfl rfl ?_
                      refine cw_anyl aj_d23 rfl rfl (fun y271 ey271 => ?_)
                      refine cw_k0 (i := 26) (t := 60) (con' := cw_n27) aj_d23 htb hT175 rfl rfl [_, _, _] rfl rfl (cw_s0 hB rfl) rfl (Nat.le_of_ble_eq_true rfl) ⟨by decide, by decide⟩ (cw_tadd htb hT175 hB (by omega) hW (Int8.ofInt 6).toInt32 a y271 (by rw [ey271]; decide)) ?_
                      rintro _ h272 hT273 ⟨rfl, hx, hw⟩ _
                      show cw_W _ _ _ _ _ _ _ _ _ _ 139 [(5, .int x232), (4, .int x169), (0, .ref (52 + 26)), (1, .ref (52 + 1)), (2, .int e), (3, .int a)] []
                      refine cw_n aj_d23 rfl rfl ?_
                      refine cw_n aj_d23 rfl rfl ?_
                      refine cw_add aj_d23 rfl (a := a.toInt) (b := (2 : Int)) rfl rfl (by omega) (by omega) (fun x274 ex274 => ?_)
                      refine cw_Wr aj_d23 rfl rfl hT273 ?_ ?_
                      · exact ⟨rfl, (cw_ex_tr cw_ex_rf hx), hw⟩
                      · exact cw_gw (s := s) (a := _) rfl (by omega) (by omega)
            · have q233 : x169.toInt = (46 : Int) := aw_t_ne (a := x169.toInt) (b := (46 : Int)) rfl rfl q233
              refine cw_n aj_d23 rfl rfl ?_
              refine cw_n aj_d23 rfl rfl ?_
              refine cw_c (tgt := 98) aj_d23 rfl rfl (fun q275 => ?_) (fun q275 => ?_)
              · have q275 : x232.toInt ≠ (46 : Int) := aw_t_ne (a := x232.toInt) (b := (46 : Int)) rfl rfl q275
                refine cw_n aj_d23 rfl rfl ?_
                refine cw_n aj_d23 rfl rfl ?_
                refine cw_c (tgt := 143) aj_d23 rfl rfl (fun q276 => ?_) (fun q276 => ?_)
                · have q276 : x232.toInt ≠ (61 : Int) := aw_t_ne (a := x232.toInt) (b := (61 : Int)) rfl rfl q276
                  refine cw_n aj_d23 rfl rfl ?_
                  refine cw_ks0 (con' := ap_c30) aj_d23 hT175 rfl rfl rfl [_] rfl rfl (Nat.le_of_ble_eq_true rfl) ⟨by decide, by decide⟩ (cw_a1 (by omega) (ap_0_30 htb (cw_SP1c _ _ rfl rfl) cw_hK) hT175 hB rfl ⟨(cw_gw (a := x169.toInt) rfl (by omega) (by omega)), trivial⟩) ?_
                  rintro ru277 h277 hT277 ho277 hRu277
                  obtain ⟨x278, rfl, bx278⟩ := cw_rI hRu277
                  show cw_W _ _ _ _ _ _ _ _ _ _ 148 [(5, .int x232), (4, .int x169), (0, .ref (52 + 26)), (1, .ref (52 + 1)), (2, .int e), (3, .int a)] [.int x278]
                  refine cw_z (tgt := 160) aj_d23 rfl rfl (fun q279 => ?_) (fun q279 => ?_)
                  · have q279 : x278.toInt ≠ (0 : Int) := aw_t_ne (a := x278.toInt) (b := (0 : Int)) rfl rfl q279
                    refine cw_n aj_d23 rfl rfl ?_
                    refine cw_n aj_d23 rfl rfl ?_
                    refine cw_n aj_d23 rfl rfl ?_
                    refine cw_anyl aj_d23 rfl rfl (fun y280 ey280 => ?_)
                    refine cw_k0 (i := 26) (t := 60) (con' := cw_n27) aj_d23 htb hT277 rfl rfl [_, _, _] rfl rfl (cw_s0 hB rfl) rfl (Nat.le_of_ble_eq_true rfl) ⟨by decide, by decide⟩ (cw_tadd htb hT277 hB (by omega) (ho277.symm ▸ hW) x169 a y280 (by rw [ey280]; decide)) ?_
                    rintro _ h281 hT282 ⟨rfl, hx, hw⟩ _
                    show cw_W _ _ _ _ _ _ _ _ _ _ 168 [(5, .int x232), (4, .int x169), (0, .ref (52 + 26)), (1, .ref (52 + 1)), (2, .int e), (3, .int a)] []
                    refine cw_n aj_d23 rfl rfl ?_
                    refine cw_n aj_d23 rfl rfl ?_
                    refine cw_add aj_d23 rfl (a := a.toInt) (b := (1 : Int)) rfl rfl (by omega) (by omega) (fun x283 ex283 => ?_)
                    refine cw_Wr aj_d23 rfl rfl hT282 ?_ ?_
                    · exact ⟨rfl, (cw_ex_tr (cw_ex_of ho277) hx), hw⟩
                    · exact cw_gw (s := s) (a := _) rfl (by omega) (by omega)
                  · have q279 : x278.toInt = (0 : Int) := aw_t_ne (a := x278.toInt) (b := (0 : Int)) rfl rfl q279
                    refine cw_n aj_d23 rfl rfl ?_
                    refine cw_n aj_d23 rfl rfl ?_
                    refine cw_n aj_d23 rfl rfl ?_
                    refine cw_anyl aj_d23 rfl rfl (fun y284 ey284 => ?_)
                    refine cw_k0 (i := 26) (t := 60) (con' := cw_n27) aj_d23 htb hT277 rfl rfl [_, _, _] rfl rfl (cw_s0 hB rfl) rfl (Nat.le_of_ble_eq_true rfl) ⟨by decide, by decide⟩ (cw_tadd htb hT277 hB (by omega) (ho277.symm ▸ hW) (Int32.ofInt 2) a y284 (by rw [ey284]; decide)) ?_
                    rintro _ h285 hT286 ⟨rfl, hx, hw⟩ _
                    show cw_W _ _ _ _ _ _ _ _ _ _ 158 [(5, .int x232), (4, .int x169), (0, .ref (52 + 26)), (1, .ref (52 + 1)), (2, .int e), (3, .int a)] []
                    refine cw_n aj_d23 rfl rfl ?_
                    refine cw_Wr aj_d23 rfl rfl hT286 ?_ ?_
                    · exact ⟨rfl, (cw_ex_tr (cw_ex_of ho277) hx), hw⟩
                    · exact cw_gw (s := s) (a := _) rfl (by omega) (by omega)
                · have q276 : x232.toInt = (61 : Int) := aw_t_ne (a := x232.toInt) (b := (61 : Int)) rfl rfl q276
                  refine cw_n aj_d23 rfl rfl ?_
                  refine cw_n aj_d23 rfl rfl ?_
                  refine cw_c (tgt := 119) aj_d23 rfl rfl (fun q287 => ?_) (fun q287 => ?_)
                  · have q287 : x169.toInt = (33 : Int) := aw_t_eq (a := x169.toInt) (b := (33 : Int)) rfl rfl q287
                    refine cw_n aj_d23 rfl rfl ?_
                    refine cw_n aj_d23 rfl rfl ?_
                    refine cw_n aj_d23 rfl rfl ?_
                    refine cw_c (tgt := 132) aj_d23 rfl rfl (fun q288 => ?_) (fun q288 => ?_)
                    · have q288 : x169.toInt ≠ (33 : Int) := aw_t_ne (a := x169.toInt) (b := (33 : Int)) rfl rfl q288
                      refine cw_n aj_d23 rfl rfl ?_
                      refine cw_n aj_d23 rfl rfl ?_
                      refine cw_anyl aj_d23 rfl rfl (fun y289 ey289 => ?_)
                      refine cw_k0 (i := 26) (t := 60) (con' := cw_n27) aj_d23 htb hT175 rfl rfl [_, _, _] rfl rfl (cw_s0 hB rfl) rfl (Nat.le_of_ble_eq_true rfl) ⟨by decide, by decide⟩ (cw_tadd htb hT175 hB (by omega) hW (Int8.ofInt 7).toInt32 a y289 (by rw [ey289]; decide)) ?_
                      rintro _ h290 hT291 ⟨rfl, hx, hw⟩ _
                      show cw_W _ _ _ _ _ _ _ _ _ _ 139 [(5, .int x232), (4, .int x169), (0, .ref (52 + 26)), (1, .ref (52 + 1)), (2, .int e), (3, .int a)] []
                      refine cw_n aj_d23 rfl rfl ?_
                      refine cw_n aj_d23 rfl rfl ?_
                      refine cw_add aj_d23 rfl (a := a.toInt) (b := (2 : Int)) rfl rfl (by omega) (by omega) (fun x292 ex292 => ?_)
                      refine cw_Wr aj_d23 rfl rfl hT291 ?_ ?_
                      · exact ⟨rfl, (cw_ex_tr cw_ex_rf hx), hw⟩
                      · exact cw_gw (s := s) (a := _) rfl (by omega) (by omega)
                    · have q288 : x169.toInt = (33 : Int) := aw_t_ne (a := x169.toInt) (b := (33 : Int)) rfl rfl q288
                      refine cw_n aj_d23 rfl rfl ?_
                      refine cw_n aj_d23 rfl rfl ?_
                      refine cw_n aj_d23 rfl rfl ?_
                      refine cw_anyl aj_d23 rfl rfl (fun y293 ey293 => ?_)
                      refine cw_k0 (i := 26) (t := 60) (con' := cw_n27) aj_d23 htb hT175 rfl rfl [_, _, _] rfl rfl (cw_s0 hB rfl) rfl (Nat.le_of_ble_eq_true rfl) ⟨by decide, by decide⟩ (cw_tadd htb hT175 hB (by omega) hW (Int8.ofInt 6).toInt32 a y293 (by rw [ey293]; decide)) ?_
                      rintro _ h294 hT295 ⟨rfl, hx, hw⟩ _
                      show cw_W _ _ _ _ _ _ _ _ _ _ 139 [(5, .int x232), (4, .int x169), (0, .ref (52 + 26)), (1, .ref (52 + 1)), (2, .int e), (3, .int a)] []
                      refine cw_n aj_d23 rfl rfl ?_
                      refine cw_n aj_d23 rfl rfl ?_
                      refine cw_add aj_d23 rfl (a := a.toInt) (b := (2 : Int)) rfl rfl (by omega) (by omega) (fun x296 ex296 => ?_)
                      refine cw_Wr aj_d23 rfl rfl hT295 ?_ ?_
                      · exact ⟨rfl, (cw_ex_tr cw_ex_rf hx), hw⟩
                      · exact cw_gw (s := s) (a := _) rfl (by omega) (by omega)
                  · have q287 : x169.toInt ≠ (33 : Int) := aw_t_eq (a := x169.toInt) (b := (33 : Int)) rfl rfl q287
                    refine cw_n aj_d23 rfl rfl ?_
                    refine cw_n aj_d23 rfl rfl ?_
                    refine cw_c (tgt := 143) aj_d23 rfl rfl (fun q297 => ?_) (fun q297 => ?_)
                    · have q297 : x169.toInt ≠ (60 : Int) := aw_t_ne (a := x169.toInt) (b := (60 : Int)) rfl rfl q297
                      refine cw_n aj_d23 rfl rfl ?_
                      refine cw_ks0 (con' := ap_c30) aj_d23 hT175 rfl rfl rfl [_] rfl rfl (Nat.le_of_ble_eq_true rfl) ⟨by decide, by decide⟩ (cw_a1 (by omega) (ap_0_30 htb (cw_SP1c _ _ rfl rfl) cw_hK) hT175 hB rfl ⟨(cw_gw (a := x169.toInt) rfl (by omega) (by omega)), trivial⟩) ?_
                      rintro ru298 h298 hT298 ho298 hRu298
                      obtain ⟨x299, rfl, bx299⟩ := cw_rI hRu298
                      show cw_W _ _ _ _ _ _ _ _ _ _ 148 [(5, .int x232), (4, .int x169), (0, .ref (52 + 26)), (1, .ref (52 + 1)), (2, .int e), (3, .int a)] [.int x299]
                      refine cw_z (tgt := 160) aj_d23 rfl rfl (fun q300 => ?_) (fun q300 => ?_)
                      · have q300 : x299.toInt ≠ (0 : Int) := aw_t_ne (a := x299.toInt) (b := (0 : Int)) rfl rfl q300
                        refine cw_n aj_d23 rfl rfl ?_
                        refine cw_n aj_d23 rfl rfl ?_
                        refine cw_n aj_d23 rfl rfl ?_
                        refine cw_anyl aj_d23 rfl rfl (fun y301 ey301 => ?_)
                        refine cw_k0 (i := 26) (t := 60) (con' := cw_n27) aj_d23 htb hT298 rfl rfl [_, _, _] rfl rfl (cw_s0 hB rfl) rfl (Nat.le_of_ble_eq_true rfl) ⟨by decide, by decide⟩ (cw_tadd htb hT298 hB (by omega) (ho298.symm ▸ hW) x169 a y301 (by rw [ey301]; decide)) ?_
                        rintro _ h302 hT303 ⟨rfl, hx, hw⟩ _
                        show cw_W _ _ _ _ _ _ _ _ _ _ 168 [(5, .int x232), (4, .int x169), (0, .ref (52 + 26)), (1, .ref (52 + 1)), (2, .int e), (3, .int a)] []
                        refine cw_n aj_d23 rfl rfl ?_
                        refine cw_n aj_d23 rfl rfl ?_
                        refine cw_add aj_d23 rfl (a := a.toInt) (b := (1 : Int)) rfl rfl (by omega) (by omega) (fun x304 ex304 => ?_)
                        refine cw_Wr aj_d23 rfl rfl hT303 ?_ ?_
                        · exact ⟨rfl, (cw_ex_tr (cw_ex_of ho298) hx), hw⟩
                        · exact cw_gw (s := s) (a := _) rfl (by omega) (by omega)
                      · have q300 : x299.toInt = (0 : Int) := aw_t_ne (a := x299.toInt) (b := (0 : Int)) rfl rfl q300
                        refine cw_n aj_d23 rfl rfl ?_
                        refine cw_n aj_d23 rfl rfl ?_
                        refine cw_n aj_d23 rfl rfl ?_
                        refine cw_anyl aj_d23 rfl rfl (fun y305 ey305 => ?_)
                        refine cw_k0 (i := 26) (t := 60) (con' := cw_n27) aj_d23 htb hT298 rfl rfl [_, _, _] rfl rfl (cw_s0 hB rfl) rfl (Nat.le_of_ble_eq_true rfl) ⟨by decide, by decide⟩ (cw_tadd htb hT298 hB (by omega) (ho298.symm ▸ hW) (Int32.ofInt 2) a y305 (by rw [ey305]; decide)) ?_
                        rintro _ h306 hT307 ⟨rfl, hx, hw⟩ _
                        show cw_W _ _ _ _ _ _ _ _ _ _ 158 [(5, .int x232), (4, .int x169), (0, .ref (52 + 26)), (1, .ref (52 + 1)), (2, .int e), (3, .int a)] []
                        refine cw_n aj_d23 rfl rfl ?_
                        refine cw_Wr aj_d23 rfl rfl hT307 ?_ ?_
                        · exact ⟨rfl, (cw_ex_tr (cw_ex_of ho298) hx), hw⟩
                        · exact cw_gw (s := s) (a := _) rfl (by omega) (by omega)
                    · have q297 : x169.toInt = (60 : Int) := aw_t_ne (a := x169.toInt) (b := (60 : Int)) rfl rfl q297
                      refine cw_n aj_d23 rfl rfl ?_
                      refine cw_n aj_d23 rfl rfl ?_
                      refine cw_n aj_d23 rfl rfl ?_
                      refine cw_c (tgt := 132) aj_d23 rfl rfl (fun q308 => ?_) (fun q308 => ?_)
                      · have q308 : x169.toInt ≠ (33 : Int) := aw_t_ne (a := x169.toInt) (b := (33 : Int)) rfl rfl q308
                        refine cw_n aj_d23 rfl rfl ?_
                        refine cw_n aj_d23 rfl rfl ?_
                        refine cw_anyl aj_d23 rfl rfl (fun y309 ey309 => ?_)
                        refine cw_k0 (i := 26) (t := 60) (con' := cw_n27) aj_d23 htb hT175 rfl rfl [_, _, _] rfl rfl (cw_s0 hB rfl) rfl (Nat.le_of_ble_eq_true rfl) ⟨by decide, by decide⟩ (cw_tadd htb hT175 hB (by omega) hW (Int8.ofInt 7).toInt32 a y309 (by rw [ey309]; decide)) ?_
                        rintro _ h310 hT311 ⟨rfl, hx, hw⟩ _
                        show cw_W _ _ _ _ _ _ _ _ _ _ 139 [(5, .int x232), (4, .int x169), (0, .ref (52 + 26)), (1, .ref (52 + 1)), (2, .int e), (3, .int a)] []
                        refine cw_n aj_d23 rfl rfl ?_
                        refine cw_n aj_d23 rfl rfl ?_
                        refine cw_add aj_d23 rfl (a := a.toInt) (b := (2 : Int)) rfl rfl (by omega) (by omega) (fun x312 ex312 => ?_)
                        refine cw_Wr aj_d23 rfl rfl hT311 ?_ ?_
                        · exact ⟨rfl, (cw_ex_tr cw_ex_rf hx), hw⟩
                        · exact cw_gw (s := s) (a := _) rfl (by omega) (by omega)
                      · have q308 : x169.toInt = (33 : Int) := aw_t_ne (a := x169.toInt) (b := (33 : Int)) rfl rfl q308
                        refine cw_n aj_d23 rfl rfl ?_
                        refine cw_n aj_d23 rfl rfl ?_
                        refine cw_n aj_d23 rfl rfl ?_
                        refine cw_anyl aj_d23 rfl rfl (fun y313 ey313 => ?_)
                        refine cw_k0 (i := 26) (t := 60) (con' := cw_n27) aj_d23 htb hT175 rfl rfl [_, _, _] rfl rfl (cw_s0 hB rfl) rfl (Nat.le_of_ble_eq_true rfl) ⟨by decide, by decide⟩ (cw_tadd htb hT175 hB (by omega) hW (Int8.ofInt 6).toInt32 a y313 (by rw [ey313]; decide)) ?_
                        rintro _ h314 hT315 ⟨rfl, hx, hw⟩ _
                        show cw_W _ _ _ _ _ _ _ _ _ _ 139 [(5, .int x232), (4, .int x169), (0, .ref (52 + 26)), (1, .ref (52 + 1)), (2, .int e), (3, .int a)] []
                        refine cw_n aj_d23 rfl rfl ?_
                        refine cw_n aj_d23 rfl rfl ?_
                        refine cw_add aj_d23 rfl (a := a.toInt) (b := (2 : Int)) rfl rfl (by omega) (by omega) (fun x316 ex316 => ?_)
                        refine cw_Wr aj_d23 rfl rfl hT315 ?_ ?_
                        · exact ⟨rfl, (cw_ex_tr cw_ex_rf hx), hw⟩
                        · exact cw_gw (s := s) (a := _) rfl (by omega) (by omega)
              · have q275 : x232.toInt = (46 : Int) := aw_t_ne (a := x232.toInt) (b := (46 : Int)) rfl rfl q275
                refine cw_n aj_d23 rfl rfl ?_
                refine cw_n aj_d23 rfl rfl ?_
                refine cw_n aj_d23 rfl rfl ?_
                refine cw_anyl aj_d23 rfl rfl (fun y317 ey317 => ?_)
                refine cw_k0 (i := 26) (t := 60) (con' := cw_n27) aj_d23 htb hT175 rfl rfl [_, _, _] rfl rfl (cw_s0 hB rfl) rfl (Nat.le_of_ble_eq_true rfl) ⟨by decide, by decide⟩ (cw_tadd htb hT175 hB (by omega) hW (Int32.ofInt 5) a y317 (by rw [ey317]; decide)) ?_
                rintro _ h318 hT319 ⟨rfl, hx, hw⟩ _
                show cw_W _ _ _ _ _ _ _ _ _ _ 94 [(5, .int x232), (4, .int x169), (0, .ref (52 + 26)), (1, .ref (52 + 1)), (2, .int e), (3, .int a)] []
                refine cw_n aj_d23 rfl rfl ?_
                refine cw_n aj_d23 rfl rfl ?_
                refine cw_add aj_d23 rfl (a := a.toInt) (b := (2 : Int)) rfl rfl (by omega) (by omega) (fun x320 ex320 => ?_)
                refine cw_Wr aj_d23 rfl rfl hT319 ?_ ?_
                · exact ⟨rfl, (cw_ex_tr cw_ex_rf hx), hw⟩
                · exact cw_gw (s := s) (a := _) rfl (by omega) (by omega)
      · have q177 : x176.toInt ≠ (0 : Int) := aw_t_eq (a := x176.toInt) (b := (0 : Int)) rfl rfl q177
        refine cw_n aj_d23 rfl rfl ?_
        refine cw_n aj_d23 rfl rfl ?_
        refine cw_n aj_d23 rfl rfl ?_
        refine cw_n aj_d23 rfl rfl ?_
        refine cw_k0 (i := 26) (t := 60) (con' := cw_n29) aj_d23 htb hT175 rfl rfl [_, _, _] rfl rfl (cw_s0 hB rfl) rfl (Nat.le_of_ble_eq_true rfl) ⟨by decide, by decide⟩ (cw_scanNumber htb hT175 hB (by omega) hW (a := a) (e := e) (by omega) (by omega) (by omega)) ?_
        rintro ru321 h321 hT321 ⟨hxu321, hwu321⟩ hRu321
        obtain ⟨x322, rfl, bx322⟩ := cw_rI hRu321
        show cw_W _ _ _ _ _ _ _ _ _ _ 46 [(4, .int x169), (0, .ref (52 + 26)), (1, .ref (52 + 1)), (2, .int e), (3, .int a)] [.int x322]
        refine cw_Wr aj_d23 rfl rfl hT321 ?_ ?_
        · exact ⟨rfl, (cw_ex_tr cw_ex_rf hxu321), hwu321⟩
        · exact cw_gw (s := s) (a := _) rfl (by omega) (by omega)
    · have q173 : x172.toInt ≠ (0 : Int) := aw_t_eq (a := x172.toInt) (b := (0 : Int)) rfl rfl q173
      refine cw_n aj_d23 rfl rfl ?_
      refine cw_n aj_d23 rfl rfl ?_
      refine cw_n aj_d23 rfl rfl ?_
      refine cw_n aj_d23 rfl rfl ?_
      refine cw_k0 (i := 26) (t := 60) (con' := cw_n25) aj_d23 htb hT171 rfl rfl [_, _, _] rfl rfl (cw_s0 hB rfl) rfl (Nat.le_of_ble_eq_true rfl) ⟨by decide, by decide⟩ (cw_scanName htb hT171 hB (by omega) hW (a := a) (e := e) (by omega) (by omega) (by omega)) ?_
      rintro ru323 h323 hT323 ⟨hxu323, hwu323⟩ hRu323
      obtain ⟨x324, rfl, bx324⟩ := cw_rI hRu323
      show cw_W _ _ _ _ _ _ _ _ _ _ 30 [(4, .int x169), (0, .ref (52 + 26)), (1, .ref (52 + 1)), (2, .int e), (3, .int a)] [.int x324]
      refine cw_Wr aj_d23 rfl rfl hT323 ?_ ?_
      · exact ⟨rfl, (cw_ex_tr cw_ex_rf hxu323), hwu323⟩
      · exact cw_gw (s := s) (a := _) rfl (by omega) (by omega)
abbrev cw_n21 : ak_Con := (21, [.inr (some ([60], false)), .inr (some ([64], false)), .inl (0, 4000)], none, ([76, 77, 78], [(8, 3)]), [], [], [], 0, 0, [], [], [])
theorem cw_scan_x {o0 : cw_O} {lv : aj_V} {kc ks : Nat} {e : Int32} (htb : ak_tbOK ak_C0 tb) (hT : ak_Ty ak_C0 s h) (hB : cw_B s) (hd : 5 ≤ d + 1) (hE : cw_ex [26, 27, 28, 29] o0 (cw_o h)) (hW : cw_wds (cw_o h)) (hl0 : aj_lv lv 0 = some (.ref (52 + 26))) (hl2 : aj_lv lv 2 = some (.int e)) : cw_W ak_C0 (fun s' _ h' => s' = s ∧ cw_ex [26, 27, 28, 29] o0 (cw_o h') ∧ cw_wds (cw_o h')) tb d aj_m21 cw_n21 s h kc ks 87 lv [] := by
  refine cw_l2 aj_d21 rfl rfl hl0 ?_
  refine cw_n aj_d21 rfl rfl ?_
  refine cw_l0 aj_d21 rfl rfl hl2 ?_
  refine cw_anyl aj_d21 rfl rfl (fun y325 ey325 => ?_)
  refine cw_k0 (i := 26) (t := 60) (con' := cw_n27) aj_d21 htb hT rfl rfl [_, _, _] rfl rfl (cw_s0 hB rfl) rfl (Nat.le_of_ble_eq_true rfl) ⟨by decide, by decide⟩ (cw_tadd htb hT hB (by omega) hW (Int32.ofInt 1) e y325 (by rw [ey325]; decide)) ?_
  rintro _ h326 hT327 ⟨rfl, hx, hw⟩ _
  show cw_W _ _ _ _ _ _ _ _ _ _ 94 lv []
  refine cw_Wr aj_d21 rfl rfl hT327 ?_ ?_
  · exact ⟨rfl, (cw_ex_tr hE hx), hw⟩
  · trivial
theorem cw_scan_l {o0 : cw_O} {d : Nat} (hd : 5 ≤ d + 1) : ∀ (n : Nat) {s : List Nat} {h : aj_H} {lv : aj_V} {kc ks : Nat} {e g x : Int32} (htb : ak_tbOK ak_C0 tb) (hT : ak_Ty ak_C0 s h) (hB : cw_B s) (hE : cw_ex [26, 27, 28, 29] o0 (cw_o h)) (hW : cw_wds (cw_o h)) (hl0 : aj_lv lv 0 = some (.ref (52 + 26))) (hl1 : aj_lv lv 1 = some (.ref (52 + 1))) (hl2 : aj_lv lv 2 = some (.int e)) (hl3 : aj_lv lv 3 = some (.int g)) (hl4 : aj_lv lv 4 = some (.int x)) (he : e.toInt ≤ 4000) (hg : 0 ≤ g.toInt ∧ g.toInt ≤ 1) (hx0 : 0 ≤ x.toInt ∨ g.toInt = 0) (hx1 : x.toInt ≤ 4002), (g.toInt = 0 ∨ 4003 - x.toInt ≤ n) → cw_W ak_C0 (fun s' _ h' => s' = s ∧ cw_ex [26, 27, 28, 29] o0 (cw_o h') ∧ cw_wds (cw_o h')) tb d aj_m21 cw_n21 s h kc ks 10 lv [] := by
  intro n
  induction n with
  | zero =>
    intro s h lv kc ks e g x htb hT hB hE hW hl0 hl1 hl2 hl3 hl4 he hg hx0 hx1 hn
    refine cw_l0 aj_d21 rfl rfl hl3 ?_
    refine cw_z (tgt := 87) aj_d21 rfl rfl (fun q328 => ?_) (fun q328 => ?_)
    · have q328 : g.toInt = (0 : Int) := aw_t_eq (a := g.toInt) (b := (0 : Int)) rfl rfl q328
      exact cw_scan_x htb hT hB hd hE hW hl0 hl2
    · have q328 : g.toInt ≠ (0 : Int) := aw_t_eq (a := g.toInt) (b := (0 : Int)) rfl rfl q328
      exfalso
      omega
  | succ n ih =>
    intro s h lv kc ks e g x htb hT hB hE hW hl0 hl1 hl2 hl3 hl4 he hg hx0 hx1 hn
    refine cw_l0 aj_d21 rfl rfl hl3 ?_
    refine cw_z (tgt := 87) aj_d21 rfl rfl (fun q329 => ?_) (fun q329 => ?_)
    · have q329 : g.toInt = (0 : Int) := aw_t_eq (a := g.toInt) (b := (0 : Int)) rfl rfl q329
      exact cw_scan_x htb hT hB hd hE hW hl0 hl2
    · have q329 : g.toInt ≠ (0 : Int) := aw_t_eq (a := g.toInt) (b := (0 : Int)) rfl rfl q329
      refine cw_l0 aj_d21 rfl rfl hl4 ?_
      refine cw_l0 aj_d21 rfl rfl hl2 ?_
      refine cw_c (tgt := 87) aj_d21 rfl rfl (fun q330 => ?_) (fun q330 => ?_)
      · have q330 : x.toInt ≥ e.toInt := aw_t_ge (a := x.toInt) (b := e.toInt) rfl rfl q330
        exact cw_scan_x htb hT hB hd hE hW hl0 hl2
      · have q330 : x.toInt < e.toInt := aw_t_ge (a := x.toInt) (b := e.toInt) rfl rfl q330
        refine cw_l0 aj_d21 rfl rfl hl4 ?_
        refine cw_l2 aj_d21 rfl rfl hl1 ?_
        obtain ⟨n332, z332, a332, p332l, p332r, p332⟩ := cw_tyA (i := 1) (t := 64) (kd := 3) (n1 := 4000) (n2 := 4000) (y := (.inl (0, 65535))) hT (cw_s0 hB rfl) rfl
        obtain rfl : n332 = 4000 := Nat.le_antisymm p332r p332l
        obtain ⟨fn332, rfl, p332c⟩ := cw_xi p332
        refine cw_alen (i := 1) htb.1 aj_d21 rfl a332 (by decide) (by omega) (fun x331 ex331 => ?_)
        refine cw_c (tgt := 87) aj_d21 rfl rfl (fun q333 => ?_) (fun q333 => ?_)
        · have q333 : x.toInt ≥ (4000 : Int) := aw_t_ge (a := x.toInt) (b := (4000 : Int)) rfl ex331 q333
          exact cw_scan_x htb hT hB hd hE hW hl0 hl2
        · have q333 : x.toInt < (4000 : Int) := aw_t_ge (a := x.toInt) (b := (4000 : Int)) rfl ex331 q333
          refine cw_l2 aj_d21 rfl rfl hl1 ?_
          refine cw_l0 aj_d21 rfl rfl hl4 ?_
          refine cw_ld (i := 1) htb.1 aj_d21 (Or.inr (Or.inl ⟨rfl, rfl⟩)) rfl a332 (a := x.toInt) rfl (by omega) (by omega) (fun x334 ex334 => ?_)
          have b334 : 0 ≤ x334.toInt ∧ x334.toInt ≤ 65535 := by
            rw [ex334]
            exact p332c _ (by omega)
          refine cw_t0 (j := 5) aj_d21 rfl (by decide) rfl ?_
          obtain ⟨lv335, elv335⟩ : ∃ l, l = aj_set1 lv 5 (.int x334) := ⟨_, rfl⟩
          rw [← elv335]
          have hlv335_0 : aj_lv lv335 0 = some (.ref (52 + 26)) := cw_e1 elv335 hl0 (by decide) (Or.inl (by decide))
          have hlv335_1 : aj_lv lv335 1 = some (.ref (52 + 1)) := cw_e1 elv335 hl1 (by decide) (Or.inl (by decide))
          have hlv335_2 : aj_lv lv335 2 = some (.int e) := cw_e1 elv335 hl2 (by decide) (Or.inl (by decide))
          have hlv335_3 : aj_lv lv335 3 = some (.int g) := cw_e1 elv335 hl3 (by decide) (Or.inl (by decide))
          have hlv335_4 : aj_lv lv335 4 = some (.int x) := cw_e1 elv335 hl4 (by decide) (Or.inr rfl)
          have hlv335_5 : aj_lv lv335 5 = some (.int x334) := by rw [elv335]; exact ak_set1_eq _ _ _
          show cw_W _ _ _ _ _ _ _ _ _ _ 33 lv335 []
          refine cw_l0 aj_d21 rfl rfl hlv335_5 ?_
          refine cw_ks0 (con' := ap_c22) aj_d21 hT rfl rfl rfl [_] rfl rfl (Nat.le_of_ble_eq_true rfl) ⟨by decide, by decide⟩ (cw_a1 (by omega) (ap_0_22 htb (cw_SP1c _ _ rfl rfl) cw_hK) hT hB rfl ⟨(cw_gw (a := x334.toInt) rfl (by omega) (by omega)), trivial⟩) ?_
          rintro ru336 h336 hT336 ho336 hRu336
          obtain ⟨x337, rfl, bx337⟩ := cw_rI hRu336
          show cw_W _ _ _ _ _ _ _ _ _ _ 38 lv335 [.int x337]
          refine cw_z (tgt := 47) aj_d21 rfl rfl (fun q338 => ?_) (fun q338 => ?_)
          · have q338 : x337.toInt = (0 : Int) := aw_t_eq (a := x337.toInt) (b := (0 : Int)) rfl rfl q338
            refine cw_l2 aj_d21 rfl rfl hlv335_0 ?_
            refine cw_l2 aj_d21 rfl rfl hlv335_1 ?_
            refine cw_l0 aj_d21 rfl rfl hlv335_2 ?_
            refine cw_l0 aj_d21 rfl rfl hlv335_4 ?_
            refine cw_k0 (i := 26) (t := 60) (con' := cw_n23) aj_d21 htb hT336 rfl rfl [_, _, _] rfl rfl (cw_s0 hB rfl) rfl (Nat.le_of_ble_eq_true rfl) ⟨by decide, by decide⟩ (cw_scanOne htb hT336 hB (by omega) (ho336.symm ▸ hW) (a := x) (e := e) (by omega) (by omega) (by omega)) ?_
            rintro ru339 h339 hT339 ⟨hxu339, hwu339⟩ hRu339
            obtain ⟨x340, rfl, bx340⟩ := cw_rI hRu339
            show cw_W _ _ _ _ _ _ _ _ _ _ 55 lv335 [.int x340]
            refine cw_t0 (j := 6) aj_d21 rfl (by decide) rfl ?_
            obtain ⟨lv341, elv341⟩ : ∃ l, l = aj_set1 lv335 6 (.int x340) := ⟨_, rfl⟩
            rw [← elv341]
            have hlv341_5 : aj_lv lv341 5 = some (.int x334) := cw_e1 elv341 hlv335_5 (by decide) (Or.inr rfl)
            have hlv341_0 : aj_lv lv341 0 = some (.ref (52 + 26)) := cw_e1 elv341 hlv335_0 (by decide) (Or.inl (by decide))
            have hlv341_1 : aj_lv lv341 1 = some (.ref (52 + 1)) := cw_e1 elv341 hlv335_1 (by decide) (Or.inl (by decide))
            have hlv341_2 : aj_lv lv341 2 = some (.int e) := cw_e1 elv341 hlv335_2 (by decide) (Or.inl (by decide))
            have hlv341_3 : aj_lv lv341 3 = some (.int g) := cw_e1 elv341 hlv335_3 (by decide) (Or.inl (by decide))
            have hlv341_4 : aj_lv lv341 4 = some (.int x) := cw_e1 elv341 hlv335_4 (by decide) (Or.inl (by decide))
            have hlv341_6 : aj_lv lv341 6 = some (.int x340) := by rw [elv341]; exact ak_set1_eq _ _ _
            show cw_W _ _ _ _ _ _ _ _ _ _ 57 lv341 []
            refine cw_l0 aj_d21 rfl rfl hlv341_6 ?_
            refine cw_l0 aj_d21 rfl rfl hlv341_4 ?_
            refine cw_c (tgt := 78) aj_d21 rfl rfl (fun q342 => ?_) (fun q342 => ?_)
            · have q342 : x340.toInt ≤ x.toInt := aw_t_le (a := x340.toInt) (b := x.toInt) rfl rfl q342
              refine cw_n aj_d21 rfl rfl ?_
              refine cw_t0 (j := 3) aj_d21 rfl (by decide) rfl ?_
              obtain ⟨lv343, elv343⟩ : ∃ l, l = aj_set1 lv341 3 (.int (Int32.ofInt 0)) := ⟨_, rfl⟩
              rw [← elv343]
              have hlv343_6 : aj_lv lv343 6 = some (.int x340) := cw_e1 elv343 hlv341_6 (by decide) (Or.inl (by decide))
              have hlv343_5 : aj_lv lv343 5 = some (.int x334) := cw_e1 elv343 hlv341_5 (by decide) (Or.inl (by decide))
              have hlv343_0 : aj_lv lv343 0 = some (.ref (52 + 26)) := cw_e1 elv343 hlv341_0 (by decide) (Or.inl (by decide))
              have hlv343_1 : aj_lv lv343 1 = some (.ref (52 + 1)) := cw_e1 elv343 hlv341_1 (by decide) (Or.inl (by decide))
              have hlv343_2 : aj_lv lv343 2 = some (.int e) := cw_e1 elv343 hlv341_2 (by decide) (Or.inr rfl)
              have hlv343_4 : aj_lv lv343 4 = some (.int x) := cw_e1 elv343 hlv341_4 (by decide) (Or.inl (by decide))
              have hlv343_3 : aj_lv lv343 3 = some (.int (Int32.ofInt 0)) := by rw [elv343]; exact ak_set1_eq _ _ _
              show cw_W _ _ _ _ _ _ _ _ _ _ 80 lv343 []
              refine cw_l0 aj_d21 rfl rfl hlv343_6 ?_
              refine cw_t0 (j := 4) aj_d21 rfl (by decide) rfl ?_
              obtain ⟨lv344, elv344⟩ : ∃ l, l = aj_set1 lv343 4 (.int x340) := ⟨_, rfl⟩
              rw [← elv344]
              have hlv344_3 : aj_lv lv344 3 = some (.int (Int32.ofInt 0)) := cw_e1 elv344 hlv343_3 (by decide) (Or.inr rfl)
              have hlv344_6 : aj_lv lv344 6 = some (.int x340) := cw_e1 elv344 hlv343_6 (by decide) (Or.inl (by decide))
              have hlv344_5 : aj_lv lv344 5 = some (.int x334) := cw_e1 elv344 hlv343_5 (by decide) (Or.inl (by decide))
              have hlv344_0 : aj_lv lv344 0 = some (.ref (52 + 26)) := cw_e1 elv344 hlv343_0 (by decide) (Or.inl (by decide))
              have hlv344_1 : aj_lv lv344 1 = some (.ref (52 + 1)) := cw_e1 elv344 hlv343_1 (by decide) (Or.inl (by decide))
              have hlv344_2 : aj_lv lv344 2 = some (.int e) := cw_e1 elv344 hlv343_2 (by decide) (Or.inl (by decide))
              have hlv344_4 : aj_lv lv344 4 = some (.int x340) := by rw [elv344]; exact ak_set1_eq _ _ _
              show cw_W _ _ _ _ _ _ _ _ _ _ 84 lv344 []
              refine cw_n aj_d21 rfl rfl ?_
              have z0 : (Int32.ofInt 0).toInt = 0 := rfl
              have z1 : (Int32.ofInt 1).toInt = 1 := rfl
              exact ih htb hT339 hB (cw_ex_tr (cw_ex_tr hE (cw_ex_of ho336)) hxu339) hwu339 hlv344_0 hlv344_1 hlv344_2 hlv344_3 hlv344_4 (by omega) (by omega) (by omega) (by omega) (by omega)
            · have q342 : x340.toInt > x.toInt := aw_t_le (a := x340.toInt) (b := x.toInt) rfl rfl q342
              refine cw_l2 aj_d21 rfl rfl hlv341_0 ?_
              obtain ⟨v345, f345, g345⟩ := cw_tyF (i := 26) (t := 60) (c := 8) (k := 3) (y := (.inl (0, 1002))) hT339 (cw_s0 hB rfl) rfl rfl rfl
              obtain ⟨x345, rfl, b345⟩ := ak_gi g345
              dsimp only [ak_win] at b345
              refine cw_g (i := 26) (v := .int x345) htb.1 aj_d21 rfl rfl (by decide) f345 ?_
              refine cw_n aj_d21 rfl rfl ?_
              refine cw_c (tgt := 78) aj_d21 rfl rfl (fun q346 => ?_) (fun q346 => ?_)
              · have q346 : x345.toInt > (1000 : Int) := aw_t_gt (a := x345.toInt) (b := (1000 : Int)) rfl rfl q346
                refine cw_n aj_d21 rfl rfl ?_
                refine cw_t0 (j := 3) aj_d21 rfl (by decide) rfl ?_
                obtain ⟨lv347, elv347⟩ : ∃ l, l = aj_set1 lv341 3 (.int (Int32.ofInt 0)) := ⟨_, rfl⟩
                rw [← elv347]
                have hlv347_6 : aj_lv lv347 6 = some (.int x340) := cw_e1 elv347 hlv341_6 (by decide) (Or.inl (by decide))
                have hlv347_5 : aj_lv lv347 5 = some (.int x334) := cw_e1 elv347 hlv341_5 (by decide) (Or.inl (by decide))
                have hlv347_0 : aj_lv lv347 0 = some (.ref (52 + 26)) := cw_e1 elv347 hlv341_0 (by decide) (Or.inl (by decide))
                have hlv347_1 : aj_lv lv347 1 = some (.ref (52 + 1)) := cw_e1 elv347 hlv341_1 (by decide) (Or.inl (by decide))
                have hlv347_2 : aj_lv lv347 2 = some (.int e) := cw_e1 elv347 hlv341_2 (by decide) (Or.inr rfl)
                have hlv347_4 : aj_lv lv347 4 = some (.int x) := cw_e1 elv347 hlv341_4 (by decide) (Or.inl (by decide))
                have hlv347_3 : aj_lv lv347 3 = some (.int (Int32.ofInt 0)) := by rw [elv347]; exact ak_set1_eq _ _ _
                show cw_W _ _ _ _ _ _ _ _ _ _ 80 lv347 []
                refine cw_l0 aj_d21 rfl rfl hlv347_6 ?_
                refine cw_t0 (j := 4) aj_d21 rfl (by decide) rfl ?_
                obtain ⟨lv348, elv348⟩ : ∃ l, l = aj_set1 lv347 4 (.int x340) := ⟨_, rfl⟩
                rw [← elv348]
                have hlv348_3 : aj_lv lv348 3 = some (.int (Int32.ofInt 0)) := cw_e1 elv348 hlv347_3 (by decide) (Or.inr rfl)
                have hlv348_6 : aj_lv lv348 6 = some (.int x340) := cw_e1 elv348 hlv347_6 (by decide) (Or.inl (by decide))
                have hlv348_5 : aj_lv lv348 5 = some (.int x334) := cw_e1 elv348 hlv347_5 (by decide) (Or.inl (by decide))
                have hlv348_0 : aj_lv lv348 0 = some (.ref (52 + 26)) := cw_e1 elv348 hlv347_0 (by decide) (Or.inl (by decide))
                have hlv348_1 : aj_lv lv348 1 = some (.ref (52 + 1)) := cw_e1 elv348 hlv347_1 (by decide) (Or.inl (by decide))
                have hlv348_2 : aj_lv lv348 2 = some (.int e) := cw_e1 elv348 hlv347_2 (by decide) (Or.inl (by decide))
                have hlv348_4 : aj_lv lv348 4 = some (.int x340) := by rw [elv348]; exact ak_set1_eq _ _ _
                show cw_W _ _ _ _ _ _ _ _ _ _ 84 lv348 []
                refine cw_n aj_d21 rfl rfl ?_
                have z0 : (Int32.ofInt 0).toInt = 0 := rfl
                have z1 : (Int32.ofInt 1).toInt = 1 := rfl
                exact ih htb hT339 hB (cw_ex_tr (cw_ex_tr hE (cw_ex_of ho336)) hxu339) hwu339 hlv348_0 hlv348_1 hlv348_2 hlv348_3 hlv348_4 (by omega) (by omega) (by omega) (by omega) (by omega)
              · have q346 : x345.toInt ≤ (1000 : Int) := aw_t_gt (a := x345.toInt) (b := (1000 : Int)) rfl rfl q346
                refine cw_n aj_d21 rfl rfl ?_
                refine cw_n aj_d21 rfl rfl ?_
                refine cw_t0 (j := 3) aj_d21 rfl (by decide) rfl ?_
                obtain ⟨lv349, elv349⟩ : ∃ l, l = aj_set1 lv341 3 (.int (Int32.ofInt 1)) := ⟨_, rfl⟩
                rw [← elv349]
                have hlv349_6 : aj_lv lv349 6 = some (.int x340) := cw_e1 elv349 hlv341_6 (by decide) (Or.inl (by decide))
                have hlv349_5 : aj_lv lv349 5 = some (.int x334) := cw_e1 elv349 hlv341_5 (by decide) (Or.inl (by decide))
                have hlv349_0 : aj_lv lv349 0 = some (.ref (52 + 26)) := cw_e1 elv349 hlv341_0 (by decide) (Or.inl (by decide))
                have hlv349_1 : aj_lv lv349 1 = some (.ref (52 + 1)) := cw_e1 elv349 hlv341_1 (by decide) (Or.inl (by decide))
                have hlv349_2 : aj_lv lv349 2 = some (.int e) := cw_e1 elv349 hlv341_2 (by decide) (Or.inr rfl)
                have hlv349_4 : aj_lv lv349 4 = some (.int x) := cw_e1 elv349 hlv341_4 (by decide) (Or.inl (by decide))
                have hlv349_3 : aj_lv lv349 3 = some (.int (Int32.ofInt 1)) := by rw [elv349]; exact ak_set1_eq _ _ _
                show cw_W _ _ _ _ _ _ _ _ _ _ 80 lv349 []
                refine cw_l0 aj_d21 rfl rfl hlv349_6 ?_
                refine cw_t0 (j := 4) aj_d21 rfl (by decide) rfl ?_
                obtain ⟨lv350, elv350⟩ : ∃ l, l = aj_set1 lv349 4 (.int x340) := ⟨_, rfl⟩
                rw [← elv350]
                have hlv350_3 : aj_lv lv350 3 = some (.int (Int32.ofInt 1)) := cw_e1 elv350 hlv349_3 (by decide) (Or.inr rfl)
                have hlv350_6 : aj_lv lv350 6 = some (.int x340) := cw_e1 elv350 hlv349_6 (by decide) (Or.inl (by decide))
                have hlv350_5 : aj_lv lv350 5 = some (.int x334) := cw_e1 elv350 hlv349_5 (by decide) (Or.inl (by decide))
                have hlv350_0 : aj_lv lv350 0 = some (.ref (52 + 26)) := cw_e1 elv350 hlv349_0 (by decide) (Or.inl (by decide))
                have hlv350_1 : aj_lv lv350 1 = some (.ref (52 + 1)) := cw_e1 elv350 hlv349_1 (by decide) (Or.inl (by decide))
                have hlv350_2 : aj_lv lv350 2 = some (.int e) := cw_e1 elv350 hlv349_2 (by decide) (Or.inl (by decide))
                have hlv350_4 : aj_lv lv350 4 = some (.int x340) := by rw [elv350]; exact ak_set1_eq _ _ _
                show cw_W _ _ _ _ _ _ _ _ _ _ 84 lv350 []
                refine cw_n aj_d21 rfl rfl ?_
                have z0 : (Int32.ofInt 0).toInt = 0 := rfl
                have z1 : (Int32.ofInt 1).toInt = 1 := rfl
                exact ih htb hT339 hB (cw_ex_tr (cw_ex_tr hE (cw_ex_of ho336)) hxu339) hwu339 hlv350_0 hlv350_1 hlv350_2 hlv350_3 hlv350_4 (by omega) (by omega) (by omega) (by omega) (by omega)
          · have q338 : x337.toInt ≠ (0 : Int) := aw_t_eq (a := x337.toInt) (b := (0 : Int)) rfl rfl q338
            refine cw_inc aj_d21 rfl hlv335_4 (a := x.toInt) rfl (by omega) (by omega) (by decide) (by decide) (fun x351 ex351 => ?_)
            obtain ⟨lv352, elv352⟩ : ∃ l, l = aj_set1 lv335 4 (.int x351) := ⟨_, rfl⟩
            rw [← elv352]
            have hlv352_5 : aj_lv lv352 5 = some (.int x334) := cw_e1 elv352 hlv335_5 (by decide) (Or.inl (by decide))
            have hlv352_0 : aj_lv lv352 0 = some (.ref (52 + 26)) := cw_e1 elv352 hlv335_0 (by decide) (Or.inl (by decide))
            have hlv352_1 : aj_lv lv352 1 = some (.ref (52 + 1)) := cw_e1 elv352 hlv335_1 (by decide) (Or.inl (by decide))
            have hlv352_2 : aj_lv lv352 2 = some (.int e) := cw_e1 elv352 hlv335_2 (by decide) (Or.inl (by decide))
            have hlv352_3 : aj_lv lv352 3 = some (.int g) := cw_e1 elv352 hlv335_3 (by decide) (Or.inr rfl)
            have hlv352_4 : aj_lv lv352 4 = some (.int x351) := by rw [elv352]; exact ak_set1_eq _ _ _
            show cw_W _ _ _ _ _ _ _ _ _ _ 44 lv352 []
            refine cw_n aj_d21 rfl rfl ?_
            refine cw_n aj_d21 rfl rfl ?_
            have z0 : (Int32.ofInt 0).toInt = 0 := rfl
            have z1 : (Int32.ofInt 1).toInt = 1 := rfl
            exact ih htb hT336 hB (cw_ex_tr hE (cw_ex_of ho336)) (ho336.symm ▸ hW) hlv352_0 hlv352_1 hlv352_2 hlv352_3 hlv352_4 (by omega) (by omega) (by omega) (by omega) (by omega)
theorem cw_scan (htb : ak_tbOK ak_C0 tb) (hT : ak_Ty ak_C0 s h) (hB : cw_B s) (hd : 5 ≤ d) (hW : cw_wds (cw_o h)) {e : Int32} (he : e.toInt ≤ 4000) : cw_K ak_C0 (fun s' _ h' => s' = s ∧ cw_ex [26, 27, 28, 29] (cw_o h) (cw_o h') ∧ cw_wds (cw_o h')) tb d cw_n21 [.ref (52 + 26), .ref (52 + 1), .int e] s h := by
  obtain ⟨d, rfl⟩ : ∃ e, d = e + 1 := ⟨d - 1, by omega⟩
  refine cw_m (con := cw_n21) aj_m21_at (Nat.le_of_ble_eq_true rfl) ?_
  obtain ⟨lv, elv⟩ : ∃ l, l = lv_args 0 [.ref (52 + 26), .ref (52 + 1), .int e] := ⟨_, rfl⟩
  have hl0 : aj_lv lv 0 = some (.ref (52 + 26)) := by rw [elv]; rfl
  have hl1 : aj_lv lv 1 = some (.ref (52 + 1)) := by rw [elv]; rfl
  have hl2 : aj_lv lv 2 = some (.int e) := by rw [elv]; rfl
  rw [← elv]
  refine cw_l2 aj_d21 rfl rfl hl0 ?_
  refine cw_n aj_d21 rfl rfl ?_
  refine cw_p (i := 26) (t := 60) (c := 8) (k := 3) (v := .int (Int32.ofInt 0)) (y := (.inl (0, 1002))) htb aj_d21 rfl rfl hT (cw_s0 hB rfl) rfl rfl rfl (cw_gw (a := (0 : Int)) rfl (by omega) (by omega)) (by decide) rfl rfl (fun hT353 => ?_)
  obtain ⟨v354, f354, g354⟩ := cw_tyF (i := 26) (t := 60) (c := 8) (k := 3) (y := (.inl (0, 1002))) hT (cw_s0 hB rfl) rfl rfl rfl
  obtain ⟨x354, rfl, b354⟩ := ak_gi g354
  dsimp only [ak_win] at b354
  have f355 : cw_F (cw_sf h 26 3 (.int (Int32.ofInt 0))) 26 8 3 (.int (Int32.ofInt 0)) := cw_sf_same f354
  refine cw_n aj_d21 rfl rfl ?_
  refine cw_t0 (j := 3) aj_d21 rfl (by decide) rfl ?_
  obtain ⟨lv356, elv356⟩ : ∃ l, l = aj_set1 lv 3 (.int (Int32.ofInt 1)) := ⟨_, rfl⟩
  rw [← elv356]
  have hlv356_0 : aj_lv lv356 0 = some (.ref (52 + 26)) := cw_e1 elv356 hl0 (by decide) (Or.inl (by decide))
  have hlv356_1 : aj_lv lv356 1 = some (.ref (52 + 1)) := cw_e1 elv356 hl1 (by decide) (Or.inl (by decide))
  have hlv356_2 : aj_lv lv356 2 = some (.int e) := cw_e1 elv356 hl2 (by decide) (Or.inr rfl)
  have hlv356_3 : aj_lv lv356 3 = some (.int (Int32.ofInt 1)) := by rw [elv356]; exact ak_set1_eq _ _ _
  show cw_W _ _ _ _ _ _ _ _ _ _ 7 lv356 []
  refine cw_n aj_d21 rfl rfl ?_
  refine cw_t0 (j := 4) aj_d21 rfl (by decide) rfl ?_
  obtain ⟨lv357, elv357⟩ : ∃ l, l = aj_set1 lv356 4 (.int (Int32.ofInt 0)) := ⟨_, rfl⟩
  rw [← elv357]
  have hlv357_3 : aj_lv lv357 3 = some (.int (Int32.ofInt 1)) := cw_e1 elv357 hlv356_3 (by decide) (Or.inr rfl)
  have hlv357_0 : aj_lv lv357 0 = some (.ref (52 + 26)) := cw_e1 elv357 hlv356_0 (by decide) (Or.inl (by decide))
  have hlv357_1 : aj_lv lv357 1 = some (.ref (52 + 1)) := cw_e1 elv357 hlv356_1 (by decide) (Or.inl (by decide))
  have hlv357_2 : aj_lv lv357 2 = some (.int e) := cw_e1 elv357 hlv356_2 (by decide) (Or.inl (by decide))
  have hlv357_4 : aj_lv lv357 4 = some (.int (Int32.ofInt 0)) := by rw [elv357]; exact ak_set1_eq _ _ _
  show cw_W _ _ _ _ _ _ _ _ _ _ 10 lv357 []
  have hE : cw_ex [26, 27, 28, 29] (cw_o h) (cw_o (cw_sf h 26 3 (.int (Int32.ofInt 0)))) := cw_ex_sf (by decide)
  exact cw_scan_l (by omega) 4003 htb hT353 hB hE (cw_wds_sf hW) hlv357_0 hlv357_1 hlv357_2 hlv357_3 hlv357_4 he (by decide) (by decide) (by decide) (by decide)
/-- what the scanner keeps -/
theorem cw_scanC {X : Option Nat} (htb : ak_tbOK ak_C0 tb) : ak_CT ak_C0 (cw_I X) cw_kap tb 5 ap_c21 := by
  refine cw_CT rfl (fun d hd s h as hT hI hA _ => ?_)
  obtain ⟨v1, as, rfl, g1, hA⟩ := cw_gAc hA
  obtain ⟨v2, as, rfl, g2, hA⟩ := cw_gAc hA
  obtain ⟨v3, as, rfl, g3, hA⟩ := cw_gAc hA
  cases cw_gAn hA
  obtain rfl := cw_gu (i := 26) hI.1 g1 (by decide) (by decide) (by decide)
  obtain rfl := cw_gu (i := 1) hI.1 g2 (by decide) (by decide) (by decide)
  obtain ⟨e, rfl, he⟩ := ak_gi g3
  refine cw_mono (fun s' r h' hh => ?_) (cw_scan htb hT hI.1 hd hI.2.1 he.2)
  obtain ⟨rfl, k2, k3⟩ := hh
  exact ⟨hI.1, k3, cw_dis_ex k2 (by decide) hI.2.2.1, cw_gd_ex k2 (by decide) hI.2.2.2.1, cw_HR_ex k2 (by decide) (by decide) hI.2.2.2.2⟩
end CW61
