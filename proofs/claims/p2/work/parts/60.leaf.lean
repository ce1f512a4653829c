/-! SMALL METHODS OF THE CLASS BY HAND (printed by wip/p2/cwalk/g60.py) -/
section CW60
variable {T : ak_TT} {tb : aj_T} {s : List Nat} {h : aj_H} {d : Nat}
/-- a fault told, or not -/
theorem cw_fail0 (htb : ak_tbOK ak_C0 tb) (hT : ak_Ty ak_C0 s h) (hB : cw_B s) (hd : 1 ≤ d) (m p : Int32)  : cw_K ak_C0 (fun s' r h' => s' = s ∧ r = none ∧ (h' = h ∨ h' = cw_sf (cw_sf h 30 5 (.int m)) 30 6 (.int p))) tb d ap_c44 [.ref (52 + 30), .int m, .int p] s h := by
  obtain ⟨d, rfl⟩ : ∃ e, d = e + 1 := ⟨d - 1, by omega⟩
  refine cw_m (con := ap_c44) aj_m44_at (Nat.le_of_ble_eq_true rfl) ?_
  show cw_W _ _ _ _ _ _ _ _ _ _ 0 [(0, .ref (52 + 30)), (1, .int m), (2, .int p)] []
  refine cw_n aj_d44 rfl rfl ?_
  obtain ⟨v1, f1, g1⟩ := cw_tyF (i := 30) (t := 56) (c := 4) (k := 5) (y := (.inl ((-2147483648), 2147483647))) hT (cw_s0 hB rfl) rfl rfl rfl
  obtain ⟨x1, rfl, b1⟩ := ak_gi g1
  dsimp only [ak_win] at b1
  refine cw_g (i := 30) (v := .int x1) htb.1 aj_d44 rfl rfl (by decide) f1 ?_
  refine cw_z (tgt := 31) aj_d44 rfl rfl (fun q2 => ?_) (fun q2 => ?_)
  · have q2 : x1.toInt = (0 : Int) := aw_t_eq (a := x1.toInt) (b := (0 : Int)) rfl rfl q2
    refine cw_n aj_d44 rfl rfl ?_
    refine cw_n aj_d44 rfl rfl ?_
    refine cw_p (i := 30) (t := 56) (c := 4) (k := 5) (v := .int m) (y := (.inl ((-2147483648), 2147483647))) htb aj_d44 rfl rfl hT (cw_s0 hB rfl) rfl rfl rfl (cw_full _) (by decide) rfl rfl (fun hT3 => ?_)
    have f4 : cw_F (cw_sf h 30 5 (.int m)) 30 4 5 (.int m) := cw_sf_same f1
    refine cw_n aj_d44 rfl rfl ?_
    refine cw_n aj_d44 rfl rfl ?_
    refine cw_p (i := 30) (t := 56) (c := 4) (k := 6) (v := .int p) (y := (.inl ((-2147483648), 2147483647))) htb aj_d44 rfl rfl hT3 (cw_s0 hB rfl) rfl rfl rfl (cw_full _) (by decide) rfl rfl (fun hT5 => ?_)
    obtain ⟨v6, f6, g6⟩ := cw_tyF (i := 30) (t := 56) (c := 4) (k := 6) (y := (.inl ((-2147483648), 2147483647))) hT3 (cw_s0 hB rfl) rfl rfl rfl
    obtain ⟨x6, rfl, b6⟩ := ak_gi g6
    dsimp only [ak_win] at b6
    have f7 : cw_F (cw_sf (cw_sf h 30 5 (.int m)) 30 6 (.int p)) 30 4 5 (.int m) := cw_sf_ne f4 (Or.inr (by decide))
    have f8 : cw_F (cw_sf (cw_sf h 30 5 (.int m)) 30 6 (.int p)) 30 4 6 (.int p) := cw_sf_same f6
    refine cw_Wr aj_d44 rfl rfl hT5 ?_ ?_
    · exact ⟨rfl, rfl, Or.inr rfl⟩
    · trivial
  · have q2 : x1.toInt ≠ (0 : Int) := aw_t_eq (a := x1.toInt) (b := (0 : Int)) rfl rfl q2
    refine cw_n aj_d44 rfl rfl ?_
    refine cw_n aj_d44 rfl rfl ?_
    obtain ⟨v9, f9, g9⟩ := cw_tyF (i := 30) (t := 56) (c := 4) (k := 6) (y := (.inl ((-2147483648), 2147483647))) hT (cw_s0 hB rfl) rfl rfl rfl
    obtain ⟨x9, rfl, b9⟩ := ak_gi g9
    dsimp only [ak_win] at b9
    refine cw_g (i := 30) (v := .int x9) htb.1 aj_d44 rfl rfl (by decide) f9 ?_
    refine cw_c (tgt := 31) aj_d44 rfl rfl (fun q10 => ?_) (fun q10 => ?_)
    · have q10 : p.toInt < x9.toInt := aw_t_lt (a := p.toInt) (b := x9.toInt) rfl rfl q10
      refine cw_n aj_d44 rfl rfl ?_
      refine cw_n aj_d44 rfl rfl ?_
      refine cw_p (i := 30) (t := 56) (c := 4) (k := 5) (v := .int m) (y := (.inl ((-2147483648), 2147483647))) htb aj_d44 rfl rfl hT (cw_s0 hB rfl) rfl rfl rfl (cw_full _) (by decide) rfl rfl (fun hT11 => ?_)
      have f12 : cw_F (cw_sf h 30 5 (.int m)) 30 4 6 (.int x9) := cw_sf_ne f9 (Or.inr (by decide))
      have f13 : cw_F (cw_sf h 30 5 (.int m)) 30 4 5 (.int m) := cw_sf_same f1
      refine cw_n aj_d44 rfl rfl ?_
      refine cw_n aj_d44 rfl rfl ?_
      refine cw_p (i := 30) (t := 56) (c := 4) (k := 6) (v := .int p) (y := (.inl ((-2147483648), 2147483647))) htb aj_d44 rfl rfl hT11 (cw_s0 hB rfl) rfl rfl rfl (cw_full _) (by decide) rfl rfl (fun hT14 => ?_)
      have f15 : cw_F (cw_sf (cw_sf h 30 5 (.int m)) 30 6 (.int p)) 30 4 5 (.int m) := cw_sf_ne f13 (Or.inr (by decide))
      have f16 : cw_F (cw_sf (cw_sf h 30 5 (.int m)) 30 6 (.int p)) 30 4 6 (.int p) := cw_sf_same f12
      refine cw_Wr aj_d44 rfl rfl hT14 ?_ ?_
      · exact ⟨rfl, rfl, Or.inr rfl⟩
      · trivial
    · have q10 : p.toInt ≥ x9.toInt := aw_t_lt (a := p.toInt) (b := x9.toInt) rfl rfl q10
      refine cw_n aj_d44 rfl rfl ?_
      refine cw_n aj_d44 rfl rfl ?_
      refine cw_g (i := 30) (v := .int x9) htb.1 aj_d44 rfl rfl (by decide) f9 ?_
      refine cw_c (tgt := 41) aj_d44 rfl rfl (fun q17 => ?_) (fun q17 => ?_)
      · have q17 : p.toInt ≠ x9.toInt := aw_t_ne (a := p.toInt) (b := x9.toInt) rfl rfl q17
        refine cw_Wr aj_d44 rfl rfl hT ?_ ?_
        · exact ⟨rfl, rfl, Or.inl rfl⟩
        · trivial
      · have q17 : p.toInt = x9.toInt := aw_t_ne (a := p.toInt) (b := x9.toInt) rfl rfl q17
        refine cw_n aj_d44 rfl rfl ?_
        refine cw_n aj_d44 rfl rfl ?_
        refine cw_g (i := 30) (v := .int x1) htb.1 aj_d44 rfl rfl (by decide) f1 ?_
        refine cw_c (tgt := 41) aj_d44 rfl rfl (fun q18 => ?_) (fun q18 => ?_)
        · have q18 : m.toInt ≥ x1.toInt := aw_t_ge (a := m.toInt) (b := x1.toInt) rfl rfl q18
          refine cw_Wr aj_d44 rfl rfl hT ?_ ?_
          · exact ⟨rfl, rfl, Or.inl rfl⟩
          · trivial
        · have q18 : m.toInt < x1.toInt := aw_t_ge (a := m.toInt) (b := x1.toInt) rfl rfl q18
          refine cw_n aj_d44 rfl rfl ?_
          refine cw_n aj_d44 rfl rfl ?_
          refine cw_p (i := 30) (t := 56) (c := 4) (k := 5) (v := .int m) (y := (.inl ((-2147483648), 2147483647))) htb aj_d44 rfl rfl hT (cw_s0 hB rfl) rfl rfl rfl (cw_full _) (by decide) rfl rfl (fun hT19 => ?_)
          have f20 : cw_F (cw_sf h 30 5 (.int m)) 30 4 6 (.int x9) := cw_sf_ne f9 (Or.inr (by decide))
          have f21 : cw_F (cw_sf h 30 5 (.int m)) 30 4 5 (.int m) := cw_sf_same f1
          refine cw_n aj_d44 rfl rfl ?_
          refine cw_n aj_d44 rfl rfl ?_
          refine cw_p (i := 30) (t := 56) (c := 4) (k := 6) (v := .int p) (y := (.inl ((-2147483648), 2147483647))) htb aj_d44 rfl rfl hT19 (cw_s0 hB rfl) rfl rfl rfl (cw_full _) (by decide) rfl rfl (fun hT22 => ?_)
          have f23 : cw_F (cw_sf (cw_sf h 30 5 (.int m)) 30 6 (.int p)) 30 4 5 (.int m) := cw_sf_ne f21 (Or.inr (by decide))
          have f24 : cw_F (cw_sf (cw_sf h 30 5 (.int m)) 30 6 (.int p)) 30 4 6 (.int p) := cw_sf_same f20
          refine cw_Wr aj_d44 rfl rfl hT22 ?_ ?_
          · exact ⟨rfl, rfl, Or.inr rfl⟩
          · trivial
/-- a fault told, or not -/
theorem cw_fail1 (htb : ak_tbOK ak_C1 tb) (hT : ak_Ty ak_C1 s h) (hB : cw_B s) (hd : 1 ≤ d) (m p : Int32)  : cw_K ak_C1 (fun s' r h' => s' = s ∧ r = none ∧ (h' = h ∨ h' = cw_sf (cw_sf h 30 5 (.int m)) 30 6 (.int p))) tb d ap_c44 [.ref (52 + 30), .int m, .int p] s h := by
  obtain ⟨d, rfl⟩ : ∃ e, d = e + 1 := ⟨d - 1, by omega⟩
  refine cw_m (con := ap_c44) aj_m44_at (Nat.le_of_ble_eq_true rfl) ?_
  show cw_W _ _ _ _ _ _ _ _ _ _ 0 [(0, .ref (52 + 30)), (1, .int m), (2, .int p)] []
  refine cw_n aj_d44 rfl rfl ?_
  obtain ⟨v25, f25, g25⟩ := cw_tyF (i := 30) (t := 56) (c := 4) (k := 5) (y := (.inl ((-2147483648), 2147483647))) hT (cw_s0 hB rfl) rfl rfl rfl
  obtain ⟨x25, rfl, b25⟩ := ak_gi g25
  dsimp only [ak_win] at b25
  refine cw_g (i := 30) (v := .int x25) htb.1 aj_d44 rfl rfl (by decide) f25 ?_
  refine cw_z (tgt := 31) aj_d44 rfl rfl (fun q26 => ?_) (fun q26 => ?_)
  · have q26 : x25.toInt = (0 : Int) := aw_t_eq (a := x25.toInt) (b := (0 : Int)) rfl rfl q26
    refine cw_n aj_d44 rfl rfl ?_
    refine cw_n aj_d44 rfl rfl ?_
    refine cw_p (i := 30) (t := 56) (c := 4) (k := 5) (v := .int m) (y := (.inl ((-2147483648), 2147483647))) htb aj_d44 rfl rfl hT (cw_s0 hB rfl) rfl rfl rfl (cw_full _) (by decide) rfl rfl (fun hT27 => ?_)
    have f28 : cw_F (cw_sf h 30 5 (.int m)) 30 4 5 (.int m) := cw_sf_same f25
    refine cw_n aj_d44 rfl rfl ?_
    refine cw_n aj_d44 rfl rfl ?_
    refine cw_p (i := 30) (t := 56) (c := 4) (k := 6) (v := .int p) (y := (.inl ((-2147483648), 2147483647))) htb aj_d44 rfl rfl hT27 (cw_s0 hB rfl) rfl rfl rfl (cw_full _) (by decide) rfl rfl (fun hT29 => ?_)
    obtain ⟨v30, f30, g30⟩ := cw_tyF (i := 30) (t := 56) (c := 4) (k := 6) (y := (.inl ((-2147483648), 2147483647))) hT27 (cw_s0 hB rfl) rfl rfl rfl
    obtain ⟨x30, rfl, b30⟩ := ak_gi g30
    dsimp only [ak_win] at b30
    have f31 : cw_F (cw_sf (cw_sf h 30 5 (.int m)) 30 6 (.int p)) 30 4 5 (.int m) := cw_sf_ne f28 (Or.inr (by decide))
    have f32 : cw_F (cw_sf (cw_sf h 30 5 (.int m)) 30 6 (.int p)) 30 4 6 (.int p) := cw_sf_same f30
    refine cw_Wr aj_d44 rfl rfl hT29 ?_ ?_
    · exact ⟨rfl, rfl, Or.inr rfl⟩
    · trivial
  · have q26 : x25.toInt ≠ (0 : Int) := aw_t_eq (a := x25.toInt) (b := (0 : Int)) rfl rfl q26
    refine cw_n aj_d44 rfl rfl ?_
    refine cw_n aj_d44 rfl rfl ?_
    obtain ⟨v33, f33, g33⟩ := cw_tyF (i := 30) (t := 56) (c := 4) (k := 6) (y := (.inl ((-2147483648), 2147483647))) hT (cw_s0 hB rfl) rfl rfl rfl
    obtain ⟨x33, rfl, b33⟩ := ak_gi g33
    dsimp only [ak_win] at b33
    refine cw_g (i := 30) (v := .int x33) htb.1 aj_d44 rfl rfl (by decide) f33 ?_
    refine cw_c (tgt := 31) aj_d44 rfl rfl (fun q34 => ?_) (fun q34 => ?_)
    · have q34 : p.toInt < x33.toInt := aw_t_lt (a := p.toInt) (b := x33.toInt) rfl rfl q34
      refine cw_n aj_d44 rfl rfl ?_
      refine cw_n aj_d44 rfl rfl ?_
      refine cw_p (i := 30) (t := 56) (c := 4) (k := 5) (v := .int m) (y := (.inl ((-2147483648), 2147483647))) htb aj_d44 rfl rfl hT (cw_s0 hB rfl) rfl rfl rfl (cw_full _) (by decide) rfl rfl (fun hT35 => ?_)
      have f36 : cw_F (cw_sf h 30 5 (.int m)) 30 4 6 (.int x33) := cw_sf_ne f33 (Or.inr (by decide))
      have f37 : cw_F (cw_sf h 30 5 (.int m)) 30 4 5 (.int m) := cw_sf_same f25
      refine cw_n aj_d44 rfl rfl ?_
      refine cw_n aj_d44 rfl rfl ?_
      refine cw_p (i := 30) (t := 56) (c := 4) (k := 6) (v := .int p) (y := (.inl ((-2147483648), 2147483647))) htb aj_d44 rfl rfl hT35 (cw_s0 hB rfl) rfl rfl rfl (cw_full _) (by decide) rfl rfl (fun hT38 => ?_)
      have f39 : cw_F (cw_sf (cw_sf h 30 5 (.int m)) 30 6 (.int p)) 30 4 5 (.int m) := cw_sf_ne f37 (Or.inr (by decide))
      have f40 : cw_F (cw_sf (cw_sf h 30 5 (.int m)) 30 6 (.int p)) 30 4 6 (.int p) := cw_sf_same f36
      refine cw_Wr aj_d44 rfl rfl hT38 ?_ ?_
      · exact ⟨rfl, rfl, Or.inr rfl⟩
      · trivial
    · have q34 : p.toInt ≥ x33.toInt := aw_t_lt (a := p.toInt) (b := x33.toInt) rfl rfl q34
      refine cw_n aj_d44 rfl rfl ?_
      refine cw_n aj_d44 rfl rfl ?_
      refine cw_g (i := 30) (v := .int x33) htb.1 aj_d44 rfl rfl (by decide) f33 ?_
      refine cw_c (tgt := 41) aj_d44 rfl rfl (fun q41 => ?_) (fun q41 => ?_)
      · have q41 : p.toInt ≠ x33.toInt := aw_t_ne (a := p.toInt) (b := x33.toInt) rfl rfl q41
        refine cw_Wr aj_d44 rfl rfl hT ?_ ?_
        · exact ⟨rfl, rfl, Or.inl rfl⟩
        · trivial
      · have q41 : p.toInt = x33.toInt := aw_t_ne (a := p.toInt) (b := x33.toInt) rfl rfl q41
        refine cw_n aj_d44 rfl rfl ?_
        refine cw_n aj_d44 rfl rfl ?_
        refine cw_g (i := 30) (v := .int x25) htb.1 aj_d44 rfl rfl (by decide) f25 ?_
        refine cw_c (tgt := 41) aj_d44 rfl rfl (fun q42 => ?_) (fun q42 => ?_)
        · have q42 : m.toInt ≥ x25.toInt := aw_t_ge (a := m.toInt) (b := x25.toInt) rfl rfl q42
          refine cw_Wr aj_d44 rfl rfl hT ?_ ?_
          · exact ⟨rfl, rfl, Or.inl rfl⟩
          · trivial
        · have q42 : m.toInt < x25.toInt := aw_t_ge (a := m.toInt) (b := x25.toInt) rfl rfl q42
          refine cw_n aj_d44 rfl rfl ?_
          refine cw_n aj_d44 rfl rfl ?_
          refine cw_p (i := 30) (t := 56) (c := 4) (k := 5) (v := .int m) (y := (.inl ((-2147483648), 2147483647))) htb aj_d44 rfl rfl hT (cw_s0 hB rfl) rfl rfl rfl (cw_full _) (by decide) rfl rfl (fun hT43 => ?_)
          have f44 : cw_F (cw_sf h 30 5 (.int m)) 30 4 6 (.int x33) := cw_sf_ne f33 (Or.inr (by decide))
          have f45 : cw_F (cw_sf h 30 5 (.int m)) 30 4 5 (.int m) := cw_sf_same f25
          refine cw_n aj_d44 rfl rfl ?_
          refine cw_n aj_d44 rfl rfl ?_
          refine cw_p (i := 30) (t := 56) (c := 4) (k := 6) (v := .int p) (y := (.inl ((-2147483648), 2147483647))) htb aj_d44 rfl rfl hT43 (cw_s0 hB rfl) rfl rfl rfl (cw_full _) (by decide) rfl rfl (fun hT46 => ?_)
          have f47 : cw_F (cw_sf (cw_sf h 30 5 (.int m)) 30 6 (.int p)) 30 4 5 (.int m) := cw_sf_ne f45 (Or.inr (by decide))
          have f48 : cw_F (cw_sf (cw_sf h 30 5 (.int m)) 30 6 (.int p)) 30 4 6 (.int p) := cw_sf_same f44
          refine cw_Wr aj_d44 rfl rfl hT46 ?_ ?_
          · exact ⟨rfl, rfl, Or.inr rfl⟩
          · trivial
/-- a fault told, or not -/
theorem cw_failW (htb : ak_tbOK ak_CW tb) (hT : ak_Ty ak_CW s h) (hB : cw_B s) (hd : 1 ≤ d) (m p : Int32)  : cw_K ak_CW (fun s' r h' => s' = s ∧ r = none ∧ (h' = h ∨ h' = cw_sf (cw_sf h 30 5 (.int m)) 30 6 (.int p))) tb d ap_c44 [.ref (52 + 30), .int m, .int p] s h := by
  obtain ⟨d, rfl⟩ : ∃ e, d = e + 1 := ⟨d - 1, by omega⟩
  refine cw_m (con := ap_c44) aj_m44_at (Nat.le_of_ble_eq_true rfl) ?_
  show cw_W _ _ _ _ _ _ _ _ _ _ 0 [(0, .ref (52 + 30)), (1, .int m), (2, .int p)] []
  refine cw_n aj_d44 rfl rfl ?_
  obtain ⟨v49, f49, g49⟩ := cw_tyF (i := 30) (t := 56) (c := 4) (k := 5) (y := (.inl ((-2147483648), 2147483647))) hT (cw_s0 hB rfl) rfl rfl rfl
  obtain ⟨x49, rfl, b49⟩ := ak_gi g49
  dsimp only [ak_win] at b49
  refine cw_g (i := 30) (v := .int x49) htb.1 aj_d44 rfl rfl (by decide) f49 ?_
  refine cw_z (tgt := 31) aj_d44 rfl rfl (fun q50 => ?_) (fun q50 => ?_)
  · have q50 : x49.toInt = (0 : Int) := aw_t_eq (a := x49.toInt) (b := (0 : Int)) rfl rfl q50
    refine cw_n aj_d44 rfl rfl ?_
    refine cw_n aj_d44 rfl rfl ?_
    refine cw_p (i := 30) (t := 56) (c := 4) (k := 5) (v := .int m) (y := (.inl ((-2147483648), 2147483647))) htb aj_d44 rfl rfl hT (cw_s0 hB rfl) rfl rfl rfl (cw_full _) (by decide) rfl rfl (fun hT51 => ?_)
    have f52 : cw_F (cw_sf h 30 5 (.int m)) 30 4 5 (.int m) := cw_sf_same f49
    refine cw_n aj_d44 rfl rfl ?_
    refine cw_n aj_d44 rfl rfl ?_
    refine cw_p (i := 30) (t := 56) (c := 4) (k := 6) (v := .int p) (y := (.inl ((-2147483648), 2147483647))) htb aj_d44 rfl rfl hT51 (cw_s0 hB rfl) rfl rfl rfl (cw_full _) (by decide) rfl rfl (fun hT53 => ?_)
    obtain ⟨v54, f54, g54⟩ := cw_tyF (i := 30) (t := 56) (c := 4) (k := 6) (y := (.inl ((-2147483648), 2147483647))) hT51 (cw_s0 hB rfl) rfl rfl rfl
    obtain ⟨x54, rfl, b54⟩ := ak_gi g54
    dsimp only [ak_win] at b54
    have f55 : cw_F (cw_sf (cw_sf h 30 5 (.int m)) 30 6 (.int p)) 30 4 5 (.int m) := cw_sf_ne f52 (Or.inr (by decide))
    have f56 : cw_F (cw_sf (cw_sf h 30 5 (.int m)) 30 6 (.int p)) 30 4 6 (.int p) := cw_sf_same f54
    refine cw_Wr aj_d44 rfl rfl hT53 ?_ ?_
    · exact ⟨rfl, rfl, Or.inr rfl⟩
    · trivial
  · have q50 : x49.toInt ≠ (0 : Int) := aw_t_eq (a := x49.toInt) (b := (0 : Int)) rfl rfl q50
    refine cw_n aj_d44 rfl rfl ?_
    refine cw_n aj_d44 rfl rfl ?_
    obtain ⟨v57, f57, g57⟩ := cw_tyF (i := 30) (t := 56) (c := 4) (k := 6) (y := (.inl ((-2147483648), 2147483647))) hT (cw_s0 hB rfl) rfl rfl rfl
    obtain ⟨x57, rfl, b57⟩ := ak_gi g57
    dsimp only [ak_win] at b57
    refine cw_g (i := 30) (v := .int x57) htb.1 aj_d44 rfl rfl (by decide) f57 ?_
    refine cw_c (tgt := 31) aj_d44 rfl rfl (fun q58 => ?_) (fun q58 => ?_)
    · have q58 : p.toInt < x57.toInt := aw_t_lt (a := p.toInt) (b := x57.toInt) rfl rfl q58
      refine cw_n aj_d44 rfl rfl ?_
      refine cw_n aj_d44 rfl rfl ?_
      refine cw_p (i := 30) (t := 56) (c := 4) (k := 5) (v := .int m) (y := (.inl ((-2147483648), 2147483647))) htb aj_d44 rfl rfl hT (cw_s0 hB rfl) rfl rfl rfl (cw_full _) (by decide) rfl rfl (fun hT59 => ?_)
      have f60 : cw_F (cw_sf h 30 5 (.int m)) 30 4 6 (.int x57) := cw_sf_ne f57 (Or.inr (by decide))
      have f61 : cw_F (cw_sf h 30 5 (.int m)) 30 4 5 (.int m) := cw_sf_same f49
      refine cw_n aj_d44 rfl rfl ?_
      refine cw_n aj_d44 rfl rfl ?_
      refine cw_p (i := 30) (t := 56) (c := 4) (k := 6) (v := .int p) (y := (.inl ((-2147483648), 2147483647))) htb aj_d44 rfl rfl hT59 (cw_s0 hB rfl) rfl rfl rfl (cw_full _) (by decide) rfl rfl (fun hT62 => ?_)
      have f63 : cw_F (cw_sf (cw_sf h 30 5 (.int m)) 30 6 (.int p)) 30 4 5 (.int m) := cw_sf_ne f61 (Or.inr (by decide))
      have f64 : cw_F (cw_sf (cw_sf h 30 5 (.int m)) 30 6 (.int p)) 30 4 6 (.int p) := cw_sf_same f60
      refine cw_Wr aj_d44 rfl rfl hT62 ?_ ?_
      · exact ⟨rfl, rfl, Or.inr rfl⟩
      · trivial
    · have q58 : p.toInt ≥ x57.toInt := aw_t_lt (a := p.toInt) (b := x57.toInt) rfl rfl q58
      refine cw_n aj_d44 rfl rfl ?_
      refine cw_n aj_d44 rfl rfl ?_
      refine cw_g (i := 30) (v := .int x57) htb.1 aj_d44 rfl rfl (by decide) f57 ?_
      refine cw_c (tgt := 41) aj_d44 rfl rfl (fun q65 => ?_) (fun q65 => ?_)
      · have q65 : p.toInt ≠ x57.toInt := aw_t_ne (a := p.toInt) (b := x57.toInt) rfl rfl q65
        refine cw_Wr aj_d44 rfl rfl hT ?_ ?_
        · exact ⟨rfl, rfl, Or.inl rfl⟩
        · trivial
      · have q65 : p.toInt = x57.toInt := aw_t_ne (a := p.toInt) (b := x57.toInt) rfl rfl q65
        refine cw_n aj_d44 rfl rfl ?_
        refine cw_n aj_d44 rfl rfl ?_
        refine cw_g (i := 30) (v := .int x49) htb.1 aj_d44 rfl rfl (by decide) f49 ?_
        refine cw_c (tgt := 41) aj_d44 rfl rfl (fun q66 => ?_) (fun q66 => ?_)
        · have q66 : m.toInt ≥ x49.toInt := aw_t_ge (a := m.toInt) (b := x49.toInt) rfl rfl q66
          refine cw_Wr aj_d44 rfl rfl hT ?_ ?_
          · exact ⟨rfl, rfl, Or.inl rfl⟩
          · trivial
        · have q66 : m.toInt < x49.toInt := aw_t_ge (a := m.toInt) (b := x49.toInt) rfl rfl q66
          refine cw_n aj_d44 rfl rfl ?_
          refine cw_n aj_d44 rfl rfl ?_
          refine cw_p (i := 30) (t := 56) (c := 4) (k := 5) (v := .int m) (y := (.inl ((-2147483648), 2147483647))) htb aj_d44 rfl rfl hT (cw_s0 hB rfl) rfl rfl rfl (cw_full _) (by decide) rfl rfl (fun hT67 => ?_)
          have f68 : cw_F (cw_sf h 30 5 (.int m)) 30 4 6 (.int x57) := cw_sf_ne f57 (Or.inr (by decide))
          have f69 : cw_F (cw_sf h 30 5 (.int m)) 30 4 5 (.int m) := cw_sf_same f49
          refine cw_n aj_d44 rfl rfl ?_
          refine cw_n aj_d44 rfl rfl ?_
          refine cw_p (i := 30) (t := 56) (c := 4) (k := 6) (v := .int p) (y := (.inl ((-2147483648), 2147483647))) htb aj_d44 rfl rfl hT67 (cw_s0 hB rfl) rfl rfl rfl (cw_full _) (by decide) rfl rfl (fun hT70 => ?_)
          have f71 : cw_F (cw_sf (cw_sf h 30 5 (.int m)) 30 6 (.int p)) 30 4 5 (.int m) := cw_sf_ne f69 (Or.inr (by decide))
          have f72 : cw_F (cw_sf (cw_sf h 30 5 (.int m)) 30 6 (.int p)) 30 4 6 (.int p) := cw_sf_same f68
          refine cw_Wr aj_d44 rfl rfl hT70 ?_ ?_
          · exact ⟨rfl, rfl, Or.inr rfl⟩
          · trivial
end CW60
