/-! SMALL METHODS OF THE CLASS BY HAND (printed by wip/p2/cwalk/g60.py) -/
section CW60
variable {T : ak_TT} {tb : aj_T} {s : List Nat} {h : aj_H} {d : Nat} {X : Option Nat}
/-- a fault told, or not -/
theorem cw_fail0 (htb : ak_tbOK ak_C0 tb) (hT : ak_Ty ak_C0 s h) (hB : cw_B s) (hd : 1 ≤ d) (m p : Int32)  : cw_K ak_C0 (fun s' r h' => s' = s ∧ r = none ∧ (h' = h ∨ h' = cw_sf (cw_sf h 30 5 (.int m)) 30 6 (.int p))) tb d ap_c44 [.ref (52 + 30), .int m, .int p] s h := by
  obtain ⟨d, rfl⟩ : ∃ e, d = e + 1 := ⟨d - 1, by omega⟩
  refine cw_m (con := ap_c44) aj_m44_at (Nat.le_of_ble_eq_true rfl) ?_
  show cw_W _ _ _ _ _ _ _ _ _ _ 0 [(0, .ref (52 + 30)), (1, .int m), (2, .int p)] []
  refine cw_n aj_d44 rfl rfl ?_
  obtain ⟨v1, f1, g1⟩ := cw_tyF (i := 30) (t := 56) (c := 4) (k := 5) (y := (.inl ((-2147483648), 2147483647))) hT (cw_s0 hB rfl) rfl rfl rfl
  obtain ⟨x1, rfl, b1⟩ := ak_gi g1
  dsimp only [ak_win] at b1
  refine cw_g (i := 30) (v := .int x1) htb.1 aj_d44 rfl rfl (by decide) f1 ?_
  refine cw_z (tgt := 31) aj_d44 rfl rfl (fun q2 => ?_) (fun q2 => ?_)
  · have q2 : x1.toInt = (0 : Int) := aw_t_eq (a := x1.toInt) (b := (0 : Int)) rfl rfl q2
    refine cw_n aj_d44 rfl rfl ?_
    refine cw_n aj_d44 rfl rfl ?_
    refine cw_p (i := 30) (t := 56) (c := 4) (k := 5) (v := .int m) (y := (.inl ((-2147483648), 2147483647))) htb aj_d44 rfl rfl hT (cw_s0 hB rfl) rfl rfl rfl (cw_full _) (by decide) rfl rfl (fun hT3 => ?_)
    have f4 : cw_F (cw_sf h 30 5 (.int m)) 30 4 5 (.int m) := cw_sf_same f1
    refine cw_n aj_d44 rfl rfl ?_
    refine cw_n aj_d44 rfl rfl ?_
    refine cw_p (i := 30) (t := 56) (c := 4) (k := 6) (v := .int p) (y := (.inl ((-2147483648), 2147483647))) htb aj_d44 rfl rfl hT3 (cw_s0 hB rfl) rfl rfl rfl (cw_full _) (by decide) rfl rfl (fun hT5 => ?_)
    obtain ⟨v6, f6, g6⟩ := cw_tyF (i := 30) (t := 56) (c := 4) (k := 6) (y := (.inl ((-2147483648), 2147483647))) hT3 (cw_s0 hB rfl) rfl rfl rfl
    obtain ⟨x6, rfl, b6⟩ := ak_gi g6
    dsimp only [ak_win] at b6
    have f7 : cw_F (cw_sf (cw_sf h 30 5 (.int m)) 30 6 (.int p)) 30 4 5 (.int m) := cw_sf_ne f4 (Or.inr (by decide))
    have f8 : cw_F (cw_sf (cw_sf h 30 5 (.int m)) 30 6 (.int p)) 30 4 6 (.int p) := cw_sf_same f6
    refine cw_Wr aj_d44 rfl rfl hT5 ?_ ?_
    · exact ⟨rfl, rfl, Or.inr rfl⟩
    · trivial
  · have q2 : x1.toInt ≠ (0 : Int) := aw_t_eq (a := x1.toInt) (b := (0 : Int)) rfl rfl q2
    refine cw_n aj_d44 rfl rfl ?_
    refine cw_n aj_d44 rfl rfl ?_
    obtain ⟨v9, f9, g9⟩ := cw_tyF (i := 30) (t := 56) (c := 4) (k := 6) (y := (.inl ((-2147483648), 2147483647))) hT (cw_s0 hB rfl) rfl rfl rfl
    obtain ⟨x9, rfl, b9⟩ := ak_gi g9
    dsimp only [ak_win] at b9
    refine cw_g (i := 30) (v := .int x9) htb.1 aj_d44 rfl rfl (by decide) f9 ?_
    refine cw_c (tgt := 31) aj_d44 rfl rfl (fun q10 => ?_) (fun q10 => ?_)
    · have q10 : p.toInt < x9.toInt := aw_t_lt (a := p.toInt) (b := x9.toInt) rfl rfl q10
      refine cw_n aj_d44 rfl rfl ?_
      refine cw_n aj_d44 rfl rfl ?_
      refine cw_p (i := 30) (t := 56) (c := 4) (k := 5) (v := .int m) (y := (.inl ((-2147483648), 2147483647))) htb aj_d44 rfl rfl hT (cw_s0 hB rfl) rfl rfl rfl (cw_full _) (by decide) rfl rfl (fun hT11 => ?_)
      have f12 : cw_F (cw_sf h 30 5 (.int m)) 30 4 6 (.int x9) := cw_sf_ne f9 (Or.inr (by decide))
      have f13 : cw_F (cw_sf h 30 5 (.int m)) 30 4 5 (.int m) := cw_sf_same f1
      refine cw_n aj_d44 rfl rfl ?_
      refine cw_n aj_d44 rfl rfl ?_
      refine cw_p (i := 30) (t := 56) (c := 4) (k := 6) (v := .int p) (y := (.inl ((-2147483648), 2147483647))) htb aj_d44 rfl rfl hT11 (cw_s0 hB rfl) rfl rfl rfl (cw_full _) (by decide) rfl rfl (fun hT14 => ?_)
      have f15 : cw_F (cw_sf (cw_sf h 30 5 (.int m)) 30 6 (.int p)) 30 4 5 (.int m) := cw_sf_ne f13 (Or.inr (by decide))
      have f16 : cw_F (cw_sf (cw_sf h 30 5 (.int m)) 30 6 (.int p)) 30 4 6 (.int p) := cw_sf_same f12
      refine cw_Wr aj_d44 rfl rfl hT14 ?_ ?_
      · exact ⟨rfl, rfl, Or.inr rfl⟩
      · trivial
    · have q10 : p.toInt ≥ x9.toInt := aw_t_lt (a := p.toInt) (b := x9.toInt) rfl rfl q10
      refine cw_n aj_d44 rfl rfl ?_
      refine cw_n aj_d44 rfl rfl ?_
      refine cw_g (i := 30) (v := .int x9) htb.1 aj_d44 rfl rfl (by decide) f9 ?_
      refine cw_c (tgt := 41) aj_d44 rfl rfl (fun q17 => ?_) (fun q17 => ?_)
      · have q17 : p.toInt ≠ x9.toInt := aw_t_ne (a := p.toInt) (b := x9.toInt) rfl rfl q17
        refine cw_Wr aj_d44 rfl rfl hT ?_ ?_
        · exact ⟨rfl, rfl, Or.inl rfl⟩
        · trivial
      · have q17 : p.toInt = x9.toInt := aw_t_ne (a := p.toInt) (b := x9.toInt) rfl rfl q17
        refine cw_n aj_d44 rfl rfl ?_
        refine cw_n aj_d44 rfl rfl ?_
        refine cw_g (i := 30) (v := .int x1) htb.1 aj_d44 rfl rfl (by decide) f1 ?_
        refine cw_c (tgt := 41) aj_d44 rfl rfl (fun q18 => ?_) (fun q18 => ?_)
        · have q18 : m.toInt ≥ x1.toInt := aw_t_ge (a := m.toInt) (b := x1.toInt) rfl rfl q18
          refine cw_Wr aj_d44 rfl rfl hT ?_ ?_
          · exact ⟨rfl, rfl, Or.inl rfl⟩
          · trivial
        · have q18 : m.toInt < x1.toInt := aw_t_ge (a := m.toInt) (b := x1.toInt) rfl rfl q18
          refine cw_n aj_d44 rfl rfl ?_
          refine cw_n aj_d44 rfl rfl ?_
          refine cw_p (i := 30) (t := 56) (c := 4) (k := 5) (v := .int m) (y := (.inl ((-2147483648), 2147483647))) htb aj_d44 rfl rfl hT (cw_s0 hB rfl) rfl rfl rfl (cw_full _) (by decide) rfl rfl (fun hT19 => ?_)
          have f20 : cw_F (cw_sf h 30 5 (.int m)) 30 4 6 (.int x9) := cw_sf_ne f9 (Or.inr (by decide))
          have f21 : cw_F (cw_sf h 30 5 (.int m)) 30 4 5 (.int m) := cw_sf_same f1
          refine cw_n aj_d44 rfl rfl ?_
          refine cw_n aj_d44 rfl rfl ?_
          refine cw_p (i := 30) (t := 56) (c := 4) (k := 6) (v := .int p) (y := (.inl ((-2147483648), 2147483647))) htb aj_d44 rfl rfl hT19 (cw_s0 hB rfl) rfl rfl rfl (cw_full _) (by decide) rfl rfl (fun hT22 => ?_)
          have f23 : cw_F (cw_sf (cw_sf h 30 5 (.int m)) 30 6 (.int p)) 30 4 5 (.int m) := cw_sf_ne f21 (Or.inr (by decide))
          have f24 : cw_F (cw_sf (cw_sf h 30 5 (.int m)) 30 6 (.int p)) 30 4 6 (.int p) := cw_sf_same f20
          refine cw_Wr aj_d44 rfl rfl hT22 ?_ ?_
          · exact ⟨rfl, rfl, Or.inr rfl⟩
          · trivial
/-- a fault told, or not -/
theorem cw_fail1 (htb : ak_tbOK ak_C1 tb) (hT : ak_Ty ak_C1 s h) (hB : cw_B s) (hd : 1 ≤ d) (m p : Int32)  : cw_K ak_C1 (fun s' r h' => s' = s ∧ r = none ∧ (h' = h ∨ h' = cw_sf (cw_sf h 30 5 (.int m)) 30 6 (.int p))) tb d ap_c44 [.ref (52 + 30), .int m, .int p] s h := by
  obtain ⟨d, rfl⟩ : ∃ e, d = e + 1 := ⟨d - 1, by omega⟩
  refine cw_m (con := ap_c44) aj_m44_at (Nat.le_of_ble_eq_true rfl) ?_
  show cw_W _ _ _ _ _ _ _ _ _ _ 0 [(0, .ref (52 + 30)), (1, .int m), (2, .int p)] []
  refine cw_n aj_d44 rfl rfl ?_
  obtain ⟨v25, f25, g25⟩ := cw_tyF (i := 30) (t := 56) (c := 4) (k := 5) (y := (.inl ((-2147483648), 2147483647))) hT (cw_s0 hB rfl) rfl rfl rfl
  obtain ⟨x25, rfl, b25⟩ := ak_gi g25
  dsimp only [ak_win] at b25
  refine cw_g (i := 30) (v := .int x25) htb.1 aj_d44 rfl rfl (by decide) f25 ?_
  refine cw_z (tgt := 31) aj_d44 rfl rfl (fun q26 => ?_) (fun q26 => ?_)
  · have q26 : x25.toInt = (0 : Int) := aw_t_eq (a := x25.toInt) (b := (0 : Int)) rfl rfl q26
    refine cw_n aj_d44 rfl rfl ?_
    refine cw_n aj_d44 rfl rfl ?_
    refine cw_p (i := 30) (t := 56) (c := 4) (k := 5) (v := .int m) (y := (.inl ((-2147483648), 2147483647))) htb aj_d44 rfl rfl hT (cw_s0 hB rfl) rfl rfl rfl (cw_full _) (by decide) rfl rfl (fun hT27 => ?_)
    have f28 : cw_F (cw_sf h 30 5 (.int m)) 30 4 5 (.int m) := cw_sf_same f25
    refine cw_n aj_d44 rfl rfl ?_
    refine cw_n aj_d44 rfl rfl ?_
    refine cw_p (i := 30) (t := 56) (c := 4) (k := 6) (v := .int p) (y := (.inl ((-2147483648), 2147483647))) htb aj_d44 rfl rfl hT27 (cw_s0 hB rfl) rfl rfl rfl (cw_full _) (by decide) rfl rfl (fun hT29 => ?_)
    obtain ⟨v30, f30, g30⟩ := cw_tyF (i := 30) (t := 56) (c := 4) (k := 6) (y := (.inl ((-2147483648), 2147483647))) hT27 (cw_s0 hB rfl) rfl rfl rfl
    obtain ⟨x30, rfl, b30⟩ := ak_gi g30
    dsimp only [ak_win] at b30
    have f31 : cw_F (cw_sf (cw_sf h 30 5 (.int m)) 30 6 (.int p)) 30 4 5 (.int m) := cw_sf_ne f28 (Or.inr (by decide))
    have f32 : cw_F (cw_sf (cw_sf h 30 5 (.int m)) 30 6 (.int p)) 30 4 6 (.int p) := cw_sf_same f30
    refine cw_Wr aj_d44 rfl rfl hT29 ?_ ?_
    · exact ⟨rfl, rfl, Or.inr rfl⟩
    · trivial
  · have q26 : x25.toInt ≠ (0 : Int) := aw_t_eq (a := x25.toInt) (b := (0 : Int)) rfl rfl q26
    refine cw_n aj_d44 rfl rfl ?_
    refine cw_n aj_d44 rfl rfl ?_
    obtain ⟨v33, f33, g33⟩ := cw_tyF (i := 30) (t := 56) (c := 4) (k := 6) (y := (.inl ((-2147483648), 2147483647))) hT (cw_s0 hB rfl) rfl rfl rfl
    obtain ⟨x33, rfl, b33⟩ := ak_gi g33
    dsimp only [ak_win] at b33
    refine cw_g (i := 30) (v := .int x33) htb.1 aj_d44 rfl rfl (by decide) f33 ?_
    refine cw_c (tgt := 31) aj_d44 rfl rfl (fun q34 => ?_) (fun q34 => ?_)
    · have q34 : p.toInt < x33.toInt := aw_t_lt (a := p.toInt) (b := x33.toInt) rfl rfl q34
      refine cw_n aj_d44 rfl rfl ?_
      refine cw_n aj_d44 rfl rfl ?_
      refine cw_p (i := 30) (t := 56) (c := 4) (k := 5) (v := .int m) (y := (.inl ((-2147483648), 2147483647))) htb aj_d44 rfl rfl hT (cw_s0 hB rfl) rfl rfl rfl (cw_full _) (by decide) rfl rfl (fun hT35 => ?_)
      have f36 : cw_F (cw_sf h 30 5 (.int m)) 30 4 6 (.int x33) := cw_sf_ne f33 (Or.inr (by decide))
      have f37 : cw_F (cw_sf h 30 5 (.int m)) 30 4 5 (.int m) := cw_sf_same f25
      refine cw_n aj_d44 rfl rfl ?_
      refine cw_n aj_d44 rfl rfl ?_
      refine cw_p (i := 30) (t := 56) (c := 4) (k := 6) (v := .int p) (y := (.inl ((-2147483648), 2147483647))) htb aj_d44 rfl rfl hT35 (cw_s0 hB rfl) rfl rfl rfl (cw_full _) (by decide) rfl rfl (fun hT38 => ?_)
      have f39 : cw_F (cw_sf (cw_sf h 30 5 (.int m)) 30 6 (.int p)) 30 4 5 (.int m) := cw_sf_ne f37 (Or.inr (by decide))
      have f40 : cw_F (cw_sf (cw_sf h 30 5 (.int m)) 30 6 (.int p)) 30 4 6 (.int p) := cw_sf_same f36
      refine cw_Wr aj_d44 rfl rfl hT38 ?_ ?_
      · exact ⟨rfl, rfl, Or.inr rfl⟩
      · trivial
    · have q34 : p.toInt ≥ x33.toInt := aw_t_lt (a := p.toInt) (b := x33.toInt) rfl rfl q34
      refine cw_n aj_d44 rfl rfl ?_
      refine cw_n aj_d44 rfl rfl ?_
      refine cw_g (i := 30) (v := .int x33) htb.1 aj_d44 rfl rfl (by decide) f33 ?_
      refine cw_c (tgt := 41) aj_d44 rfl rfl (fun q41 => ?_) (fun q41 => ?_)
      · have q41 : p.toInt ≠ x33.toInt := aw_t_ne (a := p.toInt) (b := x33.toInt) rfl rfl q41
        refine cw_Wr aj_d44 rfl rfl hT ?_ ?_
        · exact ⟨rfl, rfl, Or.inl rfl⟩
        · trivial
      · have q41 : p.toInt = x33.toInt := aw_t_ne (a := p.toInt) (b := x33.toInt) rfl rfl q41
        refine cw_n aj_d44 rfl rfl ?_
        refine cw_n aj_d44 rfl rfl ?_
        refine cw_g (i := 30) (v := .int x25) htb.1 aj_d44 rfl rfl (by decide) f25 ?_
        refine cw_c (tgt := 41) aj_d44 rfl rfl (fun q42 => ?_) (fun q42 => ?_)
        · have q42 : m.toInt ≥ x25.toInt := aw_t_ge (a := m.toInt) (b := x25.toInt) rfl rfl q42
          refine cw_Wr aj_d44 rfl rfl hT ?_ ?_
          · exact ⟨rfl, rfl, Or.inl rfl⟩
          · trivial
        · have q42 : m.toInt < x25.toInt := aw_t_ge (a := m.toInt) (b := x25.toInt) rfl rfl q42
          refine cw_n aj_d44 rfl rfl ?_
          refine cw_n aj_d44 rfl rfl ?_
          refine cw_p (i := 30) (t := 56) (c := 4) (k := 5) (v := .int m) (y := (.inl ((-2147483648), 2147483647))) htb aj_d44 rfl rfl hT (cw_s0 hB rfl) rfl rfl rfl (cw_full _) (by decide) rfl rfl (fun hT43 => ?_)
          have f44 : cw_F (cw_sf h 30 5 (.int m)) 30 4 6 (.int x33) := cw_sf_ne f33 (Or.inr (by decide))
          have f45 : cw_F (cw_sf h 30 5 (.int m)) 30 4 5 (.int m) := cw_sf_same f25
          refine cw_n aj_d44 rfl rfl ?_
          refine cw_n aj_d44 rfl rfl ?_
          refine cw_p (i := 30) (t := 56) (c := 4) (k := 6) (v := .int p) (y := (.inl ((-2147483648), 2147483647))) htb aj_d44 rfl rfl hT43 (cw_s0 hB rfl) rfl rfl rfl (cw_full _) (by decide) rfl rfl (fun hT46 => ?_)
          have f47 : cw_F (cw_sf (cw_sf h 30 5 (.int m)) 30 6 (.int p)) 30 4 5 (.int m) := cw_sf_ne f45 (Or.inr (by decide))
          have f48 : cw_F (cw_sf (cw_sf h 30 5 (.int m)) 30 6 (.int p)) 30 4 6 (.int p) := cw_sf_same f44
          refine cw_Wr aj_d44 rfl rfl hT46 ?_ ?_
          · exact ⟨rfl, rfl, Or.inr rfl⟩
          · trivial
/-- a fault told, or not -/
theorem cw_failW (htb : ak_tbOK ak_CW tb) (hT : ak_Ty ak_CW s h) (hB : cw_B s) (hd : 1 ≤ d) (m p : Int32)  : cw_K ak_CW (fun s' r h' => s' = s ∧ r = none ∧ (h' = h ∨ h' = cw_sf (cw_sf h 30 5 (.int m)) 30 6 (.int p))) tb d ap_c44 [.ref (52 + 30), .int m, .int p] s h := by
  obtain ⟨d, rfl⟩ : ∃ e, d = e + 1 := ⟨d - 1, by omega⟩
  refine cw_m (con := ap_c44) aj_m44_at (Nat.le_of_ble_eq_true rfl) ?_
  show cw_W _ _ _ _ _ _ _ _ _ _ 0 [(0, .ref (52 + 30)), (1, .int m), (2, .int p)] []
  refine cw_n aj_d44 rfl rfl ?_
  obtain ⟨v49, f49, g49⟩ := cw_tyF (i := 30) (t := 56) (c := 4) (k := 5) (y := (.inl ((-2147483648), 2147483647))) hT (cw_s0 hB rfl) rfl rfl rfl
  obtain ⟨x49, rfl, b49⟩ := ak_gi g49
  dsimp only [ak_win] at b49
  refine cw_g (i := 30) (v := .int x49) htb.1 aj_d44 rfl rfl (by decide) f49 ?_
  refine cw_z (tgt := 31) aj_d44 rfl rfl (fun q50 => ?_) (fun q50 => ?_)
  · have q50 : x49.toInt = (0 : Int) := aw_t_eq (a := x49.toInt) (b := (0 : Int)) rfl rfl q50
    refine cw_n aj_d44 rfl rfl ?_
    refine cw_n aj_d44 rfl rfl ?_
    refine cw_p (i := 30) (t := 56) (c := 4) (k := 5) (v := .int m) (y := (.inl ((-2147483648), 2147483647))) htb aj_d44 rfl rfl hT (cw_s0 hB rfl) rfl rfl rfl (cw_full _) (by decide) rfl rfl (fun hT51 => ?_)
    have f52 : cw_F (cw_sf h 30 5 (.int m)) 30 4 5 (.int m) := cw_sf_same f49
    refine cw_n aj_d44 rfl rfl ?_
    refine cw_n aj_d44 rfl rfl ?_
    refine cw_p (i := 30) (t := 56) (c := 4) (k := 6) (v := .int p) (y := (.inl ((-2147483648), 2147483647))) htb aj_d44 rfl rfl hT51 (cw_s0 hB rfl) rfl rfl rfl (cw_full _) (by decide) rfl rfl (fun hT53 => ?_)
    obtain ⟨v54, f54, g54⟩ := cw_tyF (i := 30) (t := 56) (c := 4) (k := 6) (y := (.inl ((-2147483648), 2147483647))) hT51 (cw_s0 hB rfl) rfl rfl rfl
    obtain ⟨x54, rfl, b54⟩ := ak_gi g54
    dsimp only [ak_win] at b54
    have f55 : cw_F (cw_sf (cw_sf h 30 5 (.int m)) 30 6 (.int p)) 30 4 5 (.int m) := cw_sf_ne f52 (Or.inr (by decide))
    have f56 : cw_F (cw_sf (cw_sf h 30 5 (.int m)) 30 6 (.int p)) 30 4 6 (.int p) := cw_sf_same f54
    refine cw_Wr aj_d44 rfl rfl hT53 ?_ ?_
    · exact ⟨rfl, rfl, Or.inr rfl⟩
    · trivial
  · have q50 : x49.toInt ≠ (0 : Int) := aw_t_eq (a := x49.toInt) (b := (0 : Int)) rfl rfl q50
    refine cw_n aj_d44 rfl rfl ?_
    refine cw_n aj_d44 rfl rfl ?_
    obtain ⟨v57, f57, g57⟩ := cw_tyF (i := 30) (t := 56) (c := 4) (k := 6) (y := (.inl ((-2147483648), 2147483647))) hT (cw_s0 hB rfl) rfl rfl rfl
    obtain ⟨x57, rfl, b57⟩ := ak_gi g57
    dsimp only [ak_win] at b57
    refine cw_g (i := 30) (v := .int x57) htb.1 aj_d44 rfl rfl (by decide) f57 ?_
    refine cw_c (tgt := 31) aj_d44 rfl rfl (fun q58 => ?_) (fun q58 => ?_)
    · have q58 : p.toInt < x57.toInt := aw_t_lt (a := p.toInt) (b := x57.toInt) rfl rfl q58
      refine cw_n aj_d44 rfl rfl ?_
      refine cw_n aj_d44 rfl rfl ?_
      refine cw_p (i := 30) (t := 56) (c := 4) (k := 5) (v := .int m) (y := (.inl ((-2147483648), 2147483647))) htb aj_d44 rfl rfl hT (cw_s0 hB rfl) rfl rfl rfl (cw_full _) (by decide) rfl rfl (fun hT59 => ?_)
      have f60 : cw_F (cw_sf h 30 5 (.int m)) 30 4 6 (.int x57) := cw_sf_ne f57 (Or.inr (by decide))
      have f61 : cw_F (cw_sf h 30 5 (.int m)) 30 4 5 (.int m) := cw_sf_same f49
      refine cw_n aj_d44 rfl rfl ?_
      refine cw_n aj_d44 rfl rfl ?_
      refine cw_p (i := 30) (t := 56) (c := 4) (k := 6) (v := .int p) (y := (.inl ((-2147483648), 2147483647))) htb aj_d44 rfl rfl hT59 (cw_s0 hB rfl) rfl rfl rfl (cw_full _) (by decide) rfl rfl (fun hT62 => ?_)
      have f63 : cw_F (cw_sf (cw_sf h 30 5 (.int m)) 30 6 (.int p)) 30 4 5 (.int m) := cw_sf_ne f61 (Or.inr (by decide))
      have f64 : cw_F (cw_sf (cw_sf h 30 5 (.int m)) 30 6 (.int p)) 30 4 6 (.int p) := cw_sf_same f60
      refine cw_Wr aj_d44 rfl rfl hT62 ?_ ?_
      · exact ⟨rfl, rfl, Or.inr rfl⟩
      · trivial
    · have q58 : p.toInt ≥ x57.toInt := aw_t_lt (a := p.toInt) (b := x57.toInt) rfl rfl q58
      refine cw_n aj_d44 rfl rfl ?_
      refine cw_n aj_d44 rfl rfl ?_
      refine cw_g (i := 30) (v := .int x57) htb.1 aj_d44 rfl rfl (by decide) f57 ?_
      refine cw_c (tgt := 41) aj_d44 rfl rfl (fun q65 => ?_) (fun q65 => ?_)
      · have q65 : p.toInt ≠ x57.toInt := aw_t_ne (a := p.toInt) (b := x57.toInt) rfl rfl q65
        refine cw_Wr aj_d44 rfl rfl hT ?_ ?_
        · exact ⟨rfl, rfl, Or.inl rfl⟩
        · trivial
      · have q65 : p.toInt = x57.toInt := aw_t_ne (a := p.toInt) (b := x57.toInt) rfl rfl q65
        refine cw_n aj_d44 rfl rfl ?_
        refine cw_n aj_d44 rfl rfl ?_
        refine cw_g (i := 30) (v := .int x49) htb.1 aj_d44 rfl rfl (by decide) f49 ?_
        refine cw_c (tgt := 41) aj_d44 rfl rfl (fun q66 => ?_) (fun q66 => ?_)
        · have q66 : m.toInt ≥ x49.toInt := aw_t_ge (a := m.toInt) (b := x49.toInt) rfl rfl q66
          refine cw_Wr aj_d44 rfl rfl hT ?_ ?_
          · exact ⟨rfl, rfl, Or.inl rfl⟩
          · trivial
        · have q66 : m.toInt < x49.toInt := aw_t_ge (a := m.toInt) (b := x49.toInt) rfl rfl q66
          refine cw_n aj_d44 rfl rfl ?_
          refine cw_n aj_d44 rfl rfl ?_
          refine cw_p (i := 30) (t := 56) (c := 4) (k := 5) (v := .int m) (y := (.inl ((-2147483648), 2147483647))) htb aj_d44 rfl rfl hT (cw_s0 hB rfl) rfl rfl rfl (cw_full _) (by decide) rfl rfl (fun hT67 => ?_)
          have f68 : cw_F (cw_sf h 30 5 (.int m)) 30 4 6 (.int x57) := cw_sf_ne f57 (Or.inr (by decide))
          have f69 : cw_F (cw_sf h 30 5 (.int m)) 30 4 5 (.int m) := cw_sf_same f49
          refine cw_n aj_d44 rfl rfl ?_
          refine cw_n aj_d44 rfl rfl ?_
          refine cw_p (i := 30) (t := 56) (c := 4) (k := 6) (v := .int p) (y := (.inl ((-2147483648), 2147483647))) htb aj_d44 rfl rfl hT67 (cw_s0 hB rfl) rfl rfl rfl (cw_full _) (by decide) rfl rfl (fun hT70 => ?_)
          have f71 : cw_F (cw_sf (cw_sf h 30 5 (.int m)) 30 6 (.int p)) 30 4 5 (.int m) := cw_sf_ne f69 (Or.inr (by decide))
          have f72 : cw_F (cw_sf (cw_sf h 30 5 (.int m)) 30 6 (.int p)) 30 4 6 (.int p) := cw_sf_same f68
          refine cw_Wr aj_d44 rfl rfl hT70 ?_ ?_
          · exact ⟨rfl, rfl, Or.inr rfl⟩
          · trivial
theorem cw_ff {h : aj_H} {m p q q' : Int32} (h1 : cw_F h 30 4 5 (.int q)) (h2 : cw_F h 30 4 6 (.int q')) : cw_F (cw_sf (cw_sf h 30 5 (.int m)) 30 6 (.int p)) 30 4 5 (.int m) ∧ cw_ex [30] (cw_o h) (cw_o (cw_sf (cw_sf h 30 5 (.int m)) 30 6 (.int p))) :=
  ⟨cw_sf_ne (cw_sf_same h1) (Or.inr (by decide)), cw_ex_tr (cw_ex_sf (by decide)) (cw_ex_sf (by decide))⟩
theorem cw_failI {h h' : aj_H} {m p q q' : Int32} (h1 : cw_F h 30 4 5 (.int q)) (h2 : cw_F h 30 4 6 (.int q')) (hm : m.toInt ≠ 0) (h0 : h' = h ∨ h' = cw_sf (cw_sf h 30 5 (.int m)) 30 6 (.int p)) (hI : cw_I X s h) : cw_I X s h' := by
  rcases h0 with rfl | rfl
  · exact hI
  · obtain ⟨k1, k2⟩ := cw_ff (m := m) (p := p) h1 h2
    refine ⟨hI.1, cw_wds_ex k2 (by decide) hI.2.1, cw_dis_ex k2 (by decide) hI.2.2.1, ?_, cw_HR_ex k2 (by decide) (by decide) hI.2.2.2.2⟩
    intro hf
    have hf := (cw_fo_F (by decide)).mp hf
    have := (cw_F_u hf k1).2
    cases this
    exact absurd rfl hm
theorem cw_failC0 (htb : ak_tbOK ak_C0 tb) : ak_CT ak_C0 (cw_I X) cw_kap tb 1 ap_c44 := by
  refine cw_CT rfl (fun d hd s h as hT hI hA _ => ?_)
  obtain ⟨v1, as, rfl, g1, hA⟩ := cw_gAc hA
  obtain ⟨v2, as, rfl, g2, hA⟩ := cw_gAc hA
  obtain ⟨v3, as, rfl, g3, hA⟩ := cw_gAc hA
  cases cw_gAn hA
  obtain rfl := cw_gu (i := 30) hI.1 g1 (by decide) (by decide) (by decide)
  obtain ⟨m, rfl, hm⟩ := ak_gi g2
  obtain ⟨p, rfl, -⟩ := ak_gi g3
  obtain ⟨w1, f1, k1⟩ := cw_tyF (i := 30) (t := 56) (c := 4) (k := 5) (y := .inl (-2147483648, 2147483647)) hT (cw_s0 hI.1 rfl) rfl rfl rfl
  obtain ⟨q1, rfl, -⟩ := ak_gi k1
  obtain ⟨w2, f2, k2⟩ := cw_tyF (i := 30) (t := 56) (c := 4) (k := 6) (y := .inl (-2147483648, 2147483647)) hT (cw_s0 hI.1 rfl) rfl rfl rfl
  obtain ⟨q2, rfl, -⟩ := ak_gi k2
  refine cw_mono (fun s' r h' hh => ?_) (cw_fail0 htb hT hI.1 hd m p)
  obtain ⟨rfl, -, hh⟩ := hh
  exact cw_failI f1 f2 (by have := hm.1; omega) hh hI
theorem cw_failC1 (htb : ak_tbOK ak_C1 tb) : ak_CT ak_C1 (cw_I X) cw_kap tb 1 ap_c44 := by
  refine cw_CT rfl (fun d hd s h as hT hI hA _ => ?_)
  obtain ⟨v1, as, rfl, g1, hA⟩ := cw_gAc hA
  obtain ⟨v2, as, rfl, g2, hA⟩ := cw_gAc hA
  obtain ⟨v3, as, rfl, g3, hA⟩ := cw_gAc hA
  cases cw_gAn hA
  obtain rfl := cw_gu (i := 30) hI.1 g1 (by decide) (by decide) (by decide)
  obtain ⟨m, rfl, hm⟩ := ak_gi g2
  obtain ⟨p, rfl, -⟩ := ak_gi g3
  obtain ⟨w1, f1, k1⟩ := cw_tyF (i := 30) (t := 56) (c := 4) (k := 5) (y := .inl (-2147483648, 2147483647)) hT (cw_s0 hI.1 rfl) rfl rfl rfl
  obtain ⟨q1, rfl, -⟩ := ak_gi k1
  obtain ⟨w2, f2, k2⟩ := cw_tyF (i := 30) (t := 56) (c := 4) (k := 6) (y := .inl (-2147483648, 2147483647)) hT (cw_s0 hI.1 rfl) rfl rfl rfl
  obtain ⟨q2, rfl, -⟩ := ak_gi k2
  refine cw_mono (fun s' r h' hh => ?_) (cw_fail1 htb hT hI.1 hd m p)
  obtain ⟨rfl, -, hh⟩ := hh
  exact cw_failI f1 f2 (by have := hm.1; omega) hh hI
theorem cw_failCW (htb : ak_tbOK ak_CW tb) : ak_CT ak_CW (cw_I X) cw_kap tb 1 ap_c44 := by
  refine cw_CT rfl (fun d hd s h as hT hI hA _ => ?_)
  obtain ⟨v1, as, rfl, g1, hA⟩ := cw_gAc hA
  obtain ⟨v2, as, rfl, g2, hA⟩ := cw_gAc hA
  obtain ⟨v3, as, rfl, g3, hA⟩ := cw_gAc hA
  cases cw_gAn hA
  obtain rfl := cw_gu (i := 30) hI.1 g1 (by decide) (by decide) (by decide)
  obtain ⟨m, rfl, hm⟩ := ak_gi g2
  obtain ⟨p, rfl, -⟩ := ak_gi g3
  obtain ⟨w1, f1, k1⟩ := cw_tyF (i := 30) (t := 56) (c := 4) (k := 5) (y := .inl (-2147483648, 2147483647)) hT (cw_s0 hI.1 rfl) rfl rfl rfl
  obtain ⟨q1, rfl, -⟩ := ak_gi k1
  obtain ⟨w2, f2, k2⟩ := cw_tyF (i := 30) (t := 56) (c := 4) (k := 6) (y := .inl (-2147483648, 2147483647)) hT (cw_s0 hI.1 rfl) rfl rfl rfl
  obtain ⟨q2, rfl, -⟩ := ak_gi k2
  refine cw_mono (fun s' r h' hh => ?_) (cw_failW htb hT hI.1 hd m p)
  obtain ⟨rfl, -, hh⟩ := hh
  exact cw_failI f1 f2 (by have := hm.1; omega) hh hI
/-- no notes -/
theorem cw_empty (htb : ak_tbOK ak_C0 tb) (hT : ak_Ty ak_C0 s h) (hB : cw_B s) (hd : 1 ≤ d)   : cw_K ak_C0 (fun s' r h' => s' = s ∧ r = none ∧ h' = cw_sf (cw_sf (cw_sf h 30 4 (.int 0)) 30 5 (.int 0)) 30 6 (.int 0)) tb d ap_c31 [.ref (52 + 30)] s h := by
  obtain ⟨d, rfl⟩ : ∃ e, d = e + 1 := ⟨d - 1, by omega⟩
  refine cw_m (con := ap_c31) aj_m31_at (Nat.le_of_ble_eq_true rfl) ?_
  show cw_W _ _ _ _ _ _ _ _ _ _ 0 [(0, .ref (52 + 30))] []
  refine cw_n aj_d31 rfl rfl ?_
  refine cw_n aj_d31 rfl rfl ?_
  refine cw_p (i := 30) (t := 56) (c := 4) (k := 4) (v := .int (Int32.ofInt 0)) (y := (.inl (0, 2500))) htb aj_d31 rfl rfl hT (cw_s0 hB rfl) rfl rfl rfl (cw_gw (a := (0 : Int)) rfl (by omega) (by omega)) (by decide) rfl rfl (fun hT73 => ?_)
  obtain ⟨v74, f74, g74⟩ := cw_tyF (i := 30) (t := 56) (c := 4) (k := 4) (y := (.inl (0, 2500))) hT (cw_s0 hB rfl) rfl rfl rfl
  obtain ⟨x74, rfl, b74⟩ := ak_gi g74
  dsimp only [ak_win] at b74
  have f75 : cw_F (cw_sf h 30 4 (.int (Int32.ofInt 0))) 30 4 4 (.int (Int32.ofInt 0)) := cw_sf_same f74
  refine cw_n aj_d31 rfl rfl ?_
  refine cw_n aj_d31 rfl rfl ?_
  refine cw_p (i := 30) (t := 56) (c := 4) (k := 5) (v := .int (Int32.ofInt 0)) (y := (.inl ((-2147483648), 2147483647))) htb aj_d31 rfl rfl hT73 (cw_s0 hB rfl) rfl rfl rfl (cw_full _) (by decide) rfl rfl (fun hT76 => ?_)
  obtain ⟨v77, f77, g77⟩ := cw_tyF (i := 30) (t := 56) (c := 4) (k := 5) (y := (.inl ((-2147483648), 2147483647))) hT73 (cw_s0 hB rfl) rfl rfl rfl
  obtain ⟨x77, rfl, b77⟩ := ak_gi g77
  dsimp only [ak_win] at b77
  have f78 : cw_F (cw_sf (cw_sf h 30 4 (.int (Int32.ofInt 0))) 30 5 (.int (Int32.ofInt 0))) 30 4 4 (.int (Int32.ofInt 0)) := cw_sf_ne f75 (Or.inr (by decide))
  have f79 : cw_F (cw_sf (cw_sf h 30 4 (.int (Int32.ofInt 0))) 30 5 (.int (Int32.ofInt 0))) 30 4 5 (.int (Int32.ofInt 0)) := cw_sf_same f77
  refine cw_n aj_d31 rfl rfl ?_
  refine cw_n aj_d31 rfl rfl ?_
  refine cw_p (i := 30) (t := 56) (c := 4) (k := 6) (v := .int (Int32.ofInt 0)) (y := (.inl ((-2147483648), 2147483647))) htb aj_d31 rfl rfl hT76 (cw_s0 hB rfl) rfl rfl rfl (cw_full _) (by decide) rfl rfl (fun hT80 => ?_)
  obtain ⟨v81, f81, g81⟩ := cw_tyF (i := 30) (t := 56) (c := 4) (k := 6) (y := (.inl ((-2147483648), 2147483647))) hT76 (cw_s0 hB rfl) rfl rfl rfl
  obtain ⟨x81, rfl, b81⟩ := ak_gi g81
  dsimp only [ak_win] at b81
  have f82 : cw_F (cw_sf (cw_sf (cw_sf h 30 4 (.int (Int32.ofInt 0))) 30 5 (.int (Int32.ofInt 0))) 30 6 (.int (Int32.ofInt 0))) 30 4 4 (.int (Int32.ofInt 0)) := cw_sf_ne f78 (Or.inr (by decide))
  have f83 : cw_F (cw_sf (cw_sf (cw_sf h 30 4 (.int (Int32.ofInt 0))) 30 5 (.int (Int32.ofInt 0))) 30 6 (.int (Int32.ofInt 0))) 30 4 5 (.int (Int32.ofInt 0)) := cw_sf_ne f79 (Or.inr (by decide))
  have f84 : cw_F (cw_sf (cw_sf (cw_sf h 30 4 (.int (Int32.ofInt 0))) 30 5 (.int (Int32.ofInt 0))) 30 6 (.int (Int32.ofInt 0))) 30 4 6 (.int (Int32.ofInt 0)) := cw_sf_same f81
  refine cw_Wr aj_d31 rfl rfl hT80 ?_ ?_
  · exact ⟨rfl, rfl, rfl⟩
  · trivial
theorem cw_emptyC (htb : ak_tbOK ak_C0 tb) : ak_CT ak_C0 (cw_I X) cw_kap tb 1 ap_c31 := by
  refine cw_CT rfl (fun d hd s h as hT hI hA _ => ?_)
  obtain ⟨v1, as, rfl, g1, hA⟩ := cw_gAc hA
  cases cw_gAn hA
  obtain rfl := cw_gu (i := 30) hI.1 g1 (by decide) (by decide) (by decide)
  obtain ⟨w1, f1, k1⟩ := cw_tyF (i := 30) (t := 56) (c := 4) (k := 4) (y := .inl (0, 2500)) hT (cw_s0 hI.1 rfl) rfl rfl rfl
  obtain ⟨n0, x0, a0, n1, n2, p0⟩ := cw_tyA (i := 31) (t := 79) (kd := 0) (n1 := 2500) (n2 := 2500) (y := .inl (-2147483648, 2147483647)) hT (cw_s0 hI.1 rfl) rfl
  obtain rfl : n0 = 2500 := Nat.le_antisymm n2 n1
  obtain ⟨f, rfl, -⟩ := cw_xi p0
  refine cw_mono (fun s' r h' hh => ?_) (cw_empty htb hT hI.1 hd)
  obtain ⟨rfl, -, rfl⟩ := hh
  have k2 : cw_ex [30] (cw_o h) (cw_o (cw_sf (cw_sf (cw_sf h 30 4 (.int 0)) 30 5 (.int 0)) 30 6 (.int 0))) := cw_ex_tr (cw_ex_tr (cw_ex_sf (by decide)) (cw_ex_sf (by decide))) (cw_ex_sf (by decide))
  refine ⟨hI.1, cw_wds_ex k2 (by decide) hI.2.1, cw_dis_ex k2 (by decide) hI.2.2.1, ?_, cw_HR_ex k2 (by decide) (by decide) hI.2.2.2.2⟩
  intro _
  refine ⟨f, 0, ?_, (cw_fo_F (by decide)).mpr (cw_sf_ne (cw_sf_ne (cw_sf_same f1) (Or.inr (by decide))) (Or.inr (by decide))), ?_⟩
  · exact (cw_oa_A (by decide)).mpr (cw_sf_A (cw_sf_A (cw_sf_A a0)))
  · show (some 0 : Option Nat) ≠ none
    exact fun z => by cases z
theorem cw_neg32 {y : Int64} (h1 : 0 ≤ y.toInt32.toInt) (h2 : y.toInt32.toInt ≤ 2139095039) : -2139095039 ≤ (-y).toInt32.toInt ∧ (-y).toInt32.toInt ≤ 0 := by
  rw [Int64.toInt32_neg, Int32.toInt_neg, ak_bm (by omega) (by omega)]
  omega
/-- the value of an INT -/
theorem cw_intAt (htb : ak_tbOK ak_C1 tb) (hT : ak_Ty ak_C1 s h) (hB : cw_B s) (hd : 1 ≤ d) (m : Int32) (hm : -1000 ≤ m.toInt ∧ m.toInt ≤ 1000000) {fw : Nat → Int64} (aw : cw_A h 29 1 1002 (.inr (.inl fw))) (hw : ∀ j, j < 1002 → 0 ≤ (fw j).toInt32.toInt ∧ (fw j).toInt32.toInt ≤ 2139095039) : cw_K ak_C1 (fun s' r h' => s' = s ∧ h' = h) tb d ap_c83 [.ref (52 + 26), .int m] s h := by
  obtain ⟨d, rfl⟩ : ∃ e, d = e + 1 := ⟨d - 1, by omega⟩
  refine cw_m (con := ap_c83) aj_m83_at (Nat.le_of_ble_eq_true rfl) ?_
  show cw_W _ _ _ _ _ _ _ _ _ _ 0 [(0, .ref (52 + 26)), (1, .int m)] []
  refine cw_n aj_d83 rfl rfl ?_
  refine cw_z (tgt := 26) aj_d83 rfl rfl (fun q85 => ?_) (fun q85 => ?_)
  · have q85 : m.toInt < (0 : Int) := aw_t_lt (a := m.toInt) (b := (0 : Int)) rfl rfl q85
    refine cw_n aj_d83 rfl rfl ?_
    refine cw_Wr aj_d83 rfl rfl hT ?_ ?_
    · exact ⟨rfl, rfl⟩
    · exact cw_gw (s := s) (a := 0) rfl (by decide) (by decide)
  · have q85 : m.toInt ≥ (0 : Int) := aw_t_lt (a := m.toInt) (b := (0 : Int)) rfl rfl q85
    refine cw_n aj_d83 rfl rfl ?_
    refine cw_n aj_d83 rfl rfl ?_
    refine cw_add aj_d83 rfl (a := m.toInt) (b := (1 : Int)) rfl rfl (by omega) (by omega) (fun x86 ex86 => ?_)
    refine cw_n aj_d83 rfl rfl ?_
    obtain ⟨v87, f87, g87⟩ := cw_tyF (i := 26) (t := 60) (c := 8) (k := 0) (y := (.inr (some ([76], false)))) hT (cw_s0 hB rfl) rfl rfl rfl
    obtain rfl := cw_gu (i := 27) hB g87 (by decide) (by decide) (by decide)
    refine cw_g (i := 26) (v := .ref (52 + 27)) htb.1 aj_d83 rfl rfl (by decide) f87 ?_
    obtain ⟨n89, z89, a89, p89l, p89r, p89⟩ := cw_tyA (i := 27) (t := 76) (kd := 0) (n1 := 1002) (n2 := 1002) (y := (.inl ((-2147483648), 2147483647))) hT (cw_s0 hB rfl) rfl
    obtain rfl : n89 = 1002 := Nat.le_antisymm p89r p89l
    obtain ⟨fn89, rfl, p89c⟩ := cw_xi p89
    refine cw_alen (i := 27) htb.1 aj_d83 rfl a89 (by decide) (by omega) (fun x88 ex88 => ?_)
    refine cw_c (tgt := 26) aj_d83 rfl rfl (fun q90 => ?_) (fun q90 => ?_)
    · have q90 : x86.toInt ≥ (1002 : Int) := aw_t_ge (a := x86.toInt) (b := (1002 : Int)) rfl ex88 q90
      refine cw_n aj_d83 rfl rfl ?_
      refine cw_Wr aj_d83 rfl rfl hT ?_ ?_
      · exact ⟨rfl, rfl⟩
      · exact cw_gw (s := s) (a := 0) rfl (by decide) (by decide)
    · have q90 : x86.toInt < (1002 : Int) := aw_t_ge (a := x86.toInt) (b := (1002 : Int)) rfl ex88 q90
      refine cw_n aj_d83 rfl rfl ?_
      refine cw_n aj_d83 rfl rfl ?_
      refine cw_add aj_d83 rfl (a := m.toInt) (b := (1 : Int)) rfl rfl (by omega) (by omega) (fun x91 ex91 => ?_)
      refine cw_n aj_d83 rfl rfl ?_
      obtain ⟨v92, f92, g92⟩ := cw_tyF (i := 26) (t := 60) (c := 8) (k := 2) (y := (.inr (some ([78], false)))) hT (cw_s0 hB rfl) rfl rfl rfl
      obtain rfl := cw_gu (i := 29) hB g92 (by decide) (by decide) (by decide)
      refine cw_g (i := 26) (v := .ref (52 + 29)) htb.1 aj_d83 rfl rfl (by decide) f92 ?_
      refine cw_alen (i := 29) htb.1 aj_d83 rfl aw (by decide) (by omega) (fun x93 ex93 => ?_)
      refine cw_c (tgt := 28) aj_d83 rfl rfl (fun q94 => ?_) (fun q94 => ?_)
      · have q94 : x91.toInt < (1002 : Int) := aw_t_lt (a := x91.toInt) (b := (1002 : Int)) rfl ex93 q94
        refine cw_n aj_d83 rfl rfl ?_
        refine cw_g (i := 26) (v := .ref (52 + 27)) htb.1 aj_d83 rfl rfl (by decide) f87 ?_
        refine cw_n aj_d83 rfl rfl ?_
        refine cw_ld (i := 27) htb.1 aj_d83 (Or.inl ⟨rfl, rfl⟩) rfl a89 (a := m.toInt) rfl (by omega) (by omega) (fun x95 ex95 => ?_)
        refine cw_n aj_d83 rfl rfl ?_
        refine cw_c (tgt := 52) aj_d83 rfl rfl (fun q96 => ?_) (fun q96 => ?_)
        · have q96 : x95.toInt ≠ (45 : Int) := aw_t_ne (a := x95.toInt) (b := (45 : Int)) rfl rfl q96
          refine cw_n aj_d83 rfl rfl ?_
          refine cw_g (i := 26) (v := .ref (52 + 29)) htb.1 aj_d83 rfl rfl (by decide) f92 ?_
          refine cw_n aj_d83 rfl rfl ?_
          refine cw_ldl (i := 29) htb.1 aj_d83 rfl aw (a := m.toInt) rfl (by omega) (by omega) (fun y97 ey97 => ?_)
          refine cw_any aj_d83 rfl rfl (fun x98 ex98 => ?_)
          refine cw_Wr aj_d83 rfl rfl hT ?_ ?_
          · exact ⟨rfl, rfl⟩
          · have hh := hw ((m.toInt).toNat) (by omega)
            rw [← ey97] at hh
            rw [← ex98] at hh
            exact cw_gw (s := s) (a := _) rfl (by omega) (by omega)
        · have q96 : x95.toInt = (45 : Int) := aw_t_ne (a := x95.toInt) (b := (45 : Int)) rfl rfl q96
          refine cw_n aj_d83 rfl rfl ?_
          refine cw_g (i := 26) (v := .ref (52 + 29)) htb.1 aj_d83 rfl rfl (by decide) f92 ?_
          refine cw_n aj_d83 rfl rfl ?_
          refine cw_n aj_d83 rfl rfl ?_
          refine cw_add aj_d83 rfl (a := m.toInt) (b := (1 : Int)) rfl rfl (by omega) (by omega) (fun x99 ex99 => ?_)
          refine cw_ldl (i := 29) htb.1 aj_d83 rfl aw (a := x99.toInt) rfl (by omega) (by omega) (fun y100 ey100 => ?_)
          refine cw_anyl aj_d83 rfl rfl (fun y101 ey101 => ?_)
          refine cw_any aj_d83 rfl rfl (fun x102 ex102 => ?_)
          refine cw_n aj_d83 rfl rfl ?_
          refine cw_Wr aj_d83 rfl rfl hT ?_ ?_
          · exact ⟨rfl, rfl⟩
          · have hh := hw ((x99.toInt).toNat) (by omega)
            rw [← ey100] at hh
            have hh := cw_neg32 hh.1 hh.2
            rw [← ey101, ← ex102] at hh
            exact cw_gw (s := s) (a := _) rfl (by omega) (by omega)
      · have q94 : x91.toInt ≥ (1002 : Int) := aw_t_lt (a := x91.toInt) (b := (1002 : Int)) rfl ex93 q94
        refine cw_n aj_d83 rfl rfl ?_
        refine cw_Wr aj_d83 rfl rfl hT ?_ ?_
        · exact ⟨rfl, rfl⟩
        · exact cw_gw (s := s) (a := 0) rfl (by decide) (by decide)
theorem cw_intAtC (htb : ak_tbOK ak_C1 tb) : ak_CT ak_C1 (cw_I X) cw_kap tb 1 ap_c83 := by
  refine cw_CT rfl (fun d hd s h as hT hI hA _ => ?_)
  obtain ⟨v1, as, rfl, g1, hA⟩ := cw_gAc hA
  obtain ⟨v2, as, rfl, g2, hA⟩ := cw_gAc hA
  cases cw_gAn hA
  obtain rfl := cw_gu (i := 26) hI.1 g1 (by decide) (by decide) (by decide)
  obtain ⟨m, rfl, hm⟩ := ak_gi g2
  obtain ⟨fw, w1, w2⟩ := hI.2.1
  refine cw_mono (fun s' r h' hh => ?_) (cw_intAt htb hT hI.1 hd m hm ((cw_oa_A (by decide)).mp w1) w2)
  obtain ⟨rfl, rfl⟩ := hh
  exact hI
end CW60
