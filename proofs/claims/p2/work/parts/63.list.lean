/-! LISTS OF THE CLASS BY HAND (printed by wip/p2/cwalk/g63.py) -/
section CW63
variable {tb : aj_T} {s : List Nat} {h : aj_H} {d : Nat} {X : Option Nat}
theorem cw_addCol (htb : ak_tbOK ak_C1 tb) (hT : ak_Ty ak_C1 s h) (hB : cw_B s) (hd : 1 ≤ d) (m : Int32) (w : Int64)  : cw_K ak_C1 (fun s' r h' => s' = s ∧ cw_o h' = cw_o h) tb d ap_c67 [.ref (52 + 39), .int m, .long w] s h := by
  obtain ⟨d, rfl⟩ : ∃ e, d = e + 1 := ⟨d - 1, by omega⟩
  refine cw_m (con := ap_c67) aj_m67_at (Nat.le_of_ble_eq_true rfl) ?_
  show cw_W _ _ _ _ _ _ _ _ _ _ 0 [(0, .ref (52 + 39)), (1, .int m), (2, .long w)] []
  refine cw_n aj_d67 rfl rfl ?_
  refine cw_z (tgt := 24) aj_d67 rfl rfl (fun q1 => ?_) (fun q1 => ?_)
  · have q1 : m.toInt < (0 : Int) := aw_t_lt (a := m.toInt) (b := (0 : Int)) rfl rfl q1
    refine cw_Wr aj_d67 rfl rfl hT ?_ ?_
    · exact ⟨rfl, rfl⟩
    · exact trivial
  · have q1 : m.toInt ≥ (0 : Int) := aw_t_lt (a := m.toInt) (b := (0 : Int)) rfl rfl q1
    refine cw_n aj_d67 rfl rfl ?_
    refine cw_n aj_d67 rfl rfl ?_
    obtain ⟨v2, f2, g2⟩ := cw_tyF (i := 39) (t := 52) (c := 0) (k := 4) (y := (.inr (some ([87], false)))) hT (cw_s0 hB rfl) rfl rfl rfl
    obtain rfl := cw_gu (i := 41) hB g2 (by decide) (by decide) (by decide)
    refine cw_g (i := 39) (v := .ref (52 + 41)) htb.1 aj_d67 rfl rfl (by decide) f2 ?_
    obtain ⟨n4, z4, a4, p4l, p4r, p4⟩ := cw_tyA (i := 41) (t := 87) (kd := 0) (n1 := 20) (n2 := 20) (y := (.inl (0, 6))) hT (cw_s0 hB rfl) rfl
    obtain rfl : n4 = 20 := Nat.le_antisymm p4r p4l
    obtain ⟨fn4, rfl, p4c⟩ := cw_xi p4
    refine cw_alen (i := 41) htb.1 aj_d67 rfl a4 (by decide) (by omega) (fun x3 ex3 => ?_)
    refine cw_c (tgt := 24) aj_d67 rfl rfl (fun q5 => ?_) (fun q5 => ?_)
    · have q5 : m.toInt ≥ (20 : Int) := aw_t_ge (a := m.toInt) (b := (20 : Int)) rfl ex3 q5
      refine cw_Wr aj_d67 rfl rfl hT ?_ ?_
      · exact ⟨rfl, rfl⟩
      · exact trivial
    · have q5 : m.toInt < (20 : Int) := aw_t_ge (a := m.toInt) (b := (20 : Int)) rfl ex3 q5
      refine cw_n aj_d67 rfl rfl ?_
      refine cw_g (i := 39) (v := .ref (52 + 41)) htb.1 aj_d67 rfl rfl (by decide) f2 ?_
      refine cw_n aj_d67 rfl rfl ?_
      refine cw_ld (i := 41) htb.1 aj_d67 (Or.inl ⟨rfl, rfl⟩) rfl a4 (a := m.toInt) rfl (by omega) (by omega) (fun x6 ex6 => ?_)
      have b6 : 0 ≤ x6.toInt ∧ x6.toInt ≤ 6 := by
        rw [ex6]
        exact p4c _ (by omega)
      refine cw_n aj_d67 rfl rfl ?_
      refine cw_c (tgt := 25) aj_d67 rfl rfl (fun q7 => ?_) (fun q7 => ?_)
      · have q7 : x6.toInt < (6 : Int) := aw_t_lt (a := x6.toInt) (b := (6 : Int)) rfl rfl q7
        refine cw_n aj_d67 rfl rfl ?_
        refine cw_n aj_d67 rfl rfl ?_
        refine cw_mul aj_d67 rfl (a := m.toInt) (b := (6 : Int)) rfl rfl (by omega) (by omega) (fun x8 ex8 => ?_)
        refine cw_n aj_d67 rfl rfl ?_
        refine cw_g (i := 39) (v := .ref (52 + 41)) htb.1 aj_d67 rfl rfl (by decide) f2 ?_
        refine cw_n aj_d67 rfl rfl ?_
        refine cw_ld (i := 41) htb.1 aj_d67 (Or.inl ⟨rfl, rfl⟩) rfl a4 (a := m.toInt) rfl (by omega) (by omega) (fun x9 ex9 => ?_)
        have b9 : 0 ≤ x9.toInt ∧ x9.toInt ≤ 6 := by
          rw [ex9]
          exact p4c _ (by omega)
        have hzx9 : x9.toInt = x6.toInt := by rw [ex9, ex6]
        refine cw_add aj_d67 rfl (a := x8.toInt) (b := x9.toInt) rfl rfl (by omega) (by omega) (fun x10 ex10 => ?_)
        refine cw_n aj_d67 rfl rfl ?_
        show cw_W _ _ _ _ _ _ _ _ _ _ 38 [(4, .int x10), (0, .ref (52 + 39)), (1, .int m), (2, .long w)] []
        refine cw_n aj_d67 rfl rfl ?_
        refine cw_n aj_d67 rfl rfl ?_
        obtain ⟨v11, f11, g11⟩ := cw_tyF (i := 39) (t := 52) (c := 0) (k := 3) (y := (.inr (some ([86], false)))) hT (cw_s0 hB rfl) rfl rfl rfl
        obtain rfl := cw_gu (i := 40) hB g11 (by decide) (by decide) (by decide)
        refine cw_g (i := 39) (v := .ref (52 + 40)) htb.1 aj_d67 rfl rfl (by decide) f11 ?_
        obtain ⟨n13, z13, a13, p13l, p13r, p13⟩ := cw_tyA (i := 40) (t := 86) (kd := 1) (n1 := 120) (n2 := 120) (y := (.inr none)) hT (cw_s0 hB rfl) rfl
        obtain rfl : n13 = 120 := Nat.le_antisymm p13r p13l
        obtain ⟨fn13, rfl, p13c⟩ := cw_xl p13
        refine cw_alen (i := 40) htb.1 aj_d67 rfl a13 (by decide) (by omega) (fun x12 ex12 => ?_)
        refine cw_c (tgt := 66) aj_d67 rfl rfl (fun q14 => ?_) (fun q14 => ?_)
        · have q14 : x10.toInt ≥ (120 : Int) := aw_t_ge (a := x10.toInt) (b := (120 : Int)) rfl ex12 q14
          refine cw_Wr aj_d67 rfl rfl hT ?_ ?_
          · exact ⟨rfl, rfl⟩
          · exact trivial
        · have q14 : x10.toInt < (120 : Int) := aw_t_ge (a := x10.toInt) (b := (120 : Int)) rfl ex12 q14
          refine cw_n aj_d67 rfl rfl ?_
          refine cw_g (i := 39) (v := .ref (52 + 40)) htb.1 aj_d67 rfl rfl (by decide) f11 ?_
          refine cw_n aj_d67 rfl rfl ?_
          refine cw_n aj_d67 rfl rfl ?_
          refine cw_stl (i := 40) htb aj_d67 rfl a13 hT (cw_s0 hB rfl) rfl (by decide) (a := x10.toInt) rfl (by omega) (by omega) (fun hT15 => ?_)
          have f16 : cw_F (cw_sa h 40 (.inr (.inl (vp_updL fn13 (x10.toInt).toNat w)))) 39 0 4 (.ref (52 + 41)) := cw_sa_F f2
          have f17 : cw_F (cw_sa h 40 (.inr (.inl (vp_updL fn13 (x10.toInt).toNat w)))) 39 0 3 (.ref (52 + 40)) := cw_sa_F f11
          have a18 : cw_A (cw_sa h 40 (.inr (.inl (vp_updL fn13 (x10.toInt).toNat w)))) 41 0 20 (.inl fn4) := cw_sa_ne a4 (by decide)
          have a19 : cw_A (cw_sa h 40 (.inr (.inl (vp_updL fn13 (x10.toInt).toNat w)))) 40 1 120 (.inr (.inl (vp_updL fn13 (x10.toInt).toNat w))) := cw_sa_same a13
          refine cw_n aj_d67 rfl rfl ?_
          refine cw_g (i := 39) (v := .ref (52 + 41)) htb.1 aj_d67 rfl rfl (by decide) f16 ?_
          refine cw_n aj_d67 rfl rfl ?_
          refine cw_n aj_d67 rfl rfl ?_
          refine cw_ld (i := 41) htb.1 aj_d67 (Or.inl ⟨rfl, rfl⟩) rfl a18 (a := m.toInt) rfl (by omega) (by omega) (fun x20 ex20 => ?_)
          have b20 : 0 ≤ x20.toInt ∧ x20.toInt ≤ 6 := by
            rw [ex20]
            exact p4c _ (by omega)
          have hzx20 : x20.toInt = x6.toInt := by rw [ex20, ex6]
          refine cw_n aj_d67 rfl rfl ?_
          refine cw_add aj_d67 rfl (a := x20.toInt) (b := (1 : Int)) rfl rfl (by omega) (by omega) (fun x21 ex21 => ?_)
          refine cw_st (i := 41) htb aj_d67 (Or.inl ⟨rfl, rfl⟩) rfl a18 hT15 (cw_s0 hB rfl) rfl (by decide) (a := m.toInt) rfl (by omega) (by omega) (cw_gw2 (a := x21.toInt) rfl (by omega) (by omega)) (fun hT22 => ?_)
          have f23 : cw_F (cw_sa (cw_sa h 40 (.inr (.inl (vp_updL fn13 (x10.toInt).toNat w)))) 41 (.inl (upd fn4 (m.toInt).toNat (aj_nar 0 x21)))) 39 0 4 (.ref (52 + 41)) := cw_sa_F f16
          have f24 : cw_F (cw_sa (cw_sa h 40 (.inr (.inl (vp_updL fn13 (x10.toInt).toNat w)))) 41 (.inl (upd fn4 (m.toInt).toNat (aj_nar 0 x21)))) 39 0 3 (.ref (52 + 40)) := cw_sa_F f17
          have a25 : cw_A (cw_sa (cw_sa h 40 (.inr (.inl (vp_updL fn13 (x10.toInt).toNat w)))) 41 (.inl (upd fn4 (m.toInt).toNat (aj_nar 0 x21)))) 40 1 120 (.inr (.inl (vp_updL fn13 (x10.toInt).toNat w))) := cw_sa_ne a19 (by decide)
          have a26 : cw_A (cw_sa (cw_sa h 40 (.inr (.inl (vp_updL fn13 (x10.toInt).toNat w)))) 41 (.inl (upd fn4 (m.toInt).toNat (aj_nar 0 x21)))) 41 0 20 (.inl (upd fn4 (m.toInt).toNat (aj_nar 0 x21))) := cw_sa_same a18
          refine cw_Wr aj_d67 rfl rfl hT22 ?_ ?_
          · exact ⟨rfl, ((cw_o_sa a18 (by decide)).trans ((cw_o_sa a13 (by decide)).trans rfl))⟩
          · exact trivial
      · have q7 : x6.toInt ≥ (6 : Int) := aw_t_lt (a := x6.toInt) (b := (6 : Int)) rfl rfl q7
        refine cw_Wr aj_d67 rfl rfl hT ?_ ?_
        · exact ⟨rfl, rfl⟩
        · exact trivial
theorem cw_addColC (htb : ak_tbOK ak_C1 tb) : ak_CT ak_C1 (cw_I X) cw_kap tb 1 ap_c67 := by
  refine cw_CT rfl (fun d hd s h as hT hI hA _ => ?_)
  obtain ⟨v0, as, rfl, g0, hA⟩ := cw_gAc hA
  obtain ⟨v1, as, rfl, g1, hA⟩ := cw_gAc hA
  obtain ⟨v2, as, rfl, g2, hA⟩ := cw_gAc hA
  cases cw_gAn hA
  obtain rfl := cw_gu (i := 39) hI.1 g0 (by decide) (by decide) (by decide)
  obtain ⟨a1, rfl, ha1⟩ := ak_gi g1
  dsimp only [ak_win] at ha1
  obtain ⟨a2, rfl⟩ := cw_gl g2
  refine cw_mono (fun s' r h' hh => ?_) (cw_addCol htb hT hI.1 hd a1 a2)
  obtain ⟨rfl, ho⟩ := hh
  exact cw_I_eq ho hI
theorem cw_ref (htb : ak_tbOK ak_C0 tb) (hT : ak_Ty ak_C0 s h) (hB : cw_B s) (hd : 1 ≤ d) (m : Int32)  : cw_K ak_C0 (fun s' r h' => s' = s ∧ cw_o h' = cw_o h) tb d ap_c181 [.ref (52 + 55), .int m] s h := by
  obtain ⟨d, rfl⟩ : ∃ e, d = e + 1 := ⟨d - 1, by omega⟩
  refine cw_m (con := ap_c181) aj_m181_at (Nat.le_of_ble_eq_true rfl) ?_
  show cw_W _ _ _ _ _ _ _ _ _ _ 0 [(0, .ref (52 + 55)), (1, .int m)] []
  refine cw_n aj_d181 rfl rfl ?_
  refine cw_z (tgt := 30) aj_d181 rfl rfl (fun q27 => ?_) (fun q27 => ?_)
  · have q27 : m.toInt < (0 : Int) := aw_t_lt (a := m.toInt) (b := (0 : Int)) rfl rfl q27
    refine cw_n aj_d181 rfl rfl ?_
    refine cw_Wr aj_d181 rfl rfl hT ?_ ?_
    · exact ⟨rfl, rfl⟩
    · exact cw_full _
  · have q27 : m.toInt ≥ (0 : Int) := aw_t_lt (a := m.toInt) (b := (0 : Int)) rfl rfl q27
    refine cw_n aj_d181 rfl rfl ?_
    refine cw_n aj_d181 rfl rfl ?_
    obtain ⟨v28, f28, g28⟩ := cw_tyF (i := 55) (t := 54) (c := 2) (k := 3) (y := (.inl ((-2147483648), 2147483647))) hT (cw_s0 hB rfl) rfl rfl rfl
    obtain ⟨x28, rfl, b28⟩ := ak_gi g28
    dsimp only [ak_win] at b28
    refine cw_g (i := 55) (v := .int x28) htb.1 aj_d181 rfl rfl (by decide) f28 ?_
    refine cw_c (tgt := 30) aj_d181 rfl rfl (fun q29 => ?_) (fun q29 => ?_)
    · have q29 : m.toInt ≥ x28.toInt := aw_t_ge (a := m.toInt) (b := x28.toInt) rfl rfl q29
      refine cw_n aj_d181 rfl rfl ?_
      refine cw_Wr aj_d181 rfl rfl hT ?_ ?_
      · exact ⟨rfl, rfl⟩
      · exact cw_full _
    · have q29 : m.toInt < x28.toInt := aw_t_ge (a := m.toInt) (b := x28.toInt) rfl rfl q29
      refine cw_n aj_d181 rfl rfl ?_
      refine cw_n aj_d181 rfl rfl ?_
      obtain ⟨v30, f30, g30⟩ := cw_tyF (i := 55) (t := 54) (c := 2) (k := 5) (y := (.inr (some ([98], false)))) hT (cw_s0 hB rfl) rfl rfl rfl
      obtain ⟨i30, rfl, q30⟩ := cw_gr g30 (by decide)
      refine cw_g (i := 55) (v := .ref (52 + i30)) htb.1 aj_d181 rfl rfl (by decide) f30 ?_
      obtain ⟨n32, z32, a32, p32l, p32r, p32⟩ := cw_tyA (i := i30) (t := 98) (kd := 0) (n1 := 64) (n2 := 65536) (y := (.inl ((-2147483648), 2147483647))) hT q30 rfl
      obtain ⟨fn32, rfl, p32c⟩ := cw_xi p32
      refine cw_alen (i := i30) htb.1 aj_d181 rfl a32 (by decide) (by omega) (fun x31 ex31 => ?_)
      refine cw_c (tgt := 30) aj_d181 rfl rfl (fun q33 => ?_) (fun q33 => ?_)
      · have q33 : m.toInt ≥ (n32 : Int) := aw_t_ge (a := m.toInt) (b := (n32 : Int)) rfl ex31 q33
        refine cw_n aj_d181 rfl rfl ?_
        refine cw_Wr aj_d181 rfl rfl hT ?_ ?_
        · exact ⟨rfl, rfl⟩
        · exact cw_full _
      · have q33 : m.toInt < (n32 : Int) := aw_t_ge (a := m.toInt) (b := (n32 : Int)) rfl ex31 q33
        refine cw_n aj_d181 rfl rfl ?_
        refine cw_g (i := 55) (v := .ref (52 + i30)) htb.1 aj_d181 rfl rfl (by decide) f30 ?_
        refine cw_n aj_d181 rfl rfl ?_
        refine cw_ld (i := i30) htb.1 aj_d181 (Or.inl ⟨rfl, rfl⟩) rfl a32 (a := m.toInt) rfl (by omega) (by omega) (fun x34 ex34 => ?_)
        refine cw_n aj_d181 rfl rfl ?_
        refine cw_Wr aj_d181 rfl rfl hT ?_ ?_
        · exact ⟨rfl, rfl⟩
        · exact cw_full _
theorem cw_refC (htb : ak_tbOK ak_C0 tb) : ak_CT ak_C0 (cw_I X) cw_kap tb 1 ap_c181 := by
  refine cw_CT rfl (fun d hd s h as hT hI hA _ => ?_)
  obtain ⟨v0, as, rfl, g0, hA⟩ := cw_gAc hA
  obtain ⟨v1, as, rfl, g1, hA⟩ := cw_gAc hA
  cases cw_gAn hA
  obtain rfl := cw_gu (i := 55) hI.1 g0 (by decide) (by decide) (by decide)
  obtain ⟨a1, rfl, ha1⟩ := ak_gi g1
  dsimp only [ak_win] at ha1
  refine cw_mono (fun s' r h' hh => ?_) (cw_ref htb hT hI.1 hd a1)
  obtain ⟨rfl, ho⟩ := hh
  exact cw_I_eq ho hI
theorem cw_putl (htb : ak_tbOK ak_C0 tb) (hT : ak_Ty ak_C0 s h) (hB : cw_B s) (hd : 1 ≤ d) {i : Nat} (qi : s[i]? = some 98) (m n : Int32)  : cw_K ak_C0 (fun s' r h' => s' = s ∧ cw_o h' = cw_o h) tb d ap_c178 [.ref (52 + i), .int m, .int n] s h := by
  obtain ⟨d, rfl⟩ : ∃ e, d = e + 1 := ⟨d - 1, by omega⟩
  refine cw_m (con := ap_c178) aj_m178_at (Nat.le_of_ble_eq_true rfl) ?_
  show cw_W _ _ _ _ _ _ _ _ _ _ 0 [(0, .ref (52 + i)), (1, .int m), (2, .int n)] []
  refine cw_n aj_d178 rfl rfl ?_
  refine cw_z (tgt := 14) aj_d178 rfl rfl (fun q35 => ?_) (fun q35 => ?_)
  · have q35 : m.toInt < (0 : Int) := aw_t_lt (a := m.toInt) (b := (0 : Int)) rfl rfl q35
    refine cw_Wr aj_d178 rfl rfl hT ?_ ?_
    · exact ⟨rfl, rfl⟩
    · exact trivial
  · have q35 : m.toInt ≥ (0 : Int) := aw_t_lt (a := m.toInt) (b := (0 : Int)) rfl rfl q35
    refine cw_n aj_d178 rfl rfl ?_
    refine cw_n aj_d178 rfl rfl ?_
    obtain ⟨n37, z37, a37, p37l, p37r, p37⟩ := cw_tyA (i := i) (t := 98) (kd := 0) (n1 := 64) (n2 := 65536) (y := (.inl ((-2147483648), 2147483647))) hT qi rfl
    obtain ⟨fn37, rfl, p37c⟩ := cw_xi p37
    refine cw_alen (i := i) htb.1 aj_d178 rfl a37 (by decide) (by omega) (fun x36 ex36 => ?_)
    refine cw_c (tgt := 14) aj_d178 rfl rfl (fun q38 => ?_) (fun q38 => ?_)
    · have q38 : m.toInt ≥ (n37 : Int) := aw_t_ge (a := m.toInt) (b := (n37 : Int)) rfl ex36 q38
      refine cw_Wr aj_d178 rfl rfl hT ?_ ?_
      · exact ⟨rfl, rfl⟩
      · exact trivial
    · have q38 : m.toInt < (n37 : Int) := aw_t_ge (a := m.toInt) (b := (n37 : Int)) rfl ex36 q38
      refine cw_n aj_d178 rfl rfl ?_
      refine cw_n aj_d178 rfl rfl ?_
      refine cw_n aj_d178 rfl rfl ?_
      refine cw_st (i := i) htb aj_d178 (Or.inl ⟨rfl, rfl⟩) rfl a37 hT qi rfl (by decide) (a := m.toInt) rfl (by omega) (by omega) (cw_full _) (fun hT39 => ?_)
      have a40 : cw_A (cw_sa h i (.inl (upd fn37 (m.toInt).toNat (aj_nar 0 n)))) i 0 n37 (.inl (upd fn37 (m.toInt).toNat (aj_nar 0 n))) := cw_sa_same a37
      refine cw_Wr aj_d178 rfl rfl hT39 ?_ ?_
      · exact ⟨rfl, ((cw_o_sa a37 (cw_nsp hB qi (by decide))).trans rfl)⟩
      · exact trivial
theorem cw_putlC (htb : ak_tbOK ak_C0 tb) : ak_CT ak_C0 (cw_I X) cw_kap tb 1 ap_c178 := by
  refine cw_CT rfl (fun d hd s h as hT hI hA _ => ?_)
  obtain ⟨v0, as, rfl, g0, hA⟩ := cw_gAc hA
  obtain ⟨v1, as, rfl, g1, hA⟩ := cw_gAc hA
  obtain ⟨v2, as, rfl, g2, hA⟩ := cw_gAc hA
  cases cw_gAn hA
  obtain ⟨i0, rfl, q0⟩ := cw_gr g0 (by decide)
  obtain ⟨a1, rfl, ha1⟩ := ak_gi g1
  dsimp only [ak_win] at ha1
  obtain ⟨a2, rfl, ha2⟩ := ak_gi g2
  dsimp only [ak_win] at ha2
  refine cw_mono (fun s' r h' hh => ?_) (cw_putl htb hT hI.1 hd q0 a1 a2)
  obtain ⟨rfl, ho⟩ := hh
  exact cw_I_eq ho hI
end CW63
