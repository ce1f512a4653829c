/-! LISTS OF THE CLASS BY HAND (printed by wip/p2/cwalk/g63.py) -/
section CW63
variable {tb : aj_T} {s : List Nat} {h : aj_H} {d : Nat} {X : Option Nat}
theorem cw_addCol (htb : ak_tbOK ak_C1 tb) (hT : ak_Ty ak_C1 s h) (hB : cw_B s) (hd : 1 ≤ d) (m : Int32) (w : Int64)  : cw_K ak_C1 (fun s' r h' => s' = s ∧ cw_o h' = cw_o h) tb d ap_c67 [.ref (52 + 39), .int m, .long w] s h := by
  obtain ⟨d, rfl⟩ : ∃ e, d = e + 1 := ⟨d - 1, by omega⟩
  refine cw_m (con := ap_c67) aj_m67_at (Nat.le_of_ble_eq_true rfl) ?_
  show cw_W _ _ _ _ _ _ _ _ _ _ 0 [(0, .ref (52 + 39)), (1, .int m), (2, .long w)] []
  refine cw_n aj_d67 rfl rfl ?_
  refine cw_z (tgt := 24) aj_d67 rfl rfl (fun q1 => ?_) (fun q1 => ?_)
  · have q1 : m.toInt < (0 : Int) := aw_t_lt (a := m.toInt) (b := (0 : Int)) rfl rfl q1
    refine cw_Wr aj_d67 rfl rfl hT ?_ ?_
    · exact ⟨rfl, rfl⟩
    · exact trivial
  · have q1 : m.toInt ≥ (0 : Int) := aw_t_lt (a := m.toInt) (b := (0 : Int)) rfl rfl q1
    refine cw_n aj_d67 rfl rfl ?_
    refine cw_n aj_d67 rfl rfl ?_
    obtain ⟨v2, f2, g2⟩ := cw_tyF (i := 39) (t := 52) (c := 0) (k := 4) (y := (.inr (some ([87], false)))) hT (cw_s0 hB rfl) rfl rfl rfl
    obtain rfl := cw_gu (i := 41) hB g2 (by decide) (by decide) (by decide)
    refine cw_g (i := 39) (v := .ref (52 + 41)) htb.1 aj_d67 rfl rfl (by decide) f2 ?_
    obtain ⟨n4, z4, a4, p4l, p4r, p4⟩ := cw_tyA (i := 41) (t := 87) (kd := 0) (n1 := 20) (n2 := 20) (y := (.inl (0, 6))) hT (cw_s0 hB rfl) rfl
    obtain rfl : n4 = 20 := Nat.le_antisymm p4r p4l
    obtain ⟨fn4, rfl, p4c⟩ := cw_xi p4
    refine cw_alen (i := 41) htb.1 aj_d67 rfl a4 (by decide) (by omega) (fun x3 ex3 => ?_)
    refine cw_c (tgt := 24) aj_d67 rfl rfl (fun q5 => ?_) (fun q5 => ?_)
    · have q5 : m.toInt ≥ (20 : Int) := aw_t_ge (a := m.toInt) (b := (20 : Int)) rfl ex3 q5
      refine cw_Wr aj_d67 rfl rfl hT ?_ ?_
      · exact ⟨rfl, rfl⟩
      · exact trivial
    · have q5 : m.toInt < (20 : Int) := aw_t_ge (a := m.toInt) (b := (20 : Int)) rfl ex3 q5
      refine cw_n aj_d67 rfl rfl ?_
      refine cw_g (i := 39) (v := .ref (52 + 41)) htb.1 aj_d67 rfl rfl (by decide) f2 ?_
      refine cw_n aj_d67 rfl rfl ?_
      refine cw_ld (i := 41) htb.1 aj_d67 (Or.inl ⟨rfl, rfl⟩) rfl a4 (a := m.toInt) rfl (by omega) (by omega) (fun x6 ex6 => ?_)
      have b6 : 0 ≤ x6.toInt ∧ x6.toInt ≤ 6 := by
        rw [ex6]
        exact p4c _ (by omega)
      refine cw_n aj_d67 rfl rfl ?_
      refine cw_c (tgt := 25) aj_d67 rfl rfl (fun q7 => ?_) (fun q7 => ?_)
      · have q7 : x6.toInt < (6 : Int) := aw_t_lt (a := x6.toInt) (b := (6 : Int)) rfl rfl q7
        refine cw_n aj_d67 rfl rfl ?_
        refine cw_n aj_d67 rfl rfl ?_
        refine cw_mul aj_d67 rfl (a := m.toInt) (b := (6 : Int)) rfl rfl (by omega) (by omega) (fun x8 ex8 => ?_)
        refine cw_n aj_d67 rfl rfl ?_
        refine cw_g (i := 39) (v := .ref (52 + 41)) htb.1 aj_d67 rfl rfl (by decide) f2 ?_
        refine cw_n aj_d67 rfl rfl ?_
        refine cw_ld (i := 41) htb.1 aj_d67 (Or.inl ⟨rfl, rfl⟩) rfl a4 (a := m.toInt) rfl (by omega) (by omega) (fun x9 ex9 => ?_)
        have b9 : 0 ≤ x9.toInt ∧ x9.toInt ≤ 6 := by
          rw [ex9]
          exact p4c _ (by omega)
        have hzx9 : x9.toInt = x6.toInt := by rw [ex9, ex6]
        refine cw_add aj_d67 rfl (a := x8.toInt) (b := x9.toInt) rfl rfl (by omega) (by omega) (fun x10 ex10 => ?_)
        refine cw_n aj_d67 rfl rfl ?_
        show cw_W _ _ _ _ _ _ _ _ _ _ 38 [(4, .int x10), (0, .ref (52 + 39)), (1, .int m), (2, .long w)] []
        refine cw_n aj_d67 rfl rfl ?_
        refine cw_n aj_d67 rfl rfl ?_
        obtain ⟨v11, f11, g11⟩ := cw_tyF (i := 39) (t := 52) (c := 0) (k := 3) (y := (.inr (some ([86], false)))) hT (cw_s0 hB rfl) rfl rfl rfl
        obtain rfl := cw_gu (i := 40) hB g11 (by decide) (by decide) (by decide)
        refine cw_g (i := 39) (v := .ref (52 + 40)) htb.1 aj_d67 rfl rfl (by decide) f11 ?_
        obtain ⟨n13, z13, a13, p13l, p13r, p13⟩ := cw_tyA (i := 40) (t := 86) (kd := 1) (n1 := 120) (n2 := 120) (y := (.inr none)) hT (cw_s0 hB rfl) rfl
        obtain rfl : n13 = 120 := Nat.le_antisymm p13r p13l
        obtain ⟨fn13, rfl, p13c⟩ := cw_xl p13
        refine cw_alen (i := 40) htb.1 aj_d67 rfl a13 (by decide) (by omega) (fun x12 ex12 => ?_)
        refine cw_c (tgt := 66) aj_d67 rfl rfl (fun q14 => ?_) (fun q14 => ?_)
        · have q14 : x10.toInt ≥ (120 : Int) := aw_t_ge (a := x10.toInt) (b := (120 : Int)) rfl ex12 q14
          refine cw_Wr aj_d67 rfl rfl hT ?_ ?_
          · exact ⟨rfl, rfl⟩
          · exact trivial
        · have q14 : x10.toInt < (120 : Int) := aw_t_ge (a := x10.toInt) (b := (120 : Int)) rfl ex12 q14
          refine cw_n aj_d67 rfl rfl ?_
          refine cw_g (i := 39) (v := .ref (52 + 40)) htb.1 aj_d67 rfl rfl (by decide) f11 ?_
          refine cw_n aj_d67 rfl rfl ?_
          refine cw_n aj_d67 rfl rfl ?_
          refine cw_stl (i := 40) htb aj_d67 rfl a13 hT (cw_s0 hB rfl) rfl (by decide) (a := x10.toInt) rfl (by omega) (by omega) (fun hT15 => ?_)
          have f16 : cw_F (cw_sa h 40 (.inr (.inl (vp_updL fn13 (x10.toInt).toNat w)))) 39 0 4 (.ref (52 + 41)) := cw_sa_F f2
          have f17 : cw_F (cw_sa h 40 (.inr (.inl (vp_updL fn13 (x10.toInt).toNat w)))) 39 0 3 (.ref (52 + 40)) := cw_sa_F f11
          have a18 : cw_A (cw_sa h 40 (.inr (.inl (vp_updL fn13 (x10.toInt).toNat w)))) 41 0 20 (.inl fn4) := cw_sa_ne a4 (by decide)
          have a19 : cw_A (cw_sa h 40 (.inr (.inl (vp_updL fn13 (x10.toInt).toNat w)))) 40 1 120 (.inr (.inl (vp_updL fn13 (x10.toInt).toNat w))) := cw_sa_same a13
          refine cw_n aj_d67 rfl rfl ?_
          refine cw_g (i := 39) (v := .ref (52 + 41)) htb.1 aj_d67 rfl rfl (by decide) f16 ?_
          refine cw_n aj_d67 rfl rfl ?_
          refine cw_n aj_d67 rfl rfl ?_
          refine cw_ld (i := 41) htb.1 aj_d67 (Or.inl ⟨rfl, rfl⟩) rfl a18 (a := m.toInt) rfl (by omega) (by omega) (fun x20 ex20 => ?_)
          have b20 : 0 ≤ x20.toInt ∧ x20.toInt ≤ 6 := by
            rw [ex20]
            exact p4c _ (by omega)
          have hzx20 : x20.toInt = x6.toInt := by rw [ex20, ex6]
          refine cw_n aj_d67 rfl rfl ?_
          refine cw_add aj_d67 rfl (a := x20.toInt) (b := (1 : Int)) rfl rfl (by omega) (by omega) (fun x21 ex21 => ?_)
          refine cw_st (i := 41) htb aj_d67 (Or.inl ⟨rfl, rfl⟩) rfl a18 hT15 (cw_s0 hB rfl) rfl (by decide) (a := m.toInt) rfl (by omega) (by omega) (cw_gw2 (a := x21.toInt) rfl (by omega) (by omega)) (fun hT22 => ?_)
          have f23 : cw_F (cw_sa (cw_sa h 40 (.inr (.inl (vp_updL fn13 (x10.toInt).toNat w)))) 41 (.inl (upd fn4 (m.toInt).toNat (aj_nar 0 x21)))) 39 0 4 (.ref (52 + 41)) := cw_sa_F f16
          have f24 : cw_F (cw_sa (cw_sa h 40 (.inr (.inl (vp_updL fn13 (x10.toInt).toNat w)))) 41 (.inl (upd fn4 (m.toInt).toNat (aj_nar 0 x21)))) 39 0 3 (.ref (52 + 40)) := cw_sa_F f17
          have a25 : cw_A (cw_sa (cw_sa h 40 (.inr (.inl (vp_updL fn13 (x10.toInt).toNat w)))) 41 (.inl (upd fn4 (m.toInt).toNat (aj_nar 0 x21)))) 40 1 120 (.inr (.inl (vp_updL fn13 (x10.toInt).toNat w))) := cw_sa_ne a19 (by decide)
          have a26 : cw_A (cw_sa (cw_sa h 40 (.inr (.inl (vp_updL fn13 (x10.toInt).toNat w)))) 41 (.inl (upd fn4 (m.toInt).toNat (aj_nar 0 x21)))) 41 0 20 (.inl (upd fn4 (m.toInt).toNat (aj_nar 0 x21))) := cw_sa_same a18
          refine cw_Wr aj_d67 rfl rfl hT22 ?_ ?_
          · exact ⟨rfl, ((cw_o_sa a18 (by decide)).trans ((cw_o_sa a13 (by decide)).trans rfl))⟩
          · exact trivial
      · have q7 : x6.toInt ≥ (6 : Int) := aw_t_lt (a := x6.toInt) (b := (6 : Int)) rfl rfl q7
        refine cw_Wr aj_d67 rfl rfl hT ?_ ?_
        · exact ⟨rfl, rfl⟩
        · exact trivial
theorem cw_addColC (htb : ak_tbOK ak_C1 tb) : ak_CT ak_C1 (cw_I X) cw_kap tb 1 ap_c67 := by
  refine cw_CT rfl (fun d hd s h as hT hI hA _ => ?_)
  obtain ⟨v0, as, rfl, g0, hA⟩ := cw_gAc hA
  obtain ⟨v1, as, rfl, g1, hA⟩ := cw_gAc hA
  obtain ⟨v2, as, rfl, g2, hA⟩ := cw_gAc hA
  cases cw_gAn hA
  obtain rfl := cw_gu (i := 39) hI.1 g0 (by decide) (by decide) (by decide)
  obtain ⟨a1, rfl, ha1⟩ := ak_gi g1
  dsimp only [ak_win] at ha1
  obtain ⟨a2, rfl⟩ := cw_gl g2
  refine cw_mono (fun s' r h' hh => ?_) (cw_addCol htb hT hI.1 hd a1 a2)
  obtain ⟨rfl, ho⟩ := hh
  exact cw_I_eq ho hI
theorem cw_ref (htb : ak_tbOK ak_C0 tb) (hT : ak_Ty ak_C0 s h) (hB : cw_B s) (hd : 1 ≤ d) (m : Int32)  : cw_K ak_C0 (fun s' r h' => s' = s ∧ cw_o h' = cw_o h) tb d ap_c181 [.ref (52 + 55), .int m] s h := by
  obtain ⟨d, rfl⟩ : ∃ e, d = e + 1 := ⟨d - 1, by omega⟩
  refine cw_m (con := ap_c181) aj_m181_at (Nat.le_of_ble_eq_true rfl) ?_
  show cw_W _ _ _ _ _ _ _ _ _ _ 0 [(0, .ref (52 + 55)), (1, .int m)] []
  refine cw_n aj_d181 rfl rfl ?_
  refine cw_z (tgt := 30) aj_d181 rfl rfl (fun q27 => ?_) (fun q27 => ?_)
  · have q27 : m.toInt < (0 : Int) := aw_t_lt (a := m.toInt) (b := (0 : Int)) rfl rfl q27
    refine cw_n aj_d181 rfl rfl ?_
    refine cw_Wr aj_d181 rfl rfl hT ?_ ?_
    · exact ⟨rfl, rfl⟩
    · exact cw_full _
  · have q27 : m.toInt ≥ (0 : Int) := aw_t_lt (a := m.toInt) (b := (0 : Int)) rfl rfl q27
    refine cw_n aj_d181 rfl rfl ?_
    refine cw_n aj_d181 rfl rfl ?_
    obtain ⟨v28, f28, g28⟩ := cw_tyF (i := 55) (t := 54) (c := 2) (k := 3) (y := (.inl ((-2147483648), 2147483647))) hT (cw_s0 hB rfl) rfl rfl rfl
    obtain ⟨x28, rfl, b28⟩ := ak_gi g28
    dsimp only [ak_win] at b28
    refine cw_g (i := 55) (v := .int x28) htb.1 aj_d181 rfl rfl (by decide) f28 ?_
    refine cw_c (tgt := 30) aj_d181 rfl rfl (fun q29 => ?_) (fun q29 => ?_)
    · have q29 : m.toInt ≥ x28.toInt := aw_t_ge (a := m.toInt) (b := x28.toInt) rfl rfl q29
      refine cw_n aj_d181 rfl rfl ?_
      refine cw_Wr aj_d181 rfl rfl hT ?_ ?_
      · exact ⟨rfl, rfl⟩
      · exact cw_full _
    · have q29 : m.toInt < x28.toInt := aw_t_ge (a := m.toInt) (b := x28.toInt) rfl rfl q29
      refine cw_n aj_d181 rfl rfl ?_
      refine cw_n aj_d181 rfl rfl ?_
      obtain ⟨v30, f30, g30⟩ := cw_tyF (i := 55) (t := 54) (c := 2) (k := 5) (y := (.inr (some ([98], false)))) hT (cw_s0 hB rfl) rfl rfl rfl
      obtain ⟨i30, rfl, q30⟩ := cw_gr g30 (by decide)
      refine cw_g (i := 55) (v := .ref (52 + i30)) htb.1 aj_d181 rfl rfl (by decide) f30 ?_
      obtain ⟨n32, z32, a32, p32l, p32r, p32⟩ := cw_tyA (i := i30) (t := 98) (kd := 0) (n1 := 64) (n2 := 65536) (y := (.inl ((-2147483648), 2147483647))) hT q30 rfl
      obtain ⟨fn32, rfl, p32c⟩ := cw_xi p32
      refine cw_alen (i := i30) htb.1 aj_d181 rfl a32 (by decide) (by omega) (fun x31 ex31 => ?_)
      refine cw_c (tgt := 30) aj_d181 rfl rfl (fun q33 => ?_) (fun q33 => ?_)
      · have q33 : m.toInt ≥ (n32 : Int) := aw_t_ge (a := m.toInt) (b := (n32 : Int)) rfl ex31 q33
        refine cw_n aj_d181 rfl rfl ?_
        refine cw_Wr aj_d181 rfl rfl hT ?_ ?_
        · exact ⟨rfl, rfl⟩
        · exact cw_full _
      · have q33 : m.toInt < (n32 : Int) := aw_t_ge (a := m.toInt) (b := (n32 : Int)) rfl ex31 q33
        refine cw_n aj_d181 rfl rfl ?_
        refine cw_g (i := 55) (v := .ref (52 + i30)) htb.1 aj_d181 rfl rfl (by decide) f30 ?_
        refine cw_n aj_d181 rfl rfl ?_
        refine cw_ld (i := i30) htb.1 aj_d181 (Or.inl ⟨rfl, rfl⟩) rfl a32 (a := m.toInt) rfl (by omega) (by omega) (fun x34 ex34 => ?_)
        refine cw_n aj_d181 rfl rfl ?_
        refine cw_Wr aj_d181 rfl rfl hT ?_ ?_
        · exact ⟨rfl, rfl⟩
        · exact cw_full _
theorem cw_refC (htb : ak_tbOK ak_C0 tb) : ak_CT ak_C0 (cw_I X) cw_kap tb 1 ap_c181 := by
  refine cw_CT rfl (fun d hd s h as hT hI hA _ => ?_)
  obtain ⟨v0, as, rfl, g0, hA⟩ := cw_gAc hA
  obtain ⟨v1, as, rfl, g1, hA⟩ := cw_gAc hA
  cases cw_gAn hA
  obtain rfl := cw_gu (i := 55) hI.1 g0 (by decide) (by decide) (by decide)
  obtain ⟨a1, rfl, ha1⟩ := ak_gi g1
  dsimp only [ak_win] at ha1
  refine cw_mono (fun s' r h' hh => ?_) (cw_ref htb hT hI.1 hd a1)
  obtain ⟨rfl, ho⟩ := hh
  exact cw_I_eq ho hI
theorem cw_putl (htb : ak_tbOK ak_C0 tb) (hT : ak_Ty ak_C0 s h) (hB : cw_B s) (hd : 1 ≤ d) {i : Nat} (qi : s[i]? = some 98) (m n : Int32)  : cw_K ak_C0 (fun s' r h' => s' = s ∧ cw_o h' = cw_o h) tb d ap_c178 [.ref (52 + i), .int m, .int n] s h := by
  obtain ⟨d, rfl⟩ : ∃ e, d = e + 1 := ⟨d - 1, by omega⟩
  refine cw_m (con := ap_c178) aj_m178_at (Nat.le_of_ble_eq_true rfl) ?_
  show cw_W _ _ _ _ _ _ _ _ _ _ 0 [(0, .ref (52 + i)), (1, .int m), (2, .int n)] []
  refine cw_n aj_d178 rfl rfl ?_
  refine cw_z (tgt := 14) aj_d178 rfl rfl (fun q35 => ?_) (fun q35 => ?_)
  · have q35 : m.toInt < (0 : Int) := aw_t_lt (a := m.toInt) (b := (0 : Int)) rfl rfl q35
    refine cw_Wr aj_d178 rfl rfl hT ?_ ?_
    · exact ⟨rfl, rfl⟩
    · exact trivial
  · have q35 : m.toInt ≥ (0 : Int) := aw_t_lt (a := m.toInt) (b := (0 : Int)) rfl rfl q35
    refine cw_n aj_d178 rfl rfl ?_
    refine cw_n aj_d178 rfl rfl ?_
    obtain ⟨n37, z37, a37, p37l, p37r, p37⟩ := cw_tyA (i := i) (t := 98) (kd := 0) (n1 := 64) (n2 := 65536) (y := (.inl ((-2147483648), 2147483647))) hT qi rfl
    obtain ⟨fn37, rfl, p37c⟩ := cw_xi p37
    refine cw_alen (i := i) htb.1 aj_d178 rfl a37 (by decide) (by omega) (fun x36 ex36 => ?_)
    refine cw_c (tgt := 14) aj_d178 rfl rfl (fun q38 => ?_) (fun q38 => ?_)
    · have q38 : m.toInt ≥ (n37 : Int) := aw_t_ge (a := m.toInt) (b := (n37 : Int)) rfl ex36 q38
      refine cw_Wr aj_d178 rfl rfl hT ?_ ?_
      · exact ⟨rfl, rfl⟩
      · exact trivial
    · have q38 : m.toInt < (n37 : Int) := aw_t_ge (a := m.toInt) (b := (n37 : Int)) rfl ex36 q38
      refine cw_n aj_d178 rfl rfl ?_
      refine cw_n aj_d178 rfl rfl ?_
      refine cw_n aj_d178 rfl rfl ?_
      refine cw_st (i := i) htb aj_d178 (Or.inl ⟨rfl, rfl⟩) rfl a37 hT qi rfl (by decide) (a := m.toInt) rfl (by omega) (by omega) (cw_full _) (fun hT39 => ?_)
      have a40 : cw_A (cw_sa h i (.inl (upd fn37 (m.toInt).toNat (aj_nar 0 n)))) i 0 n37 (.inl (upd fn37 (m.toInt).toNat (aj_nar 0 n))) := cw_sa_same a37
      refine cw_Wr aj_d178 rfl rfl hT39 ?_ ?_
      · exact ⟨rfl, ((cw_o_sa a37 (cw_nsp hB qi (by decide))).trans rfl)⟩
      · exact trivial
theorem cw_putlC (htb : ak_tbOK ak_C0 tb) : ak_CT ak_C0 (cw_I X) cw_kap tb 1 ap_c178 := by
  refine cw_CT rfl (fun d hd s h as hT hI hA _ => ?_)
  obtain ⟨v0, as, rfl, g0, hA⟩ := cw_gAc hA
  obtain ⟨v1, as, rfl, g1, hA⟩ := cw_gAc hA
  obtain ⟨v2, as, rfl, g2, hA⟩ := cw_gAc hA
  cases cw_gAn hA
  obtain ⟨i0, rfl, q0⟩ := cw_gr g0 (by decide)
  obtain ⟨a1, rfl, ha1⟩ := ak_gi g1
  dsimp only [ak_win] at ha1
  obtain ⟨a2, rfl, ha2⟩ := ak_gi g2
  dsimp only [ak_win] at ha2
  refine cw_mono (fun s' r h' hh => ?_) (cw_putl htb hT hI.1 hd q0 a1 a2)
  obtain ⟨rfl, ho⟩ := hh
  exact cw_I_eq ho hI
theorem cw_mergeT {d : Nat} (hd : 5 ≤ d + 1) (htb : ak_tbOK ak_C0 tb) (hB : cw_B s) {o0 : cw_O} {i1 i2 : Nat} (q1 : s[i1]? = some 59) (q2 : s[i2]? = some 58) {h : aj_H} {lv : aj_V} {kc ks : Nat} {x3 x4 x5 x6 x7 x8 x9 x10 x11 o : Int32} (hT : ak_Ty ak_C0 s h) (hE : cw_o h = o0) (hl0 : aj_lv lv 0 = some (.ref (52 + 55))) (hl1 : aj_lv lv 1 = some (.ref (52 + i1))) (hl2 : aj_lv lv 2 = some (.ref (52 + i2))) (hl3 : aj_lv lv 3 = some (.int x3)) (hl4 : aj_lv lv 4 = some (.int x4)) (hl5 : aj_lv lv 5 = some (.int x5)) (hl6 : aj_lv lv 6 = some (.int x6)) (hl7 : aj_lv lv 7 = some (.int x7)) (hl8 : aj_lv lv 8 = some (.int x8)) (hl9 : aj_lv lv 9 = some (.int x9)) (hl10 : aj_lv lv 10 = some (.int x10)) (hl11 : aj_lv lv 11 = some (.int x11)) (ih : ∀ {h' : aj_H} {lv' : aj_V} {kc' ks' : Nat} {y3 y7 y8 y9 : Int32}, ak_Ty ak_C0 s h' → cw_o h' = o0 → aj_lv lv' 0 = some (.ref (52 + 55)) → aj_lv lv' 1 = some (.ref (52 + i1)) → aj_lv lv' 2 = some (.ref (52 + i2)) → aj_lv lv' 3 = some (.int y3) → aj_lv lv' 4 = some (.int x4) → aj_lv lv' 5 = some (.int x5) → aj_lv lv' 6 = some (.int x6) → aj_lv lv' 7 = some (.int y7) → aj_lv lv' 8 = some (.int y8) → aj_lv lv' 9 = some (.int y9) → (x4.toInt - y7.toInt).toNat + (x5.toInt - y8.toInt).toNat < (x4.toInt - x7.toInt).toNat + (x5.toInt - x8.toInt).toNat → cw_W ak_C0 (fun s' r h' => s' = s ∧ cw_o h' = o0) tb d aj_m180 ap_c180 s h' kc' ks' 11 lv' []) (hx : (x7.toInt < x4.toInt ∧ x8.toInt < x5.toInt) ∨ (x4.toInt ≤ x7.toInt ∧ x8.toInt < x5.toInt ∧ o.toInt = 1) ∨ (x7.toInt < x4.toInt ∧ x5.toInt ≤ x8.toInt ∧ o.toInt = -1)) : cw_W ak_C0 (fun s' r h' => s' = s ∧ cw_o h' = o0) tb d aj_m180 ap_c180 s h kc ks 89 lv [.int o] := by
  have b4 := cw_full x4
  have b5 := cw_full x5
  have b7 := cw_full x7
  have b8 := cw_full x8
  refine cw_t0 (j := 12) aj_d180 rfl (by decide) rfl ?_
  obtain ⟨lv41, elv41⟩ : ∃ l, l = aj_set1 lv 12 (.int o) := ⟨_, rfl⟩
  rw [← elv41]
  have hlv41_0 : aj_lv lv41 0 = some (.ref (52 + 55)) := cw_e1 elv41 hl0 (by decide) (Or.inl (by decide))
  have hlv41_1 : aj_lv lv41 1 = some (.ref (52 + i1)) := cw_e1 elv41 hl1 (by decide) (Or.inl (by decide))
  have hlv41_2 : aj_lv lv41 2 = some (.ref (52 + i2)) := cw_e1 elv41 hl2 (by decide) (Or.inl (by decide))
  have hlv41_3 : aj_lv lv41 3 = some (.int x3) := cw_e1 elv41 hl3 (by decide) (Or.inl (by decide))
  have hlv41_4 : aj_lv lv41 4 = some (.int x4) := cw_e1 elv41 hl4 (by decide) (Or.inl (by decide))
  have hlv41_5 : aj_lv lv41 5 = some (.int x5) := cw_e1 elv41 hl5 (by decide) (Or.inl (by decide))
  have hlv41_6 : aj_lv lv41 6 = some (.int x6) := cw_e1 elv41 hl6 (by decide) (Or.inl (by decide))
  have hlv41_7 : aj_lv lv41 7 = some (.int x7) := cw_e1 elv41 hl7 (by decide) (Or.inl (by decide))
  have hlv41_8 : aj_lv lv41 8 = some (.int x8) := cw_e1 elv41 hl8 (by decide) (Or.inl (by decide))
  have hlv41_9 : aj_lv lv41 9 = some (.int x9) := cw_e1 elv41 hl9 (by decide) (Or.inl (by decide))
  have hlv41_10 : aj_lv lv41 10 = some (.int x10) := cw_e1 elv41 hl10 (by decide) (Or.inl (by decide))
  have hlv41_11 : aj_lv lv41 11 = some (.int x11) := cw_e1 elv41 hl11 (by decide) (Or.inr rfl)
  have hlv41_12 : aj_lv lv41 12 = some (.int o) := by rw [elv41]; exact ak_set1_eq _ _ _
  show cw_W _ _ _ _ _ _ _ _ _ _ 91 lv41 []
  refine cw_l0 aj_d180 rfl rfl hlv41_12 ?_
  refine cw_z (tgt := 101) aj_d180 rfl rfl (fun q42 => ?_) (fun q42 => ?_)
  · have q42 : o.toInt ≥ (0 : Int) := aw_t_ge (a := o.toInt) (b := (0 : Int)) rfl rfl q42
    refine cw_l0 aj_d180 rfl rfl hlv41_12 ?_
    refine cw_z (tgt := 111) aj_d180 rfl rfl (fun q43 => ?_) (fun q43 => ?_)
    · have q43 : o.toInt ≤ (0 : Int) := aw_t_le (a := o.toInt) (b := (0 : Int)) rfl rfl q43
      refine cw_l0 aj_d180 rfl rfl hlv41_10 ?_
      refine cw_l0 aj_d180 rfl rfl hlv41_11 ?_
      refine cw_ks0 (con' := ap_c184) aj_d180 hT rfl rfl rfl [_] rfl rfl (Nat.le_of_ble_eq_true rfl) ⟨by decide, by decide⟩ (cw_a1 (by omega) (ap_0_184 htb (cw_SP1c _ _ rfl rfl) cw_hK) hT hB rfl ⟨(cw_full _), trivial⟩) ?_
      rintro ru44 h44 hT44 ho44 hRu44
      obtain ⟨x45, rfl, bx45⟩ := cw_rI hRu44
      show cw_W _ _ _ _ _ _ _ _ _ _ 118 lv41 [.int x45, .int x10]
      refine cw_n aj_d180 rfl rfl ?_
      refine cw_any aj_d180 rfl rfl (fun x46 ex46 => ?_)
      refine cw_any aj_d180 rfl rfl (fun x47 ex47 => ?_)
      refine cw_t0 (j := 13) aj_d180 rfl (by decide) rfl ?_
      obtain ⟨lv48, elv48⟩ : ∃ l, l = aj_set1 lv41 13 (.int x47) := ⟨_, rfl⟩
      rw [← elv48]
      have hlv48_12 : aj_lv lv48 12 = some (.int o) := cw_e1 elv48 hlv41_12 (by decide) (Or.inr rfl)
      have hlv48_0 : aj_lv lv48 0 = some (.ref (52 + 55)) := cw_e1 elv48 hlv41_0 (by decide) (Or.inl (by decide))
      have hlv48_1 : aj_lv lv48 1 = some (.ref (52 + i1)) := cw_e1 elv48 hlv41_1 (by decide) (Or.inl (by decide))
      have hlv48_2 : aj_lv lv48 2 = some (.ref (52 + i2)) := cw_e1 elv48 hlv41_2 (by decide) (Or.inl (by decide))
      have hlv48_3 : aj_lv lv48 3 = some (.int x3) := cw_e1 elv48 hlv41_3 (by decide) (Or.inl (by decide))
      have hlv48_4 : aj_lv lv48 4 = some (.int x4) := cw_e1 elv48 hlv41_4 (by decide) (Or.inl (by decide))
      have hlv48_5 : aj_lv lv48 5 = some (.int x5) := cw_e1 elv48 hlv41_5 (by decide) (Or.inl (by decide))
      have hlv48_6 : aj_lv lv48 6 = some (.int x6) := cw_e1 elv48 hlv41_6 (by decide) (Or.inl (by decide))
      have hlv48_7 : aj_lv lv48 7 = some (.int x7) := cw_e1 elv48 hlv41_7 (by decide) (Or.inl (by decide))
      have hlv48_8 : aj_lv lv48 8 = some (.int x8) := cw_e1 elv48 hlv41_8 (by decide) (Or.inl (by decide))
      have hlv48_9 : aj_lv lv48 9 = some (.int x9) := cw_e1 elv48 hlv41_9 (by decide) (Or.inl (by decide))
      have hlv48_10 : aj_lv lv48 10 = some (.int x10) := cw_e1 elv48 hlv41_10 (by decide) (Or.inl (by decide))
      have hlv48_11 : aj_lv lv48 11 = some (.int x11) := cw_e1 elv48 hlv41_11 (by decide) (Or.inl (by decide))
      have hlv48_13 : aj_lv lv48 13 = some (.int x47) := by rw [elv48]; exact ak_set1_eq _ _ _
      show cw_W _ _ _ _ _ _ _ _ _ _ 124 lv48 []
      refine cw_l2 aj_d180 rfl rfl hlv48_0 ?_
      obtain ⟨v49, f49, g49⟩ := cw_tyF (i := 55) (t := 54) (c := 2) (k := 6) (y := (.inr (some ([98], false)))) hT44 (cw_s0 hB rfl) rfl rfl rfl
      obtain ⟨i49, rfl, q49⟩ := cw_gr g49 (by decide)
      refine cw_g (i := 55) (v := .ref (52 + i49)) htb.1 aj_d180 rfl rfl (by decide) f49 ?_
      refine cw_l0 aj_d180 rfl rfl hlv48_9 ?_
      refine cw_l0 aj_d180 rfl rfl hlv48_13 ?_
      refine cw_ks0 (con' := ap_c178) aj_d180 hT44 rfl rfl rfl [_, _, _] rfl rfl (Nat.le_of_ble_eq_true rfl) ⟨by decide, by decide⟩ (cw_putl htb hT44 hB (by omega) q49 x9 x47) ?_
      rintro rh50 h50 hT51 hoh50 hRh50
      obtain rfl := cw_rN hRh50
      show cw_W _ _ _ _ _ _ _ _ _ _ 135 lv48 []
      refine cw_incw aj_d180 rfl hlv48_9 (by decide) (fun x52 ex52 => ?_)
      obtain ⟨lv53, elv53⟩ : ∃ l, l = aj_set1 lv48 9 (.int x52) := ⟨_, rfl⟩
      rw [← elv53]
      have hlv53_13 : aj_lv lv53 13 = some (.int x47) := cw_e1 elv53 hlv48_13 (by decide) (Or.inl (by decide))
      have hlv53_12 : aj_lv lv53 12 = some (.int o) := cw_e1 elv53 hlv48_12 (by decide) (Or.inl (by decide))
      have hlv53_0 : aj_lv lv53 0 = some (.ref (52 + 55)) := cw_e1 elv53 hlv48_0 (by decide) (Or.inl (by decide))
      have hlv53_1 : aj_lv lv53 1 = some (.ref (52 + i1)) := cw_e1 elv53 hlv48_1 (by decide) (Or.inl (by decide))
      have hlv53_2 : aj_lv lv53 2 = some (.ref (52 + i2)) := cw_e1 elv53 hlv48_2 (by decide) (Or.inl (by decide))
      have hlv53_3 : aj_lv lv53 3 = some (.int x3) := cw_e1 elv53 hlv48_3 (by decide) (Or.inl (by decide))
      have hlv53_4 : aj_lv lv53 4 = some (.int x4) := cw_e1 elv53 hlv48_4 (by decide) (Or.inl (by decide))
      have hlv53_5 : aj_lv lv53 5 = some (.int x5) := cw_e1 elv53 hlv48_5 (by decide) (Or.inl (by decide))
      have hlv53_6 : aj_lv lv53 6 = some (.int x6) := cw_e1 elv53 hlv48_6 (by decide) (Or.inl (by decide))
      have hlv53_7 : aj_lv lv53 7 = some (.int x7) := cw_e1 elv53 hlv48_7 (by decide) (Or.inl (by decide))
      have hlv53_8 : aj_lv lv53 8 = some (.int x8) := cw_e1 elv53 hlv48_8 (by decide) (Or.inr rfl)
      have hlv53_10 : aj_lv lv53 10 = some (.int x10) := cw_e1 elv53 hlv48_10 (by decide) (Or.inl (by decide))
      have hlv53_11 : aj_lv lv53 11 = some (.int x11) := cw_e1 elv53 hlv48_11 (by decide) (Or.inl (by decide))
      have hlv53_9 : aj_lv lv53 9 = some (.int x52) := by rw [elv53]; exact ak_set1_eq _ _ _
      show cw_W _ _ _ _ _ _ _ _ _ _ 138 lv53 []
      refine cw_l0 aj_d180 rfl rfl hlv53_7 ?_
      refine cw_l0 aj_d180 rfl rfl hlv53_12 ?_
      refine cw_z (tgt := 149) aj_d180 rfl rfl (fun q54 => ?_) (fun q54 => ?_)
      · have q54 : o.toInt > (0 : Int) := aw_t_gt (a := o.toInt) (b := (0 : Int)) rfl rfl q54
        refine cw_n aj_d180 rfl rfl ?_
        refine cw_add aj_d180 rfl (a := x7.toInt) (b := (0 : Int)) rfl rfl (by omega) (by omega) (fun x55 ex55 => ?_)
        refine cw_t0 (j := 7) aj_d180 rfl (by decide) rfl ?_
        obtain ⟨lv56, elv56⟩ : ∃ l, l = aj_set1 lv53 7 (.int x55) := ⟨_, rfl⟩
        rw [← elv56]
        have hlv56_9 : aj_lv lv56 9 = some (.int x52) := cw_e1 elv56 hlv53_9 (by decide) (Or.inl (by decide))
        have hlv56_13 : aj_lv lv56 13 = some (.int x47) := cw_e1 elv56 hlv53_13 (by decide) (Or.inl (by decide))
        have hlv56_12 : aj_lv lv56 12 = some (.int o) := cw_e1 elv56 hlv53_12 (by decide) (Or.inl (by decide))
        have hlv56_0 : aj_lv lv56 0 = some (.ref (52 + 55)) := cw_e1 elv56 hlv53_0 (by decide) (Or.inl (by decide))
        have hlv56_1 : aj_lv lv56 1 = some (.ref (52 + i1)) := cw_e1 elv56 hlv53_1 (by decide) (Or.inl (by decide))
        have hlv56_2 : aj_lv lv56 2 = some (.ref (52 + i2)) := cw_e1 elv56 hlv53_2 (by decide) (Or.inl (by decide))
        have hlv56_3 : aj_lv lv56 3 = some (.int x3) := cw_e1 elv56 hlv53_3 (by decide) (Or.inl (by decide))
        have hlv56_4 : aj_lv lv56 4 = some (.int x4) := cw_e1 elv56 hlv53_4 (by decide) (Or.inl (by decide))
        have hlv56_5 : aj_lv lv56 5 = some (.int x5) := cw_e1 elv56 hlv53_5 (by decide) (Or.inl (by decide))
        have hlv56_6 : aj_lv lv56 6 = some (.int x6) := cw_e1 elv56 hlv53_6 (by decide) (Or.inr rfl)
        have hlv56_8 : aj_lv lv56 8 = some (.int x8) := cw_e1 elv56 hlv53_8 (by decide) (Or.inl (by decide))
        have hlv56_10 : aj_lv lv56 10 = some (.int x10) := cw_e1 elv56 hlv53_10 (by decide) (Or.inl (by decide))
        have hlv56_11 : aj_lv lv56 11 = some (.int x11) := cw_e1 elv56 hlv53_11 (by decide) (Or.inl (by decide))
        have hlv56_7 : aj_lv lv56 7 = some (.int x55) := by rw [elv56]; exact ak_set1_eq _ _ _
        show cw_W _ _ _ _ _ _ _ _ _ _ 153 lv56 []
        refine cw_l0 aj_d180 rfl rfl hlv56_8 ?_
        refine cw_l0 aj_d180 rfl rfl hlv56_12 ?_
        refine cw_z (tgt := 164) aj_d180 rfl rfl (fun q57 => ?_) (fun q57 => ?_)
        · have q57 : o.toInt < (0 : Int) := aw_t_lt (a := o.toInt) (b := (0 : Int)) rfl rfl q57
          refine cw_n aj_d180 rfl rfl ?_
          refine cw_add aj_d180 rfl (a := x8.toInt) (b := (0 : Int)) rfl rfl (by omega) (by omega) (fun x58 ex58 => ?_)
          refine cw_t0 (j := 8) aj_d180 rfl (by decide) rfl ?_
          obtain ⟨lv59, elv59⟩ : ∃ l, l = aj_set1 lv56 8 (.int x58) := ⟨_, rfl⟩
          rw [← elv59]
          have hlv59_7 : aj_lv lv59 7 = some (.int x55) := cw_e1 elv59 hlv56_7 (by decide) (Or.inr rfl)
          have hlv59_9 : aj_lv lv59 9 = some (.int x52) := cw_e1 elv59 hlv56_9 (by decide) (Or.inl (by decide))
          have hlv59_13 : aj_lv lv59 13 = some (.int x47) := cw_e1 elv59 hlv56_13 (by decide) (Or.inl (by decide))
          have hlv59_12 : aj_lv lv59 12 = some (.int o) := cw_e1 elv59 hlv56_12 (by decide) (Or.inl (by decide))
          have hlv59_0 : aj_lv lv59 0 = some (.ref (52 + 55)) := cw_e1 elv59 hlv56_0 (by decide) (Or.inl (by decide))
          have hlv59_1 : aj_lv lv59 1 = some (.ref (52 + i1)) := cw_e1 elv59 hlv56_1 (by decide) (Or.inl (by decide))
          have hlv59_2 : aj_lv lv59 2 = some (.ref (52 + i2)) := cw_e1 elv59 hlv56_2 (by decide) (Or.inl (by decide))
          have hlv59_3 : aj_lv lv59 3 = some (.int x3) := cw_e1 elv59 hlv56_3 (by decide) (Or.inl (by decide))
          have hlv59_4 : aj_lv lv59 4 = some (.int x4) := cw_e1 elv59 hlv56_4 (by decide) (Or.inl (by decide))
          have hlv59_5 : aj_lv lv59 5 = some (.int x5) := cw_e1 elv59 hlv56_5 (by decide) (Or.inl (by decide))
          have hlv59_6 : aj_lv lv59 6 = some (.int x6) := cw_e1 elv59 hlv56_6 (by decide) (Or.inl (by decide))
          have hlv59_10 : aj_lv lv59 10 = some (.int x10) := cw_e1 elv59 hlv56_10 (by decide) (Or.inl (by decide))
          have hlv59_11 : aj_lv lv59 11 = some (.int x11) := cw_e1 elv59 hlv56_11 (by decide) (Or.inl (by decide))
          have hlv59_8 : aj_lv lv59 8 = some (.int x58) := by rw [elv59]; exact ak_set1_eq _ _ _
          show cw_W _ _ _ _ _ _ _ _ _ _ 168 lv59 []
          refine cw_n aj_d180 rfl rfl ?_
          have z0 : (Int32.ofInt 0).toInt = 0 := rfl
          have z1 : (Int32.ofInt 1).toInt = 1 := rfl
          exact ih hT51 (hoh50.trans (ho44.trans hE)) hlv59_0 hlv59_1 hlv59_2 hlv59_3 hlv59_4 hlv59_5 hlv59_6 hlv59_7 hlv59_8 hlv59_9 (by omega)
        · have q57 : o.toInt ≥ (0 : Int) := aw_t_lt (a := o.toInt) (b := (0 : Int)) rfl rfl q57
          refine cw_n aj_d180 rfl rfl ?_
          refine cw_n aj_d180 rfl rfl ?_
          refine cw_add aj_d180 rfl (a := x8.toInt) (b := (1 : Int)) rfl rfl (by omega) (by omega) (fun x60 ex60 => ?_)
          refine cw_t0 (j := 8) aj_d180 rfl (by decide) rfl ?_
          obtain ⟨lv61, elv61⟩ : ∃ l, l = aj_set1 lv56 8 (.int x60) := ⟨_, rfl⟩
          rw [← elv61]
          have hlv61_7 : aj_lv lv61 7 = some (.int x55) := cw_e1 elv61 hlv56_7 (by decide) (Or.inr rfl)
          have hlv61_9 : aj_lv lv61 9 = some (.int x52) := cw_e1 elv61 hlv56_9 (by decide) (Or.inl (by decide))
          have hlv61_13 : aj_lv lv61 13 = some (.int x47) := cw_e1 elv61 hlv56_13 (by decide) (Or.inl (by decide))
          have hlv61_12 : aj_lv lv61 12 = some (.int o) := cw_e1 elv61 hlv56_12 (by decide) (Or.inl (by decide))
          have hlv61_0 : aj_lv lv61 0 = some (.ref (52 + 55)) := cw_e1 elv61 hlv56_0 (by decide) (Or.inl (by decide))
          have hlv61_1 : aj_lv lv61 1 = some (.ref (52 + i1)) := cw_e1 elv61 hlv56_1 (by decide) (Or.inl (by decide))
          have hlv61_2 : aj_lv lv61 2 = some (.ref (52 + i2)) := cw_e1 elv61 hlv56_2 (by decide) (Or.inl (by decide))
          have hlv61_3 : aj_lv lv61 3 = some (.int x3) := cw_e1 elv61 hlv56_3 (by decide) (Or.inl (by decide))
          have hlv61_4 : aj_lv lv61 4 = some (.int x4) := cw_e1 elv61 hlv56_4 (by decide) (Or.inl (by decide))
          have hlv61_5 : aj_lv lv61 5 = some (.int x5) := cw_e1 elv61 hlv56_5 (by decide) (Or.inl (by decide))
          have hlv61_6 : aj_lv lv61 6 = some (.int x6) := cw_e1 elv61 hlv56_6 (by decide) (Or.inl (by decide))
          have hlv61_10 : aj_lv lv61 10 = some (.int x10) := cw_e1 elv61 hlv56_10 (by decide) (Or.inl (by decide))
          have hlv61_11 : aj_lv lv61 11 = some (.int x11) := cw_e1 elv61 hlv56_11 (by decide) (Or.inl (by decide))
          have hlv61_8 : aj_lv lv61 8 = some (.int x60) := by rw [elv61]; exact ak_set1_eq _ _ _
          show cw_W _ _ _ _ _ _ _ _ _ _ 168 lv61 []
          refine cw_n aj_d180 rfl rfl ?_
          have z0 : (Int32.ofInt 0).toInt = 0 := rfl
          have z1 : (Int32.ofInt 1).toInt = 1 := rfl
          exact ih hT51 (hoh50.trans (ho44.trans hE)) hlv61_0 hlv61_1 hlv61_2 hlv61_3 hlv61_4 hlv61_5 hlv61_6 hlv61_7 hlv61_8 hlv61_9 (by omega)
      · have q54 : o.toInt ≤ (0 : Int) := aw_t_gt (a := o.toInt) (b := (0 : Int)) rfl rfl q54
        refine cw_n aj_d180 rfl rfl ?_
        refine cw_n aj_d180 rfl rfl ?_
        refine cw_add aj_d180 rfl (a := x7.toInt) (b := (1 : Int)) rfl rfl (by omega) (by omega) (fun x62 ex62 => ?_)
        refine cw_t0 (j := 7) aj_d180 rfl (by decide) rfl ?_
        obtain ⟨lv63, elv63⟩ : ∃ l, l = aj_set1 lv53 7 (.int x62) := ⟨_, rfl⟩
        rw [← elv63]
        have hlv63_9 : aj_lv lv63 9 = some (.int x52) := cw_e1 elv63 hlv53_9 (by decide) (Or.inl (by decide))
        have hlv63_13 : aj_lv lv63 13 = some (.int x47) := cw_e1 elv63 hlv53_13 (by decide) (Or.inl (by decide))
        have hlv63_12 : aj_lv lv63 12 = some (.int o) := cw_e1 elv63 hlv53_12 (by decide) (Or.inl (by decide))
        have hlv63_0 : aj_lv lv63 0 = some (.ref (52 + 55)) := cw_e1 elv63 hlv53_0 (by decide) (Or.inl (by decide))
        have hlv63_1 : aj_lv lv63 1 = some (.ref (52 + i1)) := cw_e1 elv63 hlv53_1 (by decide) (Or.inl (by decide))
        have hlv63_2 : aj_lv lv63 2 = some (.ref (52 + i2)) := cw_e1 elv63 hlv53_2 (by decide) (Or.inl (by decide))
        have hlv63_3 : aj_lv lv63 3 = some (.int x3) := cw_e1 elv63 hlv53_3 (by decide) (Or.inl (by decide))
        have hlv63_4 : aj_lv lv63 4 = some (.int x4) := cw_e1 elv63 hlv53_4 (by decide) (Or.inl (by decide))
        have hlv63_5 : aj_lv lv63 5 = some (.int x5) := cw_e1 elv63 hlv53_5 (by decide) (Or.inl (by decide))
        have hlv63_6 : aj_lv lv63 6 = some (.int x6) := cw_e1 elv63 hlv53_6 (by decide) (Or.inr rfl)
        have hlv63_8 : aj_lv lv63 8 = some (.int x8) := cw_e1 elv63 hlv53_8 (by decide) (Or.inl (by decide))
        have hlv63_10 : aj_lv lv63 10 = some (.int x10) := cw_e1 elv63 hlv53_10 (by decide) (Or.inl (by decide))
        have hlv63_11 : aj_lv lv63 11 = some (.int x11) := cw_e1 elv63 hlv53_11 (by decide) (Or.inl (by decide))
        have hlv63_7 : aj_lv lv63 7 = some (.int x62) := by rw [elv63]; exact ak_set1_eq _ _ _
        show cw_W _ _ _ _ _ _ _ _ _ _ 153 lv63 []
        refine cw_l0 aj_d180 rfl rfl hlv63_8 ?_
        refine cw_l0 aj_d180 rfl rfl hlv63_12 ?_
        refine cw_z (tgt := 164) aj_d180 rfl rfl (fun q64 => ?_) (fun q64 => ?_)
        · have q64 : o.toInt < (0 : Int) := aw_t_lt (a := o.toInt) (b := (0 : Int)) rfl rfl q64
          refine cw_n aj_d180 rfl rfl ?_
          refine cw_add aj_d180 rfl (a := x8.toInt) (b := (0 : Int)) rfl rfl (by omega) (by omega) (fun x65 ex65 => ?_)
          refine cw_t0 (j := 8) aj_d180 rfl (by decide) rfl ?_
          obtain ⟨lv66, elv66⟩ : ∃ l, l = aj_set1 lv63 8 (.int x65) := ⟨_, rfl⟩
          rw [← elv66]
          have hlv66_7 : aj_lv lv66 7 = some (.int x62) := cw_e1 elv66 hlv63_7 (by decide) (Or.inr rfl)
          have hlv66_9 : aj_lv lv66 9 = some (.int x52) := cw_e1 elv66 hlv63_9 (by decide) (Or.inl (by decide))
          have hlv66_13 : aj_lv lv66 13 = some (.int x47) := cw_e1 elv66 hlv63_13 (by decide) (Or.inl (by decide))
          have hlv66_12 : aj_lv lv66 12 = some (.int o) := cw_e1 elv66 hlv63_12 (by decide) (Or.inl (by decide))
          have hlv66_0 : aj_lv lv66 0 = some (.ref (52 + 55)) := cw_e1 elv66 hlv63_0 (by decide) (Or.inl (by decide))
          have hlv66_1 : aj_lv lv66 1 = some (.ref (52 + i1)) := cw_e1 elv66 hlv63_1 (by decide) (Or.inl (by decide))
          have hlv66_2 : aj_lv lv66 2 = some (.ref (52 + i2)) := cw_e1 elv66 hlv63_2 (by decide) (Or.inl (by decide))
          have hlv66_3 : aj_lv lv66 3 = some (.int x3) := cw_e1 elv66 hlv63_3 (by decide) (Or.inl (by decide))
          have hlv66_4 : aj_lv lv66 4 = some (.int x4) := cw_e1 elv66 hlv63_4 (by decide) (Or.inl (by decide))
          have hlv66_5 : aj_lv lv66 5 = some (.int x5) := cw_e1 elv66 hlv63_5 (by decide) (Or.inl (by decide))
          have hlv66_6 : aj_lv lv66 6 = some (.int x6) := cw_e1 elv66 hlv63_6 (by decide) (Or.inl (by decide))
          have hlv66_10 : aj_lv lv66 10 = some (.int x10) := cw_e1 elv66 hlv63_10 (by decide) (Or.inl (by decide))
          have hlv66_11 : aj_lv lv66 11 = some (.int x11) := cw_e1 elv66 hlv63_11 (by decide) (Or.inl (by decide))
          have hlv66_8 : aj_lv lv66 8 = some (.int x65) := by rw [elv66]; exact ak_set1_eq _ _ _
          show cw_W _ _ _ _ _ _ _ _ _ _ 168 lv66 []
          refine cw_n aj_d180 rfl rfl ?_
          have z0 : (Int32.ofInt 0).toInt = 0 := rfl
          have z1 : (Int32.ofInt 1).toInt = 1 := rfl
          exact ih hT51 (hoh50.trans (ho44.trans hE)) hlv66_0 hlv66_1 hlv66_2 hlv66_3 hlv66_4 hlv66_5 hlv66_6 hlv66_7 hlv66_8 hlv66_9 (by omega)
        · have q64 : o.toInt ≥ (0 : Int) := aw_t_lt (a := o.toInt) (b := (0 : Int)) rfl rfl q64
          refine cw_n aj_d180 rfl rfl ?_
          refine cw_n aj_d180 rfl rfl ?_
          refine cw_add aj_d180 rfl (a := x8.toInt) (b := (1 : Int)) rfl rfl (by omega) (by omega) (fun x67 ex67 => ?_)
          refine cw_t0 (j := 8) aj_d180 rfl (by decide) rfl ?_
          obtain ⟨lv68, elv68⟩ : ∃ l, l = aj_set1 lv63 8 (.int x67) := ⟨_, rfl⟩
          rw [← elv68]
          have hlv68_7 : aj_lv lv68 7 = some (.int x62) := cw_e1 elv68 hlv63_7 (by decide) (Or.inr rfl)
          have hlv68_9 : aj_lv lv68 9 = some (.int x52) := cw_e1 elv68 hlv63_9 (by decide) (Or.inl (by decide))
          have hlv68_13 : aj_lv lv68 13 = some (.int x47) := cw_e1 elv68 hlv63_13 (by decide) (Or.inl (by decide))
          have hlv68_12 : aj_lv lv68 12 = some (.int o) := cw_e1 elv68 hlv63_12 (by decide) (Or.inl (by decide))
          have hlv68_0 : aj_lv lv68 0 = some (.ref (52 + 55)) := cw_e1 elv68 hlv63_0 (by decide) (Or.inl (by decide))
          have hlv68_1 : aj_lv lv68 1 = some (.ref (52 + i1)) := cw_e1 elv68 hlv63_1 (by decide) (Or.inl (by decide))
          have hlv68_2 : aj_lv lv68 2 = some (.ref (52 + i2)) := cw_e1 elv68 hlv63_2 (by decide) (Or.inl (by decide))
          have hlv68_3 : aj_lv lv68 3 = some (.int x3) := cw_e1 elv68 hlv63_3 (by decide) (Or.inl (by decide))
          have hlv68_4 : aj_lv lv68 4 = some (.int x4) := cw_e1 elv68 hlv63_4 (by decide) (Or.inl (by decide))
          have hlv68_5 : aj_lv lv68 5 = some (.int x5) := cw_e1 elv68 hlv63_5 (by decide) (Or.inl (by decide))
          have hlv68_6 : aj_lv lv68 6 = some (.int x6) := cw_e1 elv68 hlv63_6 (by decide) (Or.inl (by decide))
          have hlv68_10 : aj_lv lv68 10 = some (.int x10) := cw_e1 elv68 hlv63_10 (by decide) (Or.inl (by decide))
          have hlv68_11 : aj_lv lv68 11 = some (.int x11) := cw_e1 elv68 hlv63_11 (by decide) (Or.inl (by decide))
          have hlv68_8 : aj_lv lv68 8 = some (.int x67) := by rw [elv68]; exact ak_set1_eq _ _ _
          show cw_W _ _ _ _ _ _ _ _ _ _ 168 lv68 []
          refine cw_n aj_d180 rfl rfl ?_
          have z0 : (Int32.ofInt 0).toInt = 0 := rfl
          have z1 : (Int32.ofInt 1).toInt = 1 := rfl
          exact ih hT51 (hoh50.trans (ho44.trans hE)) hlv68_0 hlv68_1 hlv68_2 hlv68_3 hlv68_4 hlv68_5 hlv68_6 hlv68_7 hlv68_8 hlv68_9 (by omega)
    · have q43 : o.toInt > (0 : Int) := aw_t_le (a := o.toInt) (b := (0 : Int)) rfl rfl q43
      refine cw_l0 aj_d180 rfl rfl hlv41_11 ?_
      refine cw_n aj_d180 rfl rfl ?_
      refine cw_t0 (j := 13) aj_d180 rfl (by decide) rfl ?_
      obtain ⟨lv69, elv69⟩ : ∃ l, l = aj_set1 lv41 13 (.int x11) := ⟨_, rfl⟩
      rw [← elv69]
      have hlv69_12 : aj_lv lv69 12 = some (.int o) := cw_e1 elv69 hlv41_12 (by decide) (Or.inr rfl)
      have hlv69_0 : aj_lv lv69 0 = some (.ref (52 + 55)) := cw_e1 elv69 hlv41_0 (by decide) (Or.inl (by decide))
      have hlv69_1 : aj_lv lv69 1 = some (.ref (52 + i1)) := cw_e1 elv69 hlv41_1 (by decide) (Or.inl (by decide))
      have hlv69_2 : aj_lv lv69 2 = some (.ref (52 + i2)) := cw_e1 elv69 hlv41_2 (by decide) (Or.inl (by decide))
      have hlv69_3 : aj_lv lv69 3 = some (.int x3) := cw_e1 elv69 hlv41_3 (by decide) (Or.inl (by decide))
      have hlv69_4 : aj_lv lv69 4 = some (.int x4) := cw_e1 elv69 hlv41_4 (by decide) (Or.inl (by decide))
      have hlv69_5 : aj_lv lv69 5 = some (.int x5) := cw_e1 elv69 hlv41_5 (by decide) (Or.inl (by decide))
      have hlv69_6 : aj_lv lv69 6 = some (.int x6) := cw_e1 elv69 hlv41_6 (by decide) (Or.inl (by decide))
      have hlv69_7 : aj_lv lv69 7 = some (.int x7) := cw_e1 elv69 hlv41_7 (by decide) (Or.inl (by decide))
      have hlv69_8 : aj_lv lv69 8 = some (.int x8) := cw_e1 elv69 hlv41_8 (by decide) (Or.inl (by decide))
      have hlv69_9 : aj_lv lv69 9 = some (.int x9) := cw_e1 elv69 hlv41_9 (by decide) (Or.inl (by decide))
      have hlv69_10 : aj_lv lv69 10 = some (.int x10) := cw_e1 elv69 hlv41_10 (by decide) (Or.inl (by decide))
      have hlv69_11 : aj_lv lv69 11 = some (.int x11) := cw_e1 elv69 hlv41_11 (by decide) (Or.inl (by decide))
      have hlv69_13 : aj_lv lv69 13 = some (.int x11) := by rw [elv69]; exact ak_set1_eq _ _ _
      show cw_W _ _ _ _ _ _ _ _ _ _ 124 lv69 []
      refine cw_l2 aj_d180 rfl rfl hlv69_0 ?_
      obtain ⟨v70, f70, g70⟩ := cw_tyF (i := 55) (t := 54) (c := 2) (k := 6) (y := (.inr (some ([98], false)))) hT (cw_s0 hB rfl) rfl rfl rfl
      obtain ⟨i70, rfl, q70⟩ := cw_gr g70 (by decide)
      refine cw_g (i := 55) (v := .ref (52 + i70)) htb.1 aj_d180 rfl rfl (by decide) f70 ?_
      refine cw_l0 aj_d180 rfl rfl hlv69_9 ?_
      refine cw_l0 aj_d180 rfl rfl hlv69_13 ?_
      refine cw_ks0 (con' := ap_c178) aj_d180 hT rfl rfl rfl [_, _, _] rfl rfl (Nat.le_of_ble_eq_true rfl) ⟨by decide, by decide⟩ (cw_putl htb hT hB (by omega) q70 x9 x11) ?_
      rintro rh71 h71 hT72 hoh71 hRh71
      obtain rfl := cw_rN hRh71
      show cw_W _ _ _ _ _ _ _ _ _ _ 135 lv69 []
      refine cw_incw aj_d180 rfl hlv69_9 (by decide) (fun x73 ex73 => ?_)
      obtain ⟨lv74, elv74⟩ : ∃ l, l = aj_set1 lv69 9 (.int x73) := ⟨_, rfl⟩
      rw [← elv74]
      have hlv74_13 : aj_lv lv74 13 = some (.int x11) := cw_e1 elv74 hlv69_13 (by decide) (Or.inl (by decide))
      have hlv74_12 : aj_lv lv74 12 = some (.int o) := cw_e1 elv74 hlv69_12 (by decide) (Or.inl (by decide))
      have hlv74_0 : aj_lv lv74 0 = some (.ref (52 + 55)) := cw_e1 elv74 hlv69_0 (by decide) (Or.inl (by decide))
      have hlv74_1 : aj_lv lv74 1 = some (.ref (52 + i1)) := cw_e1 elv74 hlv69_1 (by decide) (Or.inl (by decide))
      have hlv74_2 : aj_lv lv74 2 = some (.ref (52 + i2)) := cw_e1 elv74 hlv69_2 (by decide) (Or.inl (by decide))
      have hlv74_3 : aj_lv lv74 3 = some (.int x3) := cw_e1 elv74 hlv69_3 (by decide) (Or.inl (by decide))
      have hlv74_4 : aj_lv lv74 4 = some (.int x4) := cw_e1 elv74 hlv69_4 (by decide) (Or.inl (by decide))
      have hlv74_5 : aj_lv lv74 5 = some (.int x5) := cw_e1 elv74 hlv69_5 (by decide) (Or.inl (by decide))
      have hlv74_6 : aj_lv lv74 6 = some (.int x6) := cw_e1 elv74 hlv69_6 (by decide) (Or.inl (by decide))
      have hlv74_7 : aj_lv lv74 7 = some (.int x7) := cw_e1 elv74 hlv69_7 (by decide) (Or.inl (by decide))
      have hlv74_8 : aj_lv lv74 8 = some (.int x8) := cw_e1 elv74 hlv69_8 (by decide) (Or.inr rfl)
      have hlv74_10 : aj_lv lv74 10 = some (.int x10) := cw_e1 elv74 hlv69_10 (by decide) (Or.inl (by decide))
      have hlv74_11 : aj_lv lv74 11 = some (.int x11) := cw_e1 elv74 hlv69_11 (by decide) (Or.inl (by decide))
      have hlv74_9 : aj_lv lv74 9 = some (.int x73) := by rw [elv74]; exact ak_set1_eq _ _ _
      show cw_W _ _ _ _ _ _ _ _ _ _ 138 lv74 []
      refine cw_l0 aj_d180 rfl rfl hlv74_7 ?_
      refine cw_l0 aj_d180 rfl rfl hlv74_12 ?_
      refine cw_z (tgt := 149) aj_d180 rfl rfl (fun q75 => ?_) (fun q75 => ?_)
      · have q75 : o.toInt > (0 : Int) := aw_t_gt (a := o.toInt) (b := (0 : Int)) rfl rfl q75
        refine cw_n aj_d180 rfl rfl ?_
        refine cw_add aj_d180 rfl (a := x7.toInt) (b := (0 : Int)) rfl rfl (by omega) (by omega) (fun x76 ex76 => ?_)
        refine cw_t0 (j := 7) aj_d180 rfl (by decide) rfl ?_
        obtain ⟨lv77, elv77⟩ : ∃ l, l = aj_set1 lv74 7 (.int x76) := ⟨_, rfl⟩
        rw [← elv77]
        have hlv77_9 : aj_lv lv77 9 = some (.int x73) := cw_e1 elv77 hlv74_9 (by decide) (Or.inl (by decide))
        have hlv77_13 : aj_lv lv77 13 = some (.int x11) := cw_e1 elv77 hlv74_13 (by decide) (Or.inl (by decide))
        have hlv77_12 : aj_lv lv77 12 = some (.int o) := cw_e1 elv77 hlv74_12 (by decide) (Or.inl (by decide))
        have hlv77_0 : aj_lv lv77 0 = some (.ref (52 + 55)) := cw_e1 elv77 hlv74_0 (by decide) (Or.inl (by decide))
        have hlv77_1 : aj_lv lv77 1 = some (.ref (52 + i1)) := cw_e1 elv77 hlv74_1 (by decide) (Or.inl (by decide))
        have hlv77_2 : aj_lv lv77 2 = some (.ref (52 + i2)) := cw_e1 elv77 hlv74_2 (by decide) (Or.inl (by decide))
        have hlv77_3 : aj_lv lv77 3 = some (.int x3) := cw_e1 elv77 hlv74_3 (by decide) (Or.inl (by decide))
        have hlv77_4 : aj_lv lv77 4 = some (.int x4) := cw_e1 elv77 hlv74_4 (by decide) (Or.inl (by decide))
        have hlv77_5 : aj_lv lv77 5 = some (.int x5) := cw_e1 elv77 hlv74_5 (by decide) (Or.inl (by decide))
        have hlv77_6 : aj_lv lv77 6 = some (.int x6) := cw_e1 elv77 hlv74_6 (by decide) (Or.inr rfl)
        have hlv77_8 : aj_lv lv77 8 = some (.int x8) := cw_e1 elv77 hlv74_8 (by decide) (Or.inl (by decide))
        have hlv77_10 : aj_lv lv77 10 = some (.int x10) := cw_e1 elv77 hlv74_10 (by decide) (Or.inl (by decide))
        have hlv77_11 : aj_lv lv77 11 = some (.int x11) := cw_e1 elv77 hlv74_11 (by decide) (Or.inl (by decide))
        have hlv77_7 : aj_lv lv77 7 = some (.int x76) := by rw [elv77]; exact ak_set1_eq _ _ _
        show cw_W _ _ _ _ _ _ _ _ _ _ 153 lv77 []
        refine cw_l0 aj_d180 rfl rfl hlv77_8 ?_
        refine cw_l0 aj_d180 rfl rfl hlv77_12 ?_
        refine cw_z (tgt := 164) aj_d180 rfl rfl (fun q78 => ?_) (fun q78 => ?_)
        · have q78 : o.toInt < (0 : Int) := aw_t_lt (a := o.toInt) (b := (0 : Int)) rfl rfl q78
          refine cw_n aj_d180 rfl rfl ?_
          refine cw_add aj_d180 rfl (a := x8.toInt) (b := (0 : Int)) rfl rfl (by omega) (by omega) (fun x79 ex79 => ?_)
          refine cw_t0 (j := 8) aj_d180 rfl (by decide) rfl ?_
          obtain ⟨lv80, elv80⟩ : ∃ l, l = aj_set1 lv77 8 (.int x79) := ⟨_, rfl⟩
          rw [← elv80]
          have hlv80_7 : aj_lv lv80 7 = some (.int x76) := cw_e1 elv80 hlv77_7 (by decide) (Or.inr rfl)
          have hlv80_9 : aj_lv lv80 9 = some (.int x73) := cw_e1 elv80 hlv77_9 (by decide) (Or.inl (by decide))
          have hlv80_13 : aj_lv lv80 13 = some (.int x11) := cw_e1 elv80 hlv77_13 (by decide) (Or.inl (by decide))
          have hlv80_12 : aj_lv lv80 12 = some (.int o) := cw_e1 elv80 hlv77_12 (by decide) (Or.inl (by decide))
          have hlv80_0 : aj_lv lv80 0 = some (.ref (52 + 55)) := cw_e1 elv80 hlv77_0 (by decide) (Or.inl (by decide))
          have hlv80_1 : aj_lv lv80 1 = some (.ref (52 + i1)) := cw_e1 elv80 hlv77_1 (by decide) (Or.inl (by decide))
          have hlv80_2 : aj_lv lv80 2 = some (.ref (52 + i2)) := cw_e1 elv80 hlv77_2 (by decide) (Or.inl (by decide))
          have hlv80_3 : aj_lv lv80 3 = some (.int x3) := cw_e1 elv80 hlv77_3 (by decide) (Or.inl (by decide))
          have hlv80_4 : aj_lv lv80 4 = some (.int x4) := cw_e1 elv80 hlv77_4 (by decide) (Or.inl (by decide))
          have hlv80_5 : aj_lv lv80 5 = some (.int x5) := cw_e1 elv80 hlv77_5 (by decide) (Or.inl (by decide))
          have hlv80_6 : aj_lv lv80 6 = some (.int x6) := cw_e1 elv80 hlv77_6 (by decide) (Or.inl (by decide))
          have hlv80_10 : aj_lv lv80 10 = some (.int x10) := cw_e1 elv80 hlv77_10 (by decide) (Or.inl (by decide))
          have hlv80_11 : aj_lv lv80 11 = some (.int x11) := cw_e1 elv80 hlv77_11 (by decide) (Or.inl (by decide))
          have hlv80_8 : aj_lv lv80 8 = some (.int x79) := by rw [elv80]; exact ak_set1_eq _ _ _
          show cw_W _ _ _ _ _ _ _ _ _ _ 168 lv80 []
          refine cw_n aj_d180 rfl rfl ?_
          have z0 : (Int32.ofInt 0).toInt = 0 := rfl
          have z1 : (Int32.ofInt 1).toInt = 1 := rfl
          exact ih hT72 (hoh71.trans hE) hlv80_0 hlv80_1 hlv80_2 hlv80_3 hlv80_4 hlv80_5 hlv80_6 hlv80_7 hlv80_8 hlv80_9 (by omega)
        · have q78 : o.toInt ≥ (0 : Int) := aw_t_lt (a := o.toInt) (b := (0 : Int)) rfl rfl q78
          refine cw_n aj_d180 rfl rfl ?_
          refine cw_n aj_d180 rfl rfl ?_
          refine cw_add aj_d180 rfl (a := x8.toInt) (b := (1 : Int)) rfl rfl (by omega) (by omega) (fun x81 ex81 => ?_)
          refine cw_t0 (j := 8) aj_d180 rfl (by decide) rfl ?_
          obtain ⟨lv82, elv82⟩ : ∃ l, l = aj_set1 lv77 8 (.int x81) := ⟨_, rfl⟩
          rw [← elv82]
          have hlv82_7 : aj_lv lv82 7 = some (.int x76) := cw_e1 elv82 hlv77_7 (by decide) (Or.inr rfl)
          have hlv82_9 : aj_lv lv82 9 = some (.int x73) := cw_e1 elv82 hlv77_9 (by decide) (Or.inl (by decide))
          have hlv82_13 : aj_lv lv82 13 = some (.int x11) := cw_e1 elv82 hlv77_13 (by decide) (Or.inl (by decide))
          have hlv82_12 : aj_lv lv82 12 = some (.int o) := cw_e1 elv82 hlv77_12 (by decide) (Or.inl (by decide))
          have hlv82_0 : aj_lv lv82 0 = some (.ref (52 + 55)) := cw_e1 elv82 hlv77_0 (by decide) (Or.inl (by decide))
          have hlv82_1 : aj_lv lv82 1 = some (.ref (52 + i1)) := cw_e1 elv82 hlv77_1 (by decide) (Or.inl (by decide))
          have hlv82_2 : aj_lv lv82 2 = some (.ref (52 + i2)) := cw_e1 elv82 hlv77_2 (by decide) (Or.inl (by decide))
          have hlv82_3 : aj_lv lv82 3 = some (.int x3) := cw_e1 elv82 hlv77_3 (by decide) (Or.inl (by decide))
          have hlv82_4 : aj_lv lv82 4 = some (.int x4) := cw_e1 elv82 hlv77_4 (by decide) (Or.inl (by decide))
          have hlv82_5 : aj_lv lv82 5 = some (.int x5) := cw_e1 elv82 hlv77_5 (by decide) (Or.inl (by decide))
          have hlv82_6 : aj_lv lv82 6 = some (.int x6) := cw_e1 elv82 hlv77_6 (by decide) (Or.inl (by decide))
          have hlv82_10 : aj_lv lv82 10 = some (.int x10) := cw_e1 elv82 hlv77_10 (by decide) (Or.inl (by decide))
          have hlv82_11 : aj_lv lv82 11 = some (.int x11) := cw_e1 elv82 hlv77_11 (by decide) (Or.inl (by decide))
          have hlv82_8 : aj_lv lv82 8 = some (.int x81) := by rw [elv82]; exact ak_set1_eq _ _ _
          show cw_W _ _ _ _ _ _ _ _ _ _ 168 lv82 []
          refine cw_n aj_d180 rfl rfl ?_
          have z0 : (Int32.ofInt 0).toInt = 0 := rfl
          have z1 : (Int32.ofInt 1).toInt = 1 := rfl
          exact ih hT72 (hoh71.trans hE) hlv82_0 hlv82_1 hlv82_2 hlv82_3 hlv82_4 hlv82_5 hlv82_6 hlv82_7 hlv82_8 hlv82_9 (by omega)
      · have q75 : o.toInt ≤ (0 : Int) := aw_t_gt (a := o.toInt) (b := (0 : Int)) rfl rfl q75
        refine cw_n aj_d180 rfl rfl ?_
        refine cw_n aj_d180 rfl rfl ?_
        refine cw_add aj_d180 rfl (a := x7.toInt) (b := (1 : Int)) rfl rfl (by omega) (by omega) (fun x83 ex83 => ?_)
        refine cw_t0 (j := 7) aj_d180 rfl (by decide) rfl ?_
        obtain ⟨lv84, elv84⟩ : ∃ l, l = aj_set1 lv74 7 (.int x83) := ⟨_, rfl⟩
        rw [← elv84]
        have hlv84_9 : aj_lv lv84 9 = some (.int x73) := cw_e1 elv84 hlv74_9 (by decide) (Or.inl (by decide))
        have hlv84_13 : aj_lv lv84 13 = some (.int x11) := cw_e1 elv84 hlv74_13 (by decide) (Or.inl (by decide))
        have hlv84_12 : aj_lv lv84 12 = some (.int o) := cw_e1 elv84 hlv74_12 (by decide) (Or.inl (by decide))
        have hlv84_0 : aj_lv lv84 0 = some (.ref (52 + 55)) := cw_e1 elv84 hlv74_0 (by decide) (Or.inl (by decide))
        have hlv84_1 : aj_lv lv84 1 = some (.ref (52 + i1)) := cw_e1 elv84 hlv74_1 (by decide) (Or.inl (by decide))
        have hlv84_2 : aj_lv lv84 2 = some (.ref (52 + i2)) := cw_e1 elv84 hlv74_2 (by decide) (Or.inl (by decide))
        have hlv84_3 : aj_lv lv84 3 = some (.int x3) := cw_e1 elv84 hlv74_3 (by decide) (Or.inl (by decide))
        have hlv84_4 : aj_lv lv84 4 = some (.int x4) := cw_e1 elv84 hlv74_4 (by decide) (Or.inl (by decide))
        have hlv84_5 : aj_lv lv84 5 = some (.int x5) := cw_e1 elv84 hlv74_5 (by decide) (Or.inl (by decide))
        have hlv84_6 : aj_lv lv84 6 = some (.int x6) := cw_e1 elv84 hlv74_6 (by decide) (Or.inr rfl)
        have hlv84_8 : aj_lv lv84 8 = some (.int x8) := cw_e1 elv84 hlv74_8 (by decide) (Or.inl (by decide))
        have hlv84_10 : aj_lv lv84 10 = some (.int x10) := cw_e1 elv84 hlv74_10 (by decide) (Or.inl (by decide))
        have hlv84_11 : aj_lv lv84 11 = some (.int x11) := cw_e1 elv84 hlv74_11 (by decide) (Or.inl (by decide))
        have hlv84_7 : aj_lv lv84 7 = some (.int x83) := by rw [elv84]; exact ak_set1_eq _ _ _
        show cw_W _ _ _ _ _ _ _ _ _ _ 153 lv84 []
        refine cw_l0 aj_d180 rfl rfl hlv84_8 ?_
        refine cw_l0 aj_d180 rfl rfl hlv84_12 ?_
        refine cw_z (tgt := 164) aj_d180 rfl rfl (fun q85 => ?_) (fun q85 => ?_)
        · have q85 : o.toInt < (0 : Int) := aw_t_lt (a := o.toInt) (b := (0 : Int)) rfl rfl q85
          refine cw_n aj_d180 rfl rfl ?_
          refine cw_add aj_d180 rfl (a := x8.toInt) (b := (0 : Int)) rfl rfl (by omega) (by omega) (fun x86 ex86 => ?_)
          refine cw_t0 (j := 8) aj_d180 rfl (by decide) rfl ?_
          obtain ⟨lv87, elv87⟩ : ∃ l, l = aj_set1 lv84 8 (.int x86) := ⟨_, rfl⟩
          rw [← elv87]
          have hlv87_7 : aj_lv lv87 7 = some (.int x83) := cw_e1 elv87 hlv84_7 (by decide) (Or.inr rfl)
          have hlv87_9 : aj_lv lv87 9 = some (.int x73) := cw_e1 elv87 hlv84_9 (by decide) (Or.inl (by decide))
          have hlv87_13 : aj_lv lv87 13 = some (.int x11) := cw_e1 elv87 hlv84_13 (by decide) (Or.inl (by decide))
          have hlv87_12 : aj_lv lv87 12 = some (.int o) := cw_e1 elv87 hlv84_12 (by decide) (Or.inl (by decide))
          have hlv87_0 : aj_lv lv87 0 = some (.ref (52 + 55)) := cw_e1 elv87 hlv84_0 (by decide) (Or.inl (by decide))
          have hlv87_1 : aj_lv lv87 1 = some (.ref (52 + i1)) := cw_e1 elv87 hlv84_1 (by decide) (Or.inl (by decide))
          have hlv87_2 : aj_lv lv87 2 = some (.ref (52 + i2)) := cw_e1 elv87 hlv84_2 (by decide) (Or.inl (by decide))
          have hlv87_3 : aj_lv lv87 3 = some (.int x3) := cw_e1 elv87 hlv84_3 (by decide) (Or.inl (by decide))
          have hlv87_4 : aj_lv lv87 4 = some (.int x4) := cw_e1 elv87 hlv84_4 (by decide) (Or.inl (by decide))
          have hlv87_5 : aj_lv lv87 5 = some (.int x5) := cw_e1 elv87 hlv84_5 (by decide) (Or.inl (by decide))
          have hlv87_6 : aj_lv lv87 6 = some (.int x6) := cw_e1 elv87 hlv84_6 (by decide) (Or.inl (by decide))
          have hlv87_10 : aj_lv lv87 10 = some (.int x10) := cw_e1 elv87 hlv84_10 (by decide) (Or.inl (by decide))
          have hlv87_11 : aj_lv lv87 11 = some (.int x11) := cw_e1 elv87 hlv84_11 (by decide) (Or.inl (by decide))
          have hlv87_8 : aj_lv lv87 8 = some (.int x86) := by rw [elv87]; exact ak_set1_eq _ _ _
          show cw_W _ _ _ _ _ _ _ _ _ _ 168 lv87 []
          refine cw_n aj_d180 rfl rfl ?_
          have z0 : (Int32.ofInt 0).toInt = 0 := rfl
          have z1 : (Int32.ofInt 1).toInt = 1 := rfl
          exact ih hT72 (hoh71.trans hE) hlv87_0 hlv87_1 hlv87_2 hlv87_3 hlv87_4 hlv87_5 hlv87_6 hlv87_7 hlv87_8 hlv87_9 (by omega)
        · have q85 : o.toInt ≥ (0 : Int) := aw_t_lt (a := o.toInt) (b := (0 : Int)) rfl rfl q85
          refine cw_n aj_d180 rfl rfl ?_
          refine cw_n aj_d180 rfl rfl ?_
          refine cw_add aj_d180 rfl (a := x8.toInt) (b := (1 : Int)) rfl rfl (by omega) (by omega) (fun x88 ex88 => ?_)
          refine cw_t0 (j := 8) aj_d180 rfl (by decide) rfl ?_
          obtain ⟨lv89, elv89⟩ : ∃ l, l = aj_set1 lv84 8 (.int x88) := ⟨_, rfl⟩
          rw [← elv89]
          have hlv89_7 : aj_lv lv89 7 = some (.int x83) := cw_e1 elv89 hlv84_7 (by decide) (Or.inr rfl)
          have hlv89_9 : aj_lv lv89 9 = some (.int x73) := cw_e1 elv89 hlv84_9 (by decide) (Or.inl (by decide))
          have hlv89_13 : aj_lv lv89 13 = some (.int x11) := cw_e1 elv89 hlv84_13 (by decide) (Or.inl (by decide))
          have hlv89_12 : aj_lv lv89 12 = some (.int o) := cw_e1 elv89 hlv84_12 (by decide) (Or.inl (by decide))
          have hlv89_0 : aj_lv lv89 0 = some (.ref (52 + 55)) := cw_e1 elv89 hlv84_0 (by decide) (Or.inl (by decide))
          have hlv89_1 : aj_lv lv89 1 = some (.ref (52 + i1)) := cw_e1 elv89 hlv84_1 (by decide) (Or.inl (by decide))
          have hlv89_2 : aj_lv lv89 2 = some (.ref (52 + i2)) := cw_e1 elv89 hlv84_2 (by decide) (Or.inl (by decide))
          have hlv89_3 : aj_lv lv89 3 = some (.int x3) := cw_e1 elv89 hlv84_3 (by decide) (Or.inl (by decide))
          have hlv89_4 : aj_lv lv89 4 = some (.int x4) := cw_e1 elv89 hlv84_4 (by decide) (Or.inl (by decide))
          have hlv89_5 : aj_lv lv89 5 = some (.int x5) := cw_e1 elv89 hlv84_5 (by decide) (Or.inl (by decide))
          have hlv89_6 : aj_lv lv89 6 = some (.int x6) := cw_e1 elv89 hlv84_6 (by decide) (Or.inl (by decide))
          have hlv89_10 : aj_lv lv89 10 = some (.int x10) := cw_e1 elv89 hlv84_10 (by decide) (Or.inl (by decide))
          have hlv89_11 : aj_lv lv89 11 = some (.int x11) := cw_e1 elv89 hlv84_11 (by decide) (Or.inl (by decide))
          have hlv89_8 : aj_lv lv89 8 = some (.int x88) := by rw [elv89]; exact ak_set1_eq _ _ _
          show cw_W _ _ _ _ _ _ _ _ _ _ 168 lv89 []
          refine cw_n aj_d180 rfl rfl ?_
          have z0 : (Int32.ofInt 0).toInt = 0 := rfl
          have z1 : (Int32.ofInt 1).toInt = 1 := rfl
          exact ih hT72 (hoh71.trans hE) hlv89_0 hlv89_1 hlv89_2 hlv89_3 hlv89_4 hlv89_5 hlv89_6 hlv89_7 hlv89_8 hlv89_9 (by omega)
  · have q42 : o.toInt < (0 : Int) := aw_t_ge (a := o.toInt) (b := (0 : Int)) rfl rfl q42
    refine cw_l0 aj_d180 rfl rfl hlv41_10 ?_
    refine cw_n aj_d180 rfl rfl ?_
    refine cw_t0 (j := 13) aj_d180 rfl (by decide) rfl ?_
    obtain ⟨lv90, elv90⟩ : ∃ l, l = aj_set1 lv41 13 (.int x10) := ⟨_, rfl⟩
    rw [← elv90]
    have hlv90_12 : aj_lv lv90 12 = some (.int o) := cw_e1 elv90 hlv41_12 (by decide) (Or.inr rfl)
    have hlv90_0 : aj_lv lv90 0 = some (.ref (52 + 55)) := cw_e1 elv90 hlv41_0 (by decide) (Or.inl (by decide))
    have hlv90_1 : aj_lv lv90 1 = some (.ref (52 + i1)) := cw_e1 elv90 hlv41_1 (by decide) (Or.inl (by decide))
    have hlv90_2 : aj_lv lv90 2 = some (.ref (52 + i2)) := cw_e1 elv90 hlv41_2 (by decide) (Or.inl (by decide))
    have hlv90_3 : aj_lv lv90 3 = some (.int x3) := cw_e1 elv90 hlv41_3 (by decide) (Or.inl (by decide))
    have hlv90_4 : aj_lv lv90 4 = some (.int x4) := cw_e1 elv90 hlv41_4 (by decide) (Or.inl (by decide))
    have hlv90_5 : aj_lv lv90 5 = some (.int x5) := cw_e1 elv90 hlv41_5 (by decide) (Or.inl (by decide))
    have hlv90_6 : aj_lv lv90 6 = some (.int x6) := cw_e1 elv90 hlv41_6 (by decide) (Or.inl (by decide))
    have hlv90_7 : aj_lv lv90 7 = some (.int x7) := cw_e1 elv90 hlv41_7 (by decide) (Or.inl (by decide))
    have hlv90_8 : aj_lv lv90 8 = some (.int x8) := cw_e1 elv90 hlv41_8 (by decide) (Or.inl (by decide))
    have hlv90_9 : aj_lv lv90 9 = some (.int x9) := cw_e1 elv90 hlv41_9 (by decide) (Or.inl (by decide))
    have hlv90_10 : aj_lv lv90 10 = some (.int x10) := cw_e1 elv90 hlv41_10 (by decide) (Or.inl (by decide))
    have hlv90_11 : aj_lv lv90 11 = some (.int x11) := cw_e1 elv90 hlv41_11 (by decide) (Or.inl (by decide))
    have hlv90_13 : aj_lv lv90 13 = some (.int x10) := by rw [elv90]; exact ak_set1_eq _ _ _
    show cw_W _ _ _ _ _ _ _ _ _ _ 124 lv90 []
    refine cw_l2 aj_d180 rfl rfl hlv90_0 ?_
    obtain ⟨v91, f91, g91⟩ := cw_tyF (i := 55) (t := 54) (c := 2) (k := 6) (y := (.inr (some ([98], false)))) hT (cw_s0 hB rfl) rfl rfl rfl
    obtain ⟨i91, rfl, q91⟩ := cw_gr g91 (by decide)
    refine cw_g (i := 55) (v := .ref (52 + i91)) htb.1 aj_d180 rfl rfl (by decide) f91 ?_
    refine cw_l0 aj_d180 rfl rfl hlv90_9 ?_
    refine cw_l0 aj_d180 rfl rfl hlv90_13 ?_
    refine cw_ks0 (con' := ap_c178) aj_d180 hT rfl rfl rfl [_, _, _] rfl rfl (Nat.le_of_ble_eq_true rfl) ⟨by decide, by decide⟩ (cw_putl htb hT hB (by omega) q91 x9 x10) ?_
    rintro rh92 h92 hT93 hoh92 hRh92
    obtain rfl := cw_rN hRh92
    show cw_W _ _ _ _ _ _ _ _ _ _ 135 lv90 []
    refine cw_incw aj_d180 rfl hlv90_9 (by decide) (fun x94 ex94 => ?_)
    obtain ⟨lv95, elv95⟩ : ∃ l, l = aj_set1 lv90 9 (.int x94) := ⟨_, rfl⟩
    rw [← elv95]
    have hlv95_13 : aj_lv lv95 13 = some (.int x10) := cw_e1 elv95 hlv90_13 (by decide) (Or.inl (by decide))
    have hlv95_12 : aj_lv lv95 12 = some (.int o) := cw_e1 elv95 hlv90_12 (by decide) (Or.inl (by decide))
    have hlv95_0 : aj_lv lv95 0 = some (.ref (52 + 55)) := cw_e1 elv95 hlv90_0 (by decide) (Or.inl (by decide))
    have hlv95_1 : aj_lv lv95 1 = some (.ref (52 + i1)) := cw_e1 elv95 hlv90_1 (by decide) (Or.inl (by decide))
    have hlv95_2 : aj_lv lv95 2 = some (.ref (52 + i2)) := cw_e1 elv95 hlv90_2 (by decide) (Or.inl (by decide))
    have hlv95_3 : aj_lv lv95 3 = some (.int x3) := cw_e1 elv95 hlv90_3 (by decide) (Or.inl (by decide))
    have hlv95_4 : aj_lv lv95 4 = some (.int x4) := cw_e1 elv95 hlv90_4 (by decide) (Or.inl (by decide))
    have hlv95_5 : aj_lv lv95 5 = some (.int x5) := cw_e1 elv95 hlv90_5 (by decide) (Or.inl (by decide))
    have hlv95_6 : aj_lv lv95 6 = some (.int x6) := cw_e1 elv95 hlv90_6 (by decide) (Or.inl (by decide))
    have hlv95_7 : aj_lv lv95 7 = some (.int x7) := cw_e1 elv95 hlv90_7 (by decide) (Or.inl (by decide))
    have hlv95_8 : aj_lv lv95 8 = some (.int x8) := cw_e1 elv95 hlv90_8 (by decide) (Or.inr rfl)
    have hlv95_10 : aj_lv lv95 10 = some (.int x10) := cw_e1 elv95 hlv90_10 (by decide) (Or.inl (by decide))
    have hlv95_11 : aj_lv lv95 11 = some (.int x11) := cw_e1 elv95 hlv90_11 (by decide) (Or.inl (by decide))
    have hlv95_9 : aj_lv lv95 9 = some (.int x94) := by rw [elv95]; exact ak_set1_eq _ _ _
    show cw_W _ _ _ _ _ _ _ _ _ _ 138 lv95 []
    refine cw_l0 aj_d180 rfl rfl hlv95_7 ?_
    refine cw_l0 aj_d180 rfl rfl hlv95_12 ?_
    refine cw_z (tgt := 149) aj_d180 rfl rfl (fun q96 => ?_) (fun q96 => ?_)
    · have q96 : o.toInt > (0 : Int) := aw_t_gt (a := o.toInt) (b := (0 : Int)) rfl rfl q96
      refine cw_n aj_d180 rfl rfl ?_
      refine cw_add aj_d180 rfl (a := x7.toInt) (b := (0 : Int)) rfl rfl (by omega) (by omega) (fun x97 ex97 => ?_)
      refine cw_t0 (j := 7) aj_d180 rfl (by decide) rfl ?_
      obtain ⟨lv98, elv98⟩ : ∃ l, l = aj_set1 lv95 7 (.int x97) := ⟨_, rfl⟩
      rw [← elv98]
      have hlv98_9 : aj_lv lv98 9 = some (.int x94) := cw_e1 elv98 hlv95_9 (by decide) (Or.inl (by decide))
      have hlv98_13 : aj_lv lv98 13 = some (.int x10) := cw_e1 elv98 hlv95_13 (by decide) (Or.inl (by decide))
      have hlv98_12 : aj_lv lv98 12 = some (.int o) := cw_e1 elv98 hlv95_12 (by decide) (Or.inl (by decide))
      have hlv98_0 : aj_lv lv98 0 = some (.ref (52 + 55)) := cw_e1 elv98 hlv95_0 (by decide) (Or.inl (by decide))
      have hlv98_1 : aj_lv lv98 1 = some (.ref (52 + i1)) := cw_e1 elv98 hlv95_1 (by decide) (Or.inl (by decide))
      have hlv98_2 : aj_lv lv98 2 = some (.ref (52 + i2)) := cw_e1 elv98 hlv95_2 (by decide) (Or.inl (by decide))
      have hlv98_3 : aj_lv lv98 3 = some (.int x3) := cw_e1 elv98 hlv95_3 (by decide) (Or.inl (by decide))
      have hlv98_4 : aj_lv lv98 4 = some (.int x4) := cw_e1 elv98 hlv95_4 (by decide) (Or.inl (by decide))
      have hlv98_5 : aj_lv lv98 5 = some (.int x5) := cw_e1 elv98 hlv95_5 (by decide) (Or.inl (by decide))
      have hlv98_6 : aj_lv lv98 6 = some (.int x6) := cw_e1 elv98 hlv95_6 (by decide) (Or.inr rfl)
      have hlv98_8 : aj_lv lv98 8 = some (.int x8) := cw_e1 elv98 hlv95_8 (by decide) (Or.inl (by decide))
      have hlv98_10 : aj_lv lv98 10 = some (.int x10) := cw_e1 elv98 hlv95_10 (by decide) (Or.inl (by decide))
      have hlv98_11 : aj_lv lv98 11 = some (.int x11) := cw_e1 elv98 hlv95_11 (by decide) (Or.inl (by decide))
      have hlv98_7 : aj_lv lv98 7 = some (.int x97) := by rw [elv98]; exact ak_set1_eq _ _ _
      show cw_W _ _ _ _ _ _ _ _ _ _ 153 lv98 []
      refine cw_l0 aj_d180 rfl rfl hlv98_8 ?_
      refine cw_l0 aj_d180 rfl rfl hlv98_12 ?_
      refine cw_z (tgt := 164) aj_d180 rfl rfl (fun q99 => ?_) (fun q99 => ?_)
      · have q99 : o.toInt < (0 : Int) := aw_t_lt (a := o.toInt) (b := (0 : Int)) rfl rfl q99
        refine cw_n aj_d180 rfl rfl ?_
        refine cw_add aj_d180 rfl (a := x8.toInt) (b := (0 : Int)) rfl rfl (by omega) (by omega) (fun x100 ex100 => ?_)
        refine cw_t0 (j := 8) aj_d180 rfl (by decide) rfl ?_
        obtain ⟨lv101, elv101⟩ : ∃ l, l = aj_set1 lv98 8 (.int x100) := ⟨_, rfl⟩
        rw [← elv101]
        have hlv101_7 : aj_lv lv101 7 = some (.int x97) := cw_e1 elv101 hlv98_7 (by decide) (Or.inr rfl)
        have hlv101_9 : aj_lv lv101 9 = some (.int x94) := cw_e1 elv101 hlv98_9 (by decide) (Or.inl (by decide))
        have hlv101_13 : aj_lv lv101 13 = some (.int x10) := cw_e1 elv101 hlv98_13 (by decide) (Or.inl (by decide))
        have hlv101_12 : aj_lv lv101 12 = some (.int o) := cw_e1 elv101 hlv98_12 (by decide) (Or.inl (by decide))
        have hlv101_0 : aj_lv lv101 0 = some (.ref (52 + 55)) := cw_e1 elv101 hlv98_0 (by decide) (Or.inl (by decide))
        have hlv101_1 : aj_lv lv101 1 = some (.ref (52 + i1)) := cw_e1 elv101 hlv98_1 (by decide) (Or.inl (by decide))
        have hlv101_2 : aj_lv lv101 2 = some (.ref (52 + i2)) := cw_e1 elv101 hlv98_2 (by decide) (Or.inl (by decide))
        have hlv101_3 : aj_lv lv101 3 = some (.int x3) := cw_e1 elv101 hlv98_3 (by decide) (Or.inl (by decide))
        have hlv101_4 : aj_lv lv101 4 = some (.int x4) := cw_e1 elv101 hlv98_4 (by decide) (Or.inl (by decide))
        have hlv101_5 : aj_lv lv101 5 = some (.int x5) := cw_e1 elv101 hlv98_5 (by decide) (Or.inl (by decide))
        have hlv101_6 : aj_lv lv101 6 = some (.int x6) := cw_e1 elv101 hlv98_6 (by decide) (Or.inl (by decide))
        have hlv101_10 : aj_lv lv101 10 = some (.int x10) := cw_e1 elv101 hlv98_10 (by decide) (Or.inl (by decide))
        have hlv101_11 : aj_lv lv101 11 = some (.int x11) := cw_e1 elv101 hlv98_11 (by decide) (Or.inl (by decide))
        have hlv101_8 : aj_lv lv101 8 = some (.int x100) := by rw [elv101]; exact ak_set1_eq _ _ _
        show cw_W _ _ _ _ _ _ _ _ _ _ 168 lv101 []
        refine cw_n aj_d180 rfl rfl ?_
        have z0 : (Int32.ofInt 0).toInt = 0 := rfl
        have z1 : (Int32.ofInt 1).toInt = 1 := rfl
        exact ih hT93 (hoh92.trans hE) hlv101_0 hlv101_1 hlv101_2 hlv101_3 hlv101_4 hlv101_5 hlv101_6 hlv101_7 hlv101_8 hlv101_9 (by omega)
      · have q99 : o.toInt ≥ (0 : Int) := aw_t_lt (a := o.toInt) (b := (0 : Int)) rfl rfl q99
        refine cw_n aj_d180 rfl rfl ?_
        refine cw_n aj_d180 rfl rfl ?_
        refine cw_add aj_d180 rfl (a := x8.toInt) (b := (1 : Int)) rfl rfl (by omega) (by omega) (fun x102 ex102 => ?_)
        refine cw_t0 (j := 8) aj_d180 rfl (by decide) rfl ?_
        obtain ⟨lv103, elv103⟩ : ∃ l, l = aj_set1 lv98 8 (.int x102) := ⟨_, rfl⟩
        rw [← elv103]
        have hlv103_7 : aj_lv lv103 7 = some (.int x97) := cw_e1 elv103 hlv98_7 (by decide) (Or.inr rfl)
        have hlv103_9 : aj_lv lv103 9 = some (.int x94) := cw_e1 elv103 hlv98_9 (by decide) (Or.inl (by decide))
        have hlv103_13 : aj_lv lv103 13 = some (.int x10) := cw_e1 elv103 hlv98_13 (by decide) (Or.inl (by decide))
        have hlv103_12 : aj_lv lv103 12 = some (.int o) := cw_e1 elv103 hlv98_12 (by decide) (Or.inl (by decide))
        have hlv103_0 : aj_lv lv103 0 = some (.ref (52 + 55)) := cw_e1 elv103 hlv98_0 (by decide) (Or.inl (by decide))
        have hlv103_1 : aj_lv lv103 1 = some (.ref (52 + i1)) := cw_e1 elv103 hlv98_1 (by decide) (Or.inl (by decide))
        have hlv103_2 : aj_lv lv103 2 = some (.ref (52 + i2)) := cw_e1 elv103 hlv98_2 (by decide) (Or.inl (by decide))
        have hlv103_3 : aj_lv lv103 3 = some (.int x3) := cw_e1 elv103 hlv98_3 (by decide) (Or.inl (by decide))
        have hlv103_4 : aj_lv lv103 4 = some (.int x4) := cw_e1 elv103 hlv98_4 (by decide) (Or.inl (by decide))
        have hlv103_5 : aj_lv lv103 5 = some (.int x5) := cw_e1 elv103 hlv98_5 (by decide) (Or.inl (by decide))
        have hlv103_6 : aj_lv lv103 6 = some (.int x6) := cw_e1 elv103 hlv98_6 (by decide) (Or.inl (by decide))
        have hlv103_10 : aj_lv lv103 10 = some (.int x10) := cw_e1 elv103 hlv98_10 (by decide) (Or.inl (by decide))
        have hlv103_11 : aj_lv lv103 11 = some (.int x11) := cw_e1 elv103 hlv98_11 (by decide) (Or.inl (by decide))
        have hlv103_8 : aj_lv lv103 8 = some (.int x102) := by rw [elv103]; exact ak_set1_eq _ _ _
        show cw_W _ _ _ _ _ _ _ _ _ _ 168 lv103 []
        refine cw_n aj_d180 rfl rfl ?_
        have z0 : (Int32.ofInt 0).toInt = 0 := rfl
        have z1 : (Int32.ofInt 1).toInt = 1 := rfl
        exact ih hT93 (hoh92.trans hE) hlv103_0 hlv103_1 hlv103_2 hlv103_3 hlv103_4 hlv103_5 hlv103_6 hlv103_7 hlv103_8 hlv103_9 (by omega)
    · have q96 : o.toInt ≤ (0 : Int) := aw_t_gt (a := o.toInt) (b := (0 : Int)) rfl rfl q96
      refine cw_n aj_d180 rfl rfl ?_
      refine cw_n aj_d180 rfl rfl ?_
      refine cw_add aj_d180 rfl (a := x7.toInt) (b := (1 : Int)) rfl rfl (by omega) (by omega) (fun x104 ex104 => ?_)
      refine cw_t0 (j := 7) aj_d180 rfl (by decide) rfl ?_
      obtain ⟨lv105, elv105⟩ : ∃ l, l = aj_set1 lv95 7 (.int x104) := ⟨_, rfl⟩
      rw [← elv105]
      have hlv105_9 : aj_lv lv105 9 = some (.int x94) := cw_e1 elv105 hlv95_9 (by decide) (Or.inl (by decide))
      have hlv105_13 : aj_lv lv105 13 = some (.int x10) := cw_e1 elv105 hlv95_13 (by decide) (Or.inl (by decide))
      have hlv105_12 : aj_lv lv105 12 = some (.int o) := cw_e1 elv105 hlv95_12 (by decide) (Or.inl (by decide))
      have hlv105_0 : aj_lv lv105 0 = some (.ref (52 + 55)) := cw_e1 elv105 hlv95_0 (by decide) (Or.inl (by decide))
      have hlv105_1 : aj_lv lv105 1 = some (.ref (52 + i1)) := cw_e1 elv105 hlv95_1 (by decide) (Or.inl (by decide))
      have hlv105_2 : aj_lv lv105 2 = some (.ref (52 + i2)) := cw_e1 elv105 hlv95_2 (by decide) (Or.inl (by decide))
      have hlv105_3 : aj_lv lv105 3 = some (.int x3) := cw_e1 elv105 hlv95_3 (by decide) (Or.inl (by decide))
      have hlv105_4 : aj_lv lv105 4 = some (.int x4) := cw_e1 elv105 hlv95_4 (by decide) (Or.inl (by decide))
      have hlv105_5 : aj_lv lv105 5 = some (.int x5) := cw_e1 elv105 hlv95_5 (by decide) (Or.inl (by decide))
      have hlv105_6 : aj_lv lv105 6 = some (.int x6) := cw_e1 elv105 hlv95_6 (by decide) (Or.inr rfl)
      have hlv105_8 : aj_lv lv105 8 = some (.int x8) := cw_e1 elv105 hlv95_8 (by decide) (Or.inl (by decide))
      have hlv105_10 : aj_lv lv105 10 = some (.int x10) := cw_e1 elv105 hlv95_10 (by decide) (Or.inl (by decide))
      have hlv105_11 : aj_lv lv105 11 = some (.int x11) := cw_e1 elv105 hlv95_11 (by decide) (Or.inl (by decide))
      have hlv105_7 : aj_lv lv105 7 = some (.int x104) := by rw [elv105]; exact ak_set1_eq _ _ _
      show cw_W _ _ _ _ _ _ _ _ _ _ 153 lv105 []
      refine cw_l0 aj_d180 rfl rfl hlv105_8 ?_
      refine cw_l0 aj_d180 rfl rfl hlv105_12 ?_
      refine cw_z (tgt := 164) aj_d180 rfl rfl (fun q106 => ?_) (fun q106 => ?_)
      · have q106 : o.toInt < (0 : Int) := aw_t_lt (a := o.toInt) (b := (0 : Int)) rfl rfl q106
        refine cw_n aj_d180 rfl rfl ?_
        refine cw_add aj_d180 rfl (a := x8.toInt) (b := (0 : Int)) rfl rfl (by omega) (by omega) (fun x107 ex107 => ?_)
        refine cw_t0 (j := 8) aj_d180 rfl (by decide) rfl ?_
        obtain ⟨lv108, elv108⟩ : ∃ l, l = aj_set1 lv105 8 (.int x107) := ⟨_, rfl⟩
        rw [← elv108]
        have hlv108_7 : aj_lv lv108 7 = some (.int x104) := cw_e1 elv108 hlv105_7 (by decide) (Or.inr rfl)
        have hlv108_9 : aj_lv lv108 9 = some (.int x94) := cw_e1 elv108 hlv105_9 (by decide) (Or.inl (by decide))
        have hlv108_13 : aj_lv lv108 13 = some (.int x10) := cw_e1 elv108 hlv105_13 (by decide) (Or.inl (by decide))
        have hlv108_12 : aj_lv lv108 12 = some (.int o) := cw_e1 elv108 hlv105_12 (by decide) (Or.inl (by decide))
        have hlv108_0 : aj_lv lv108 0 = some (.ref (52 + 55)) := cw_e1 elv108 hlv105_0 (by decide) (Or.inl (by decide))
        have hlv108_1 : aj_lv lv108 1 = some (.ref (52 + i1)) := cw_e1 elv108 hlv105_1 (by decide) (Or.inl (by decide))
        have hlv108_2 : aj_lv lv108 2 = some (.ref (52 + i2)) := cw_e1 elv108 hlv105_2 (by decide) (Or.inl (by decide))
        have hlv108_3 : aj_lv lv108 3 = some (.int x3) := cw_e1 elv108 hlv105_3 (by decide) (Or.inl (by decide))
        have hlv108_4 : aj_lv lv108 4 = some (.int x4) := cw_e1 elv108 hlv105_4 (by decide) (Or.inl (by decide))
        have hlv108_5 : aj_lv lv108 5 = some (.int x5) := cw_e1 elv108 hlv105_5 (by decide) (Or.inl (by decide))
        have hlv108_6 : aj_lv lv108 6 = some (.int x6) := cw_e1 elv108 hlv105_6 (by decide) (Or.inl (by decide))
        have hlv108_10 : aj_lv lv108 10 = some (.int x10) := cw_e1 elv108 hlv105_10 (by decide) (Or.inl (by decide))
        have hlv108_11 : aj_lv lv108 11 = some (.int x11) := cw_e1 elv108 hlv105_11 (by decide) (Or.inl (by decide))
        have hlv108_8 : aj_lv lv108 8 = some (.int x107) := by rw [elv108]; exact ak_set1_eq _ _ _
        show cw_W _ _ _ _ _ _ _ _ _ _ 168 lv108 []
        refine cw_n aj_d180 rfl rfl ?_
        have z0 : (Int32.ofInt 0).toInt = 0 := rfl
        have z1 : (Int32.ofInt 1).toInt = 1 := rfl
        exact ih hT93 (hoh92.trans hE) hlv108_0 hlv108_1 hlv108_2 hlv108_3 hlv108_4 hlv108_5 hlv108_6 hlv108_7 hlv108_8 hlv108_9 (by omega)
      · have q106 : o.toInt ≥ (0 : Int) := aw_t_lt (a := o.toInt) (b := (0 : Int)) rfl rfl q106
        refine cw_n aj_d180 rfl rfl ?_
        refine cw_n aj_d180 rfl rfl ?_
        refine cw_add aj_d180 rfl (a := x8.toInt) (b := (1 : Int)) rfl rfl (by omega) (by omega) (fun x109 ex109 => ?_)
        refine cw_t0 (j := 8) aj_d180 rfl (by decide) rfl ?_
        obtain ⟨lv110, elv110⟩ : ∃ l, l = aj_set1 lv105 8 (.int x109) := ⟨_, rfl⟩
        rw [← elv110]
        have hlv110_7 : aj_lv lv110 7 = some (.int x104) := cw_e1 elv110 hlv105_7 (by decide) (Or.inr rfl)
        have hlv110_9 : aj_lv lv110 9 = some (.int x94) := cw_e1 elv110 hlv105_9 (by decide) (Or.inl (by decide))
        have hlv110_13 : aj_lv lv110 13 = some (.int x10) := cw_e1 elv110 hlv105_13 (by decide) (Or.inl (by decide))
        have hlv110_12 : aj_lv lv110 12 = some (.int o) := cw_e1 elv110 hlv105_12 (by decide) (Or.inl (by decide))
        have hlv110_0 : aj_lv lv110 0 = some (.ref (52 + 55)) := cw_e1 elv110 hlv105_0 (by decide) (Or.inl (by decide))
        have hlv110_1 : aj_lv lv110 1 = some (.ref (52 + i1)) := cw_e1 elv110 hlv105_1 (by decide) (Or.inl (by decide))
        have hlv110_2 : aj_lv lv110 2 = some (.ref (52 + i2)) := cw_e1 elv110 hlv105_2 (by decide) (Or.inl (by decide))
        have hlv110_3 : aj_lv lv110 3 = some (.int x3) := cw_e1 elv110 hlv105_3 (by decide) (Or.inl (by decide))
        have hlv110_4 : aj_lv lv110 4 = some (.int x4) := cw_e1 elv110 hlv105_4 (by decide) (Or.inl (by decide))
        have hlv110_5 : aj_lv lv110 5 = some (.int x5) := cw_e1 elv110 hlv105_5 (by decide) (Or.inl (by decide))
        have hlv110_6 : aj_lv lv110 6 = some (.int x6) := cw_e1 elv110 hlv105_6 (by decide) (Or.inl (by decide))
        have hlv110_10 : aj_lv lv110 10 = some (.int x10) := cw_e1 elv110 hlv105_10 (by decide) (Or.inl (by decide))
        have hlv110_11 : aj_lv lv110 11 = some (.int x11) := cw_e1 elv110 hlv105_11 (by decide) (Or.inl (by decide))
        have hlv110_8 : aj_lv lv110 8 = some (.int x109) := by rw [elv110]; exact ak_set1_eq _ _ _
        show cw_W _ _ _ _ _ _ _ _ _ _ 168 lv110 []
        refine cw_n aj_d180 rfl rfl ?_
        have z0 : (Int32.ofInt 0).toInt = 0 := rfl
        have z1 : (Int32.ofInt 1).toInt = 1 := rfl
        exact ih hT93 (hoh92.trans hE) hlv110_0 hlv110_1 hlv110_2 hlv110_3 hlv110_4 hlv110_5 hlv110_6 hlv110_7 hlv110_8 hlv110_9 (by omega)
theorem cw_mergeL {d : Nat} (hd : 5 ≤ d + 1) : ∀ (n : Nat) (htb : ak_tbOK ak_C0 tb) (hB : cw_B s) {o0 : cw_O} {i1 i2 : Nat} (q1 : s[i1]? = some 59) (q2 : s[i2]? = some 58) {h : aj_H} {lv : aj_V} {kc ks : Nat} {x3 x4 x5 x6 x7 x8 x9 : Int32} (hT : ak_Ty ak_C0 s h) (hE : cw_o h = o0) (hl0 : aj_lv lv 0 = some (.ref (52 + 55))) (hl1 : aj_lv lv 1 = some (.ref (52 + i1))) (hl2 : aj_lv lv 2 = some (.ref (52 + i2))) (hl3 : aj_lv lv 3 = some (.int x3)) (hl4 : aj_lv lv 4 = some (.int x4)) (hl5 : aj_lv lv 5 = some (.int x5)) (hl6 : aj_lv lv 6 = some (.int x6)) (hl7 : aj_lv lv 7 = some (.int x7)) (hl8 : aj_lv lv 8 = some (.int x8)) (hl9 : aj_lv lv 9 = some (.int x9)) (hn : (x4.toInt - x7.toInt).toNat + (x5.toInt - x8.toInt).toNat ≤ n), cw_W ak_C0 (fun s' r h' => s' = s ∧ cw_o h' = o0) tb d aj_m180 ap_c180 s h kc ks 11 lv [] := by
  intro n
  induction n with
  | zero =>
    intro htb hB o0 i1 i2 q1 q2 h lv kc ks x3 x4 x5 x6 x7 x8 x9 hT hE hl0 hl1 hl2 hl3 hl4 hl5 hl6 hl7 hl8 hl9 hn
    have b4 := cw_full x4
    have b5 := cw_full x5
    have b7 := cw_full x7
    have b8 := cw_full x8
    refine cw_l0 aj_d180 rfl rfl hl7 ?_
    refine cw_l0 aj_d180 rfl rfl hl4 ?_
    refine cw_c (tgt := 25) aj_d180 rfl rfl (fun q111 => ?_) (fun q111 => ?_)
    · have q111 : x7.toInt < x4.toInt := aw_t_lt (a := x7.toInt) (b := x4.toInt) rfl rfl q111
      exfalso
      omega
    · have q111 : x7.toInt ≥ x4.toInt := aw_t_lt (a := x7.toInt) (b := x4.toInt) rfl rfl q111
      refine cw_l0 aj_d180 rfl rfl hl8 ?_
      refine cw_l0 aj_d180 rfl rfl hl5 ?_
      refine cw_c (tgt := 171) aj_d180 rfl rfl (fun q112 => ?_) (fun q112 => ?_)
      · have q112 : x8.toInt ≥ x5.toInt := aw_t_ge (a := x8.toInt) (b := x5.toInt) rfl rfl q112
        refine cw_l0 aj_d180 rfl rfl hl9 ?_
        refine cw_Wr aj_d180 rfl rfl hT ?_ ?_
        · exact ⟨rfl, hE⟩
        · exact cw_full _
      · have q112 : x8.toInt < x5.toInt := aw_t_ge (a := x8.toInt) (b := x5.toInt) rfl rfl q112
        exfalso
        omega
  | succ n ih =>
    intro htb hB o0 i1 i2 q1 q2 h lv kc ks x3 x4 x5 x6 x7 x8 x9 hT hE hl0 hl1 hl2 hl3 hl4 hl5 hl6 hl7 hl8 hl9 hn
    have b4 := cw_full x4
    have b5 := cw_full x5
    have b7 := cw_full x7
    have b8 := cw_full x8
    refine cw_l0 aj_d180 rfl rfl hl7 ?_
    refine cw_l0 aj_d180 rfl rfl hl4 ?_
    refine cw_c (tgt := 25) aj_d180 rfl rfl (fun q113 => ?_) (fun q113 => ?_)
    · have q113 : x7.toInt < x4.toInt := aw_t_lt (a := x7.toInt) (b := x4.toInt) rfl rfl q113
      refine cw_l2 aj_d180 rfl rfl hl0 ?_
      refine cw_l0 aj_d180 rfl rfl hl7 ?_
      refine cw_k0 (i := 55) (t := 54) (con' := ap_c181) aj_d180 htb hT rfl rfl [_] rfl rfl (cw_s0 hB rfl) rfl (Nat.le_of_ble_eq_true rfl) ⟨by decide, by decide⟩ (cw_ref htb hT hB (by omega) x7) ?_
      rintro rh114 h114 hT115 hoh114 hRh114
      obtain ⟨xh114, rfl, bh114⟩ := cw_rI hRh114
      show cw_W _ _ _ _ _ _ _ _ _ _ 31 lv [.int xh114]
      refine cw_t0 (j := 10) aj_d180 rfl (by decide) rfl ?_
      obtain ⟨lv116, elv116⟩ : ∃ l, l = aj_set1 lv 10 (.int xh114) := ⟨_, rfl⟩
      rw [← elv116]
      have hlv116_0 : aj_lv lv116 0 = some (.ref (52 + 55)) := cw_e1 elv116 hl0 (by decide) (Or.inl (by decide))
      have hlv116_1 : aj_lv lv116 1 = some (.ref (52 + i1)) := cw_e1 elv116 hl1 (by decide) (Or.inl (by decide))
      have hlv116_2 : aj_lv lv116 2 = some (.ref (52 + i2)) := cw_e1 elv116 hl2 (by decide) (Or.inl (by decide))
      have hlv116_3 : aj_lv lv116 3 = some (.int x3) := cw_e1 elv116 hl3 (by decide) (Or.inl (by decide))
      have hlv116_4 : aj_lv lv116 4 = some (.int x4) := cw_e1 elv116 hl4 (by decide) (Or.inl (by decide))
      have hlv116_5 : aj_lv lv116 5 = some (.int x5) := cw_e1 elv116 hl5 (by decide) (Or.inl (by decide))
      have hlv116_6 : aj_lv lv116 6 = some (.int x6) := cw_e1 elv116 hl6 (by decide) (Or.inl (by decide))
      have hlv116_7 : aj_lv lv116 7 = some (.int x7) := cw_e1 elv116 hl7 (by decide) (Or.inl (by decide))
      have hlv116_8 : aj_lv lv116 8 = some (.int x8) := cw_e1 elv116 hl8 (by decide) (Or.inl (by decide))
      have hlv116_9 : aj_lv lv116 9 = some (.int x9) := cw_e1 elv116 hl9 (by decide) (Or.inr rfl)
      have hlv116_10 : aj_lv lv116 10 = some (.int xh114) := by rw [elv116]; exact ak_set1_eq _ _ _
      show cw_W _ _ _ _ _ _ _ _ _ _ 33 lv116 []
      refine cw_l2 aj_d180 rfl rfl hlv116_0 ?_
      refine cw_l0 aj_d180 rfl rfl hlv116_8 ?_
      refine cw_k0 (i := 55) (t := 54) (con' := ap_c181) aj_d180 htb hT115 rfl rfl [_] rfl rfl (cw_s0 hB rfl) rfl (Nat.le_of_ble_eq_true rfl) ⟨by decide, by decide⟩ (cw_ref htb hT115 hB (by omega) x8) ?_
      rintro rh117 h117 hT118 hoh117 hRh117
      obtain ⟨xh117, rfl, bh117⟩ := cw_rI hRh117
      show cw_W _ _ _ _ _ _ _ _ _ _ 39 lv116 [.int xh117]
      refine cw_t0 (j := 11) aj_d180 rfl (by decide) rfl ?_
      obtain ⟨lv119, elv119⟩ : ∃ l, l = aj_set1 lv116 11 (.int xh117) := ⟨_, rfl⟩
      rw [← elv119]
      have hlv119_10 : aj_lv lv119 10 = some (.int xh114) := cw_e1 elv119 hlv116_10 (by decide) (Or.inr rfl)
      have hlv119_0 : aj_lv lv119 0 = some (.ref (52 + 55)) := cw_e1 elv119 hlv116_0 (by decide) (Or.inl (by decide))
      have hlv119_1 : aj_lv lv119 1 = some (.ref (52 + i1)) := cw_e1 elv119 hlv116_1 (by decide) (Or.inl (by decide))
      have hlv119_2 : aj_lv lv119 2 = some (.ref (52 + i2)) := cw_e1 elv119 hlv116_2 (by decide) (Or.inl (by decide))
      have hlv119_3 : aj_lv lv119 3 = some (.int x3) := cw_e1 elv119 hlv116_3 (by decide) (Or.inl (by decide))
      have hlv119_4 : aj_lv lv119 4 = some (.int x4) := cw_e1 elv119 hlv116_4 (by decide) (Or.inl (by decide))
      have hlv119_5 : aj_lv lv119 5 = some (.int x5) := cw_e1 elv119 hlv116_5 (by decide) (Or.inl (by decide))
      have hlv119_6 : aj_lv lv119 6 = some (.int x6) := cw_e1 elv119 hlv116_6 (by decide) (Or.inl (by decide))
      have hlv119_7 : aj_lv lv119 7 = some (.int x7) := cw_e1 elv119 hlv116_7 (by decide) (Or.inl (by decide))
      have hlv119_8 : aj_lv lv119 8 = some (.int x8) := cw_e1 elv119 hlv116_8 (by decide) (Or.inl (by decide))
      have hlv119_9 : aj_lv lv119 9 = some (.int x9) := cw_e1 elv119 hlv116_9 (by decide) (Or.inl (by decide))
      have hlv119_11 : aj_lv lv119 11 = some (.int xh117) := by rw [elv119]; exact ak_set1_eq _ _ _
      show cw_W _ _ _ _ _ _ _ _ _ _ 41 lv119 []
      refine cw_l0 aj_d180 rfl rfl hlv119_7 ?_
      refine cw_l0 aj_d180 rfl rfl hlv119_4 ?_
      refine cw_c (tgt := 52) aj_d180 rfl rfl (fun q120 => ?_) (fun q120 => ?_)
      · have q120 : x7.toInt < x4.toInt := aw_t_lt (a := x7.toInt) (b := x4.toInt) rfl rfl q120
        refine cw_l0 aj_d180 rfl rfl hlv119_8 ?_
        refine cw_l0 aj_d180 rfl rfl hlv119_5 ?_
        refine cw_c (tgt := 63) aj_d180 rfl rfl (fun q121 => ?_) (fun q121 => ?_)
        · have q121 : x8.toInt < x5.toInt := aw_t_lt (a := x8.toInt) (b := x5.toInt) rfl rfl q121
          refine cw_l2 aj_d180 rfl rfl hlv119_2 ?_
          refine cw_l2 aj_d180 rfl rfl hlv119_1 ?_
          refine cw_l0 aj_d180 rfl rfl hlv119_10 ?_
          refine cw_ks0 (con' := ap_c182) aj_d180 hT118 rfl rfl rfl [_] rfl rfl (Nat.le_of_ble_eq_true rfl) ⟨by decide, by decide⟩ (cw_a1 (by omega) (ap_0_182 htb (cw_SP1c _ _ rfl rfl) cw_hK) hT118 hB rfl ⟨(cw_full _), trivial⟩) ?_
          rintro ru122 h122 hT122 ho122 hRu122
          obtain ⟨x123, rfl, bx123⟩ := cw_rI hRu122
          show cw_W _ _ _ _ _ _ _ _ _ _ 70 lv119 [.int x123, .ref (52 + i1), .ref (52 + i2)]
          refine cw_l0 aj_d180 rfl rfl hlv119_10 ?_
          refine cw_ks0 (con' := ap_c183) aj_d180 hT122 rfl rfl rfl [_] rfl rfl (Nat.le_of_ble_eq_true rfl) ⟨by decide, by decide⟩ (cw_a1 (by omega) (ap_0_183 htb (cw_SP1c _ _ rfl rfl) cw_hK) hT122 hB rfl ⟨(cw_full _), trivial⟩) ?_
          rintro ru124 h124 hT124 ho124 hRu124
          obtain ⟨x125, rfl, bx125⟩ := cw_rI hRu124
          show cw_W _ _ _ _ _ _ _ _ _ _ 75 lv119 [.int x125, .int x123, .ref (52 + i1), .ref (52 + i2)]
          refine cw_l2 aj_d180 rfl rfl hlv119_2 ?_
          refine cw_l0 aj_d180 rfl rfl hlv119_11 ?_
          refine cw_ks0 (con' := ap_c182) aj_d180 hT124 rfl rfl rfl [_] rfl rfl (Nat.le_of_ble_eq_true rfl) ⟨by decide, by decide⟩ (cw_a1 (by omega) (ap_0_182 htb (cw_SP1c _ _ rfl rfl) cw_hK) hT124 hB rfl ⟨(cw_full _), trivial⟩) ?_
          rintro ru126 h126 hT126 ho126 hRu126
          obtain ⟨x127, rfl, bx127⟩ := cw_rI hRu126
          show cw_W _ _ _ _ _ _ _ _ _ _ 81 lv119 [.int x127, .ref (52 + i2), .int x125, .int x123, .ref (52 + i1), .ref (52 + i2)]
          refine cw_l0 aj_d180 rfl rfl hlv119_11 ?_
          refine cw_ks0 (con' := ap_c183) aj_d180 hT126 rfl rfl rfl [_] rfl rfl (Nat.le_of_ble_eq_true rfl) ⟨by decide, by decide⟩ (cw_a1 (by omega) (ap_0_183 htb (cw_SP1c _ _ rfl rfl) cw_hK) hT126 hB rfl ⟨(cw_full _), trivial⟩) ?_
          rintro ru128 h128 hT128 ho128 hRu128
          obtain ⟨x129, rfl, bx129⟩ := cw_rI hRu128
          show cw_W _ _ _ _ _ _ _ _ _ _ 86 lv119 [.int x129, .int x127, .ref (52 + i2), .int x125, .int x123, .ref (52 + i1), .ref (52 + i2)]
          refine cw_k0 (i := i2) (t := 58) (con' := ap_c130) aj_d180 htb hT128 rfl rfl [_, _, _, _, _, _] rfl rfl q2 rfl (Nat.le_of_ble_eq_true rfl) ⟨by decide, by decide⟩ (cw_a1 (by omega) (ap_0_130 htb (cw_SP1c _ _ rfl rfl) cw_hK) hT128 hB rfl ⟨(cw_gR q2 (by decide) (by decide)), (cw_gR q1 (by decide) (by decide)), (cw_full _), (cw_gw (a := x125.toInt) rfl (by omega) (by omega)), (cw_gR q2 (by decide) (by decide)), (cw_full _), (cw_gw (a := x129.toInt) rfl (by omega) (by omega)), trivial⟩) ?_
          rintro ru130 h130 hT130 ho130 hRu130
          obtain ⟨x131, rfl, bx131⟩ := cw_rI hRu130
          show cw_W _ _ _ _ _ _ _ _ _ _ 89 lv119 [.int x131]
          have z1 : (Int32.ofInt 1).toInt = 1 := rfl
          have z2 : (Int32.ofInt (-1)).toInt = -1 := rfl
          refine cw_mergeT hd htb hB q1 q2 hT130 (ho130.trans (ho128.trans (ho126.trans (ho124.trans (ho122.trans (hoh117.trans (hoh114.trans hE))))))) hlv119_0 hlv119_1 hlv119_2 hlv119_3 hlv119_4 hlv119_5 hlv119_6 hlv119_7 hlv119_8 hlv119_9 hlv119_10 hlv119_11 (fun k1 k2 l0 l1 l2 l3 l4 l5 l6 l7 l8 l9 hlt => ih htb hB q1 q2 k1 k2 l0 l1 l2 l3 l4 l5 l6 l7 l8 l9 (by omega)) (by omega)
        · have q121 : x8.toInt ≥ x5.toInt := aw_t_lt (a := x8.toInt) (b := x5.toInt) rfl rfl q121
          refine cw_n aj_d180 rfl rfl ?_
          refine cw_n aj_d180 rfl rfl ?_
          have z1 : (Int32.ofInt 1).toInt = 1 := rfl
          have z2 : (Int32.ofInt (-1)).toInt = -1 := rfl
          refine cw_mergeT hd htb hB q1 q2 hT118 (hoh117.trans (hoh114.trans hE)) hlv119_0 hlv119_1 hlv119_2 hlv119_3 hlv119_4 hlv119_5 hlv119_6 hlv119_7 hlv119_8 hlv119_9 hlv119_10 hlv119_11 (fun k1 k2 l0 l1 l2 l3 l4 l5 l6 l7 l8 l9 hlt => ih htb hB q1 q2 k1 k2 l0 l1 l2 l3 l4 l5 l6 l7 l8 l9 (by omega)) (by omega)
      · have q120 : x7.toInt ≥ x4.toInt := aw_t_lt (a := x7.toInt) (b := x4.toInt) rfl rfl q120
        refine cw_n aj_d180 rfl rfl ?_
        refine cw_n aj_d180 rfl rfl ?_
        have z1 : (Int32.ofInt 1).toInt = 1 := rfl
        have z2 : (Int32.ofInt (-1)).toInt = -1 := rfl
        refine cw_mergeT hd htb hB q1 q2 hT118 (hoh117.trans (hoh114.trans hE)) hlv119_0 hlv119_1 hlv119_2 hlv119_3 hlv119_4 hlv119_5 hlv119_6 hlv119_7 hlv119_8 hlv119_9 hlv119_10 hlv119_11 (fun k1 k2 l0 l1 l2 l3 l4 l5 l6 l7 l8 l9 hlt => ih htb hB q1 q2 k1 k2 l0 l1 l2 l3 l4 l5 l6 l7 l8 l9 (by omega)) (by omega)
    · have q113 : x7.toInt ≥ x4.toInt := aw_t_lt (a := x7.toInt) (b := x4.toInt) rfl rfl q113
      refine cw_l0 aj_d180 rfl rfl hl8 ?_
      refine cw_l0 aj_d180 rfl rfl hl5 ?_
      refine cw_c (tgt := 171) aj_d180 rfl rfl (fun q132 => ?_) (fun q132 => ?_)
      · have q132 : x8.toInt ≥ x5.toInt := aw_t_ge (a := x8.toInt) (b := x5.toInt) rfl rfl q132
        refine cw_l0 aj_d180 rfl rfl hl9 ?_
        refine cw_Wr aj_d180 rfl rfl hT ?_ ?_
        · exact ⟨rfl, hE⟩
        · exact cw_full _
      · have q132 : x8.toInt < x5.toInt := aw_t_ge (a := x8.toInt) (b := x5.toInt) rfl rfl q132
        refine cw_l2 aj_d180 rfl rfl hl0 ?_
        refine cw_l0 aj_d180 rfl rfl hl7 ?_
        refine cw_k0 (i := 55) (t := 54) (con' := ap_c181) aj_d180 htb hT rfl rfl [_] rfl rfl (cw_s0 hB rfl) rfl (Nat.le_of_ble_eq_true rfl) ⟨by decide, by decide⟩ (cw_ref htb hT hB (by omega) x7) ?_
        rintro rh133 h133 hT134 hoh133 hRh133
        obtain ⟨xh133, rfl, bh133⟩ := cw_rI hRh133
        show cw_W _ _ _ _ _ _ _ _ _ _ 31 lv [.int xh133]
        refine cw_t0 (j := 10) aj_d180 rfl (by decide) rfl ?_
        obtain ⟨lv135, elv135⟩ : ∃ l, l = aj_set1 lv 10 (.int xh133) := ⟨_, rfl⟩
        rw [← elv135]
        have hlv135_0 : aj_lv lv135 0 = some (.ref (52 + 55)) := cw_e1 elv135 hl0 (by decide) (Or.inl (by decide))
        have hlv135_1 : aj_lv lv135 1 = some (.ref (52 + i1)) := cw_e1 elv135 hl1 (by decide) (Or.inl (by decide))
        have hlv135_2 : aj_lv lv135 2 = some (.ref (52 + i2)) := cw_e1 elv135 hl2 (by decide) (Or.inl (by decide))
        have hlv135_3 : aj_lv lv135 3 = some (.int x3) := cw_e1 elv135 hl3 (by decide) (Or.inl (by decide))
        have hlv135_4 : aj_lv lv135 4 = some (.int x4) := cw_e1 elv135 hl4 (by decide) (Or.inl (by decide))
        have hlv135_5 : aj_lv lv135 5 = some (.int x5) := cw_e1 elv135 hl5 (by decide) (Or.inl (by decide))
        have hlv135_6 : aj_lv lv135 6 = some (.int x6) := cw_e1 elv135 hl6 (by decide) (Or.inl (by decide))
        have hlv135_7 : aj_lv lv135 7 = some (.int x7) := cw_e1 elv135 hl7 (by decide) (Or.inl (by decide))
        have hlv135_8 : aj_lv lv135 8 = some (.int x8) := cw_e1 elv135 hl8 (by decide) (Or.inl (by decide))
        have hlv135_9 : aj_lv lv135 9 = some (.int x9) := cw_e1 elv135 hl9 (by decide) (Or.inr rfl)
        have hlv135_10 : aj_lv lv135 10 = some (.int xh133) := by rw [elv135]; exact ak_set1_eq _ _ _
        show cw_W _ _ _ _ _ _ _ _ _ _ 33 lv135 []
        refine cw_l2 aj_d180 rfl rfl hlv135_0 ?_
        refine cw_l0 aj_d180 rfl rfl hlv135_8 ?_
        refine cw_k0 (i := 55) (t := 54) (con' := ap_c181) aj_d180 htb hT134 rfl rfl [_] rfl rfl (cw_s0 hB rfl) rfl (Nat.le_of_ble_eq_true rfl) ⟨by decide, by decide⟩ (cw_ref htb hT134 hB (by omega) x8) ?_
        rintro rh136 h136 hT137 hoh136 hRh136
        obtain ⟨xh136, rfl, bh136⟩ := cw_rI hRh136
        show cw_W _ _ _ _ _ _ _ _ _ _ 39 lv135 [.int xh136]
        refine cw_t0 (j := 11) aj_d180 rfl (by decide) rfl ?_
        obtain ⟨lv138, elv138⟩ : ∃ l, l = aj_set1 lv135 11 (.int xh136) := ⟨_, rfl⟩
        rw [← elv138]
        have hlv138_10 : aj_lv lv138 10 = some (.int xh133) := cw_e1 elv138 hlv135_10 (by decide) (Or.inr rfl)
        have hlv138_0 : aj_lv lv138 0 = some (.ref (52 + 55)) := cw_e1 elv138 hlv135_0 (by decide) (Or.inl (by decide))
        have hlv138_1 : aj_lv lv138 1 = some (.ref (52 + i1)) := cw_e1 elv138 hlv135_1 (by decide) (Or.inl (by decide))
        have hlv138_2 : aj_lv lv138 2 = some (.ref (52 + i2)) := cw_e1 elv138 hlv135_2 (by decide) (Or.inl (by decide))
        have hlv138_3 : aj_lv lv138 3 = some (.int x3) := cw_e1 elv138 hlv135_3 (by decide) (Or.inl (by decide))
        have hlv138_4 : aj_lv lv138 4 = some (.int x4) := cw_e1 elv138 hlv135_4 (by decide) (Or.inl (by decide))
        have hlv138_5 : aj_lv lv138 5 = some (.int x5) := cw_e1 elv138 hlv135_5 (by decide) (Or.inl (by decide))
        have hlv138_6 : aj_lv lv138 6 = some (.int x6) := cw_e1 elv138 hlv135_6 (by decide) (Or.inl (by decide))
        have hlv138_7 : aj_lv lv138 7 = some (.int x7) := cw_e1 elv138 hlv135_7 (by decide) (Or.inl (by decide))
        have hlv138_8 : aj_lv lv138 8 = some (.int x8) := cw_e1 elv138 hlv135_8 (by decide) (Or.inl (by decide))
        have hlv138_9 : aj_lv lv138 9 = some (.int x9) := cw_e1 elv138 hlv135_9 (by decide) (Or.inl (by decide))
        have hlv138_11 : aj_lv lv138 11 = some (.int xh136) := by rw [elv138]; exact ak_set1_eq _ _ _
        show cw_W _ _ _ _ _ _ _ _ _ _ 41 lv138 []
        refine cw_l0 aj_d180 rfl rfl hlv138_7 ?_
        refine cw_l0 aj_d180 rfl rfl hlv138_4 ?_
        refine cw_c (tgt := 52) aj_d180 rfl rfl (fun q139 => ?_) (fun q139 => ?_)
        · have q139 : x7.toInt < x4.toInt := aw_t_lt (a := x7.toInt) (b := x4.toInt) rfl rfl q139
          refine cw_l0 aj_d180 rfl rfl hlv138_8 ?_
          refine cw_l0 aj_d180 rfl rfl hlv138_5 ?_
          refine cw_c (tgt := 63) aj_d180 rfl rfl (fun q140 => ?_) (fun q140 => ?_)
          · have q140 : x8.toInt < x5.toInt := aw_t_lt (a := x8.toInt) (b := x5.toInt) rfl rfl q140
            refine cw_l2 aj_d180 rfl rfl hlv138_2 ?_
            refine cw_l2 aj_d180 rfl rfl hlv138_1 ?_
            refine cw_l0 aj_d180 rfl rfl hlv138_10 ?_
            refine cw_ks0 (con' := ap_c182) aj_d180 hT137 rfl rfl rfl [_] rfl rfl (Nat.le_of_ble_eq_true rfl) ⟨by decide, by decide⟩ (cw_a1 (by omega) (ap_0_182 htb (cw_SP1c _ _ rfl rfl) cw_hK) hT137 hB rfl ⟨(cw_full _), trivial⟩) ?_
            rintro ru141 h141 hT141 ho141 hRu141
            obtain ⟨x142, rfl, bx142⟩ := cw_rI hRu141
            show cw_W _ _ _ _ _ _ _ _ _ _ 70 lv138 [.int x142, .ref (52 + i1), .ref (52 + i2)]
            refine cw_l0 aj_d180 rfl rfl hlv138_10 ?_
            refine cw_ks0 (con' := ap_c183) aj_d180 hT141 rfl rfl rfl [_] rfl rfl (Nat.le_of_ble_eq_true rfl) ⟨by decide, by decide⟩ (cw_a1 (by omega) (ap_0_183 htb (cw_SP1c _ _ rfl rfl) cw_hK) hT141 hB rfl ⟨(cw_full _), trivial⟩) ?_
            rintro ru143 h143 hT143 ho143 hRu143
            obtain ⟨x144, rfl, bx144⟩ := cw_rI hRu143
            show cw_W _ _ _ _ _ _ _ _ _ _ 75 lv138 [.int x144, .int x142, .ref (52 + i1), .ref (52 + i2)]
            refine cw_l2 aj_d180 rfl rfl hlv138_2 ?_
            refine cw_l0 aj_d180 rfl rfl hlv138_11 ?_
            refine cw_ks0 (con' := ap_c182) aj_d180 hT143 rfl rfl rfl [_] rfl rfl (Nat.le_of_ble_eq_true rfl) ⟨by decide, by decide⟩ (cw_a1 (by omega) (ap_0_182 htb (cw_SP1c _ _ rfl rfl) cw_hK) hT143 hB rfl ⟨(cw_full _), trivial⟩) ?_
            rintro ru145 h145 hT145 ho145 hRu145
            obtain ⟨x146, rfl, bx146⟩ := cw_rI hRu145
            show cw_W _ _ _ _ _ _ _ _ _ _ 81 lv138 [.int x146, .ref (52 + i2), .int x144, .int x142, .ref (52 + i1), .ref (52 + i2)]
            refine cw_l0 aj_d180 rfl rfl hlv138_11 ?_
            refine cw_ks0 (con' := ap_c183) aj_d180 hT145 rfl rfl rfl [_] rfl rfl (Nat.le_of_ble_eq_true rfl) ⟨by decide, by decide⟩ (cw_a1 (by omega) (ap_0_183 htb (cw_SP1c _ _ rfl rfl) cw_hK) hT145 hB rfl ⟨(cw_full _), trivial⟩) ?_
            rintro ru147 h147 hT147 ho147 hRu147
            obtain ⟨x148, rfl, bx148⟩ := cw_rI hRu147
            show cw_W _ _ _ _ _ _ _ _ _ _ 86 lv138 [.int x148, .int x146, .ref (52 + i2), .int x144, .int x142, .ref (52 + i1), .ref (52 + i2)]
            refine cw_k0 (i := i2) (t := 58) (con' := ap_c130) aj_d180 htb hT147 rfl rfl [_, _, _, _, _, _] rfl rfl q2 rfl (Nat.le_of_ble_eq_true rfl) ⟨by decide, by decide⟩ (cw_a1 (by omega) (ap_0_130 htb (cw_SP1c _ _ rfl rfl) cw_hK) hT147 hB rfl ⟨(cw_gR q2 (by decide) (by decide)), (cw_gR q1 (by decide) (by decide)), (cw_full _), (cw_gw (a := x144.toInt) rfl (by omega) (by omega)), (cw_gR q2 (by decide) (by decide)), (cw_full _), (cw_gw (a := x148.toInt) rfl (by omega) (by omega)), trivial⟩) ?_
            rintro ru149 h149 hT149 ho149 hRu149
            obtain ⟨x150, rfl, bx150⟩ := cw_rI hRu149
            show cw_W _ _ _ _ _ _ _ _ _ _ 89 lv138 [.int x150]
            have z1 : (Int32.ofInt 1).toInt = 1 := rfl
            have z2 : (Int32.ofInt (-1)).toInt = -1 := rfl
            refine cw_mergeT hd htb hB q1 q2 hT149 (ho149.trans (ho147.trans (ho145.trans (ho143.trans (ho141.trans (hoh136.trans (hoh133.trans hE))))))) hlv138_0 hlv138_1 hlv138_2 hlv138_3 hlv138_4 hlv138_5 hlv138_6 hlv138_7 hlv138_8 hlv138_9 hlv138_10 hlv138_11 (fun k1 k2 l0 l1 l2 l3 l4 l5 l6 l7 l8 l9 hlt => ih htb hB q1 q2 k1 k2 l0 l1 l2 l3 l4 l5 l6 l7 l8 l9 (by omega)) (by omega)
          · have q140 : x8.toInt ≥ x5.toInt := aw_t_lt (a := x8.toInt) (b := x5.toInt) rfl rfl q140
            refine cw_n aj_d180 rfl rfl ?_
            refine cw_n aj_d180 rfl rfl ?_
            have z1 : (Int32.ofInt 1).toInt = 1 := rfl
            have z2 : (Int32.ofInt (-1)).toInt = -1 := rfl
            refine cw_mergeT hd htb hB q1 q2 hT137 (hoh136.trans (hoh133.trans hE)) hlv138_0 hlv138_1 hlv138_2 hlv138_3 hlv138_4 hlv138_5 hlv138_6 hlv138_7 hlv138_8 hlv138_9 hlv138_10 hlv138_11 (fun k1 k2 l0 l1 l2 l3 l4 l5 l6 l7 l8 l9 hlt => ih htb hB q1 q2 k1 k2 l0 l1 l2 l3 l4 l5 l6 l7 l8 l9 (by omega)) (by omega)
        · have q139 : x7.toInt ≥ x4.toInt := aw_t_lt (a := x7.toInt) (b := x4.toInt) rfl rfl q139
          refine cw_n aj_d180 rfl rfl ?_
          refine cw_n aj_d180 rfl rfl ?_
          have z1 : (Int32.ofInt 1).toInt = 1 := rfl
          have z2 : (Int32.ofInt (-1)).toInt = -1 := rfl
          refine cw_mergeT hd htb hB q1 q2 hT137 (hoh136.trans (hoh133.trans hE)) hlv138_0 hlv138_1 hlv138_2 hlv138_3 hlv138_4 hlv138_5 hlv138_6 hlv138_7 hlv138_8 hlv138_9 hlv138_10 hlv138_11 (fun k1 k2 l0 l1 l2 l3 l4 l5 l6 l7 l8 l9 hlt => ih htb hB q1 q2 k1 k2 l0 l1 l2 l3 l4 l5 l6 l7 l8 l9 (by omega)) (by omega)
theorem cw_merge (htb : ak_tbOK ak_C0 tb) (hT : ak_Ty ak_C0 s h) (hB : cw_B s) (hd : 5 ≤ d) {i1 i2 : Nat} (q1 : s[i1]? = some 59) (q2 : s[i2]? = some 58) (x3 x4 x5 x6 : Int32) : cw_K ak_C0 (fun s' r h' => s' = s ∧ cw_o h' = cw_o h) tb d ap_c180 [.ref (52 + 55), .ref (52 + i1), .ref (52 + i2), .int x3, .int x4, .int x5, .int x6] s h := by
  obtain ⟨d, rfl⟩ : ∃ e, d = e + 1 := ⟨d - 1, by omega⟩
  refine cw_m (con := ap_c180) aj_m180_at (Nat.le_of_ble_eq_true rfl) ?_
  obtain ⟨lv, elv⟩ : ∃ l, l = lv_args 0 [.ref (52 + 55), .ref (52 + i1), .ref (52 + i2), .int x3, .int x4, .int x5, .int x6] := ⟨_, rfl⟩
  have hl0 : aj_lv lv 0 = some (.ref (52 + 55)) := by rw [elv]; rfl
  have hl1 : aj_lv lv 1 = some (.ref (52 + i1)) := by rw [elv]; rfl
  have hl2 : aj_lv lv 2 = some (.ref (52 + i2)) := by rw [elv]; rfl
  have hl3 : aj_lv lv 3 = some (.int x3) := by rw [elv]; rfl
  have hl4 : aj_lv lv 4 = some (.int x4) := by rw [elv]; rfl
  have hl5 : aj_lv lv 5 = some (.int x5) := by rw [elv]; rfl
  have hl6 : aj_lv lv 6 = some (.int x6) := by rw [elv]; rfl
  rw [← elv]
  refine cw_l0 aj_d180 rfl rfl hl3 ?_
  refine cw_t0 (j := 7) aj_d180 rfl (by decide) rfl ?_
  obtain ⟨lv151, elv151⟩ : ∃ l, l = aj_set1 lv 7 (.int x3) := ⟨_, rfl⟩
  rw [← elv151]
  have hlv151_0 : aj_lv lv151 0 = some (.ref (52 + 55)) := cw_e1 elv151 hl0 (by decide) (Or.inl (by decide))
  have hlv151_1 : aj_lv lv151 1 = some (.ref (52 + i1)) := cw_e1 elv151 hl1 (by decide) (Or.inl (by decide))
  have hlv151_2 : aj_lv lv151 2 = some (.ref (52 + i2)) := cw_e1 elv151 hl2 (by decide) (Or.inl (by decide))
  have hlv151_3 : aj_lv lv151 3 = some (.int x3) := cw_e1 elv151 hl3 (by decide) (Or.inl (by decide))
  have hlv151_4 : aj_lv lv151 4 = some (.int x4) := cw_e1 elv151 hl4 (by decide) (Or.inl (by decide))
  have hlv151_5 : aj_lv lv151 5 = some (.int x5) := cw_e1 elv151 hl5 (by decide) (Or.inl (by decide))
  have hlv151_6 : aj_lv lv151 6 = some (.int x6) := cw_e1 elv151 hl6 (by decide) (Or.inr rfl)
  have hlv151_7 : aj_lv lv151 7 = some (.int x3) := by rw [elv151]; exact ak_set1_eq _ _ _
  show cw_W _ _ _ _ _ _ _ _ _ _ 3 lv151 []
  refine cw_l0 aj_d180 rfl rfl hlv151_4 ?_
  refine cw_t0 (j := 8) aj_d180 rfl (by decide) rfl ?_
  obtain ⟨lv152, elv152⟩ : ∃ l, l = aj_set1 lv151 8 (.int x4) := ⟨_, rfl⟩
  rw [← elv152]
  have hlv152_7 : aj_lv lv152 7 = some (.int x3) := cw_e1 elv152 hlv151_7 (by decide) (Or.inr rfl)
  have hlv152_0 : aj_lv lv152 0 = some (.ref (52 + 55)) := cw_e1 elv152 hlv151_0 (by decide) (Or.inl (by decide))
  have hlv152_1 : aj_lv lv152 1 = some (.ref (52 + i1)) := cw_e1 elv152 hlv151_1 (by decide) (Or.inl (by decide))
  have hlv152_2 : aj_lv lv152 2 = some (.ref (52 + i2)) := cw_e1 elv152 hlv151_2 (by decide) (Or.inl (by decide))
  have hlv152_3 : aj_lv lv152 3 = some (.int x3) := cw_e1 elv152 hlv151_3 (by decide) (Or.inl (by decide))
  have hlv152_4 : aj_lv lv152 4 = some (.int x4) := cw_e1 elv152 hlv151_4 (by decide) (Or.inl (by decide))
  have hlv152_5 : aj_lv lv152 5 = some (.int x5) := cw_e1 elv152 hlv151_5 (by decide) (Or.inl (by decide))
  have hlv152_6 : aj_lv lv152 6 = some (.int x6) := cw_e1 elv152 hlv151_6 (by decide) (Or.inl (by decide))
  have hlv152_8 : aj_lv lv152 8 = some (.int x4) := by rw [elv152]; exact ak_set1_eq _ _ _
  show cw_W _ _ _ _ _ _ _ _ _ _ 7 lv152 []
  refine cw_l0 aj_d180 rfl rfl hlv152_6 ?_
  refine cw_t0 (j := 9) aj_d180 rfl (by decide) rfl ?_
  obtain ⟨lv153, elv153⟩ : ∃ l, l = aj_set1 lv152 9 (.int x6) := ⟨_, rfl⟩
  rw [← elv153]
  have hlv153_8 : aj_lv lv153 8 = some (.int x4) := cw_e1 elv153 hlv152_8 (by decide) (Or.inr rfl)
  have hlv153_7 : aj_lv lv153 7 = some (.int x3) := cw_e1 elv153 hlv152_7 (by decide) (Or.inl (by decide))
  have hlv153_0 : aj_lv lv153 0 = some (.ref (52 + 55)) := cw_e1 elv153 hlv152_0 (by decide) (Or.inl (by decide))
  have hlv153_1 : aj_lv lv153 1 = some (.ref (52 + i1)) := cw_e1 elv153 hlv152_1 (by decide) (Or.inl (by decide))
  have hlv153_2 : aj_lv lv153 2 = some (.ref (52 + i2)) := cw_e1 elv153 hlv152_2 (by decide) (Or.inl (by decide))
  have hlv153_3 : aj_lv lv153 3 = some (.int x3) := cw_e1 elv153 hlv152_3 (by decide) (Or.inl (by decide))
  have hlv153_4 : aj_lv lv153 4 = some (.int x4) := cw_e1 elv153 hlv152_4 (by decide) (Or.inl (by decide))
  have hlv153_5 : aj_lv lv153 5 = some (.int x5) := cw_e1 elv153 hlv152_5 (by decide) (Or.inl (by decide))
  have hlv153_6 : aj_lv lv153 6 = some (.int x6) := cw_e1 elv153 hlv152_6 (by decide) (Or.inl (by decide))
  have hlv153_9 : aj_lv lv153 9 = some (.int x6) := by rw [elv153]; exact ak_set1_eq _ _ _
  show cw_W _ _ _ _ _ _ _ _ _ _ 11 lv153 []
  exact cw_mergeL (by omega) _ htb hB q1 q2 hT rfl hlv153_0 hlv153_1 hlv153_2 hlv153_3 hlv153_4 hlv153_5 hlv153_6 hlv153_7 hlv153_8 hlv153_9 (Nat.le_refl _)
end CW63
