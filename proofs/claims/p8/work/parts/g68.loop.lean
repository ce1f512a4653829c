/-! PARSE BY HAND (printed by wip/p2/cwalk/g69.py) -/
section CW68
variable {tb : aj_T} {s : List Nat} {h h' : aj_H} {d : Nat} {σ : List Nat} {nx o n : Int32} {f : Nat → Int32} {X : Option Nat}
theorem cw_rn_ext {f g : Nat → Int32} : ∀ m : Nat, (∀ j, j < m → g j = f j) → cw_rn g m = cw_rn f m := by
  intro m
  induction m with
  | zero => intro _; rfl
  | succ m ih =>
    intro hj
    rw [cw_rn, cw_rn, ih (fun j h => hj j (by omega)), hj m (by omega)]
theorem cw_rn_upd {f : Nat → Int32} {m : Nat} {x : Int32} {D D' : Nat} (h0 : cw_rn f m = some D) (h1 : cw_nst D x.toInt = some D') : cw_rn (upd f m x) (m + 1) = some D' := by
  rw [cw_rn, cw_rn_ext m (fun j hj => by unfold upd; rw [if_neg (by omega)]), h0]
  show cw_nst D (upd f m x m).toInt = some D'
  unfold upd
  rw [if_pos rfl, h1]
/-- while the parser works: a fault, or a stack that can be worked off -/
def cw_QV (h : aj_H) (c : Int) : Prop := cw_bad h ∨ ∃ (σ : List Nat) (nx o n : Int32) (f : Nat → Int32) (D : Nat), cw_PV h σ nx o n f ∧ 0 ≤ nx.toInt ∧ nx.toInt ≤ c ∧ (σ ≠ [] → nx.toInt ≤ 1000) ∧ 0 ≤ o.toInt ∧ o.toInt ≤ 8 ∧ 0 ≤ n.toInt ∧ n.toInt ≤ 2 * nx.toInt ∧ cw_rn f n.toInt.toNat = some D ∧ cw_sr σ D o.toInt (2 * nx.toInt - n.toInt)
theorem cw_QV_gd {c : Int} (h0 : cw_QV h c) : cw_gd (cw_o h) := by
  intro hf
  have hf := (cw_fo_F (by decide)).mp hf
  rcases h0 with ⟨m, fm, hm⟩ | ⟨σ, nx, o, n, f, D, hP, -, -, -, -, -, -, -, hr, -⟩
  · cases (cw_F_u fm hf).2
    exact absurd rfl hm
  · obtain ⟨-, -, -, f4, -, a31⟩ := hP
    exact ⟨f, n, (cw_oa_A (by decide)).mpr a31, (cw_fo_F (by decide)).mpr f4, by rw [hr]; exact fun z => by cases z⟩
/-- a note, told -/
theorem cw_QV_note {c : Int} {x : Nat} {o' n' : Int32} {f' : Nat → Int32} {D : Nat} {xx : Int32} (hxx : xx.toInt = x) (hx : 170 ≤ x) (hP : cw_PV h' σ nx o' n' f') (h1 : 0 ≤ nx.toInt) (h2 : nx.toInt ≤ c) (h3 : nx.toInt ≤ 1000) (h4 : 0 ≤ o.toInt ∧ o.toInt ≤ 8) (h5 : 0 ≤ n.toInt) (h6 : n.toInt ≤ 2 * nx.toInt) (hr : cw_rn f n.toInt.toNat = some D) (hs : cw_sr (x :: σ) D o.toInt (2 * nx.toInt - n.toInt)) (k1 : cw_rmo xx.toInt o.toInt o'.toInt) (k2 : xx.toInt ≤ 172 → n' = n ∧ f' = f) (k3 : 173 ≤ xx.toInt → n'.toInt = n.toInt + 1 ∧ f' = upd f n.toInt.toNat xx) : cw_QV h' c := by
  obtain ⟨r1, r2, r3⟩ := k1
  rw [hxx] at r1 r2 r3 k2 k3
  by_cases q : x ≤ 172
  · obtain ⟨rfl, rfl⟩ := k2 (by omega)
    rcases (by omega : x = 170 ∨ x = 171 ∨ x = 172) with rfl | rfl | rfl
    · obtain ⟨-, g⟩ := cw_sr_open.mp hs
      obtain ⟨e1, e2⟩ := r1 rfl
      exact Or.inr ⟨σ, nx, o', n', f', D, hP, h1, h2, fun _ => h3, by omega, e2, h5, h6, hr, cw_sr_to g rfl e1 (Int.le_refl _)⟩
    · obtain ⟨-, g0, g⟩ := cw_sr_shut.mp hs
      have e1 := r2 rfl
      exact Or.inr ⟨σ, nx, o', n', f', D, hP, h1, h2, fun _ => h3, by omega, by omega, h5, h6, hr, cw_sr_to g rfl e1 (Int.le_refl _)⟩
    · obtain ⟨-, g⟩ := cw_sr_sign.mp hs
      have e1 := r3 (by decide) (by decide)
      exact Or.inr ⟨σ, nx, o', n', f', D, hP, h1, h2, fun _ => h3, by omega, by omega, h5, h6, hr, cw_sr_to g rfl e1 (Int.le_refl _)⟩
  · obtain ⟨e1, rfl⟩ := k3 (by omega)
    obtain ⟨-, g0, D', g1, g2⟩ := (cw_sr_note (by omega)).mp hs
    have e2 := r3 (by omega) (by omega)
    refine Or.inr ⟨σ, nx, o', n', _, D', hP, h1, h2, fun _ => h3, by omega, by omega, by omega, by omega, ?_, cw_sr_to g2 rfl e2 (by omega)⟩
    rw [show n'.toInt.toNat = n.toInt.toNat + 1 by omega]
    exact cw_rn_upd hr (by rw [hxx]; exact g1)
/-- a token, taken -/
theorem cw_QV_take {c : Int} {x : Nat} {nx' : Int32} {D : Nat} (hx : x < 130) (hP : cw_PV h' σ nx' o n f) (h1 : 0 ≤ nx.toInt) (h2 : nx.toInt ≤ c) (e1 : nx'.toInt = nx.toInt + 1) (e2 : nx'.toInt ≤ 1000 ∨ (x : Int) = 1) (h4 : 0 ≤ o.toInt ∧ o.toInt ≤ 8) (h5 : 0 ≤ n.toInt) (h6 : n.toInt ≤ 2 * nx.toInt) (hr : cw_rn f n.toInt.toNat = some D) (hs : cw_sr (x :: σ) D o.toInt (2 * nx.toInt - n.toInt)) : cw_QV h' (c + 1) := by
  obtain ⟨⟨-, g0⟩, g⟩ := (cw_sr_tok hx).mp hs
  refine Or.inr ⟨σ, nx', o, n, f, D, hP, by omega, by omega, fun z => ?_, h4.1, h4.2, h5, by omega, hr, cw_sr_to g rfl rfl (by omega)⟩
  rcases e2 with e2 | e2
  · exact e2
  · exact absurd (g0 (by omega)) z
/-- a part, gone on with -/
theorem cw_QV_exp {c : Int} {p t : Nat} {D : Nat} (ht : t ∈ cw_rl p) (hP : cw_PV h' (cw_sl t ++ σ) nx o n f) (h1 : 0 ≤ nx.toInt) (h2 : nx.toInt ≤ c) (h3 : nx.toInt ≤ 1000) (h4 : 0 ≤ o.toInt ∧ o.toInt ≤ 8) (h5 : 0 ≤ n.toInt) (h6 : n.toInt ≤ 2 * nx.toInt) (hr : cw_rn f n.toInt.toNat = some D) (hs : cw_sr (p :: σ) D o.toInt (2 * nx.toInt - n.toInt)) : cw_QV h' c := Or.inr ⟨_, nx, o, n, f, D, hP, h1, h2, fun _ => h3, h4.1, h4.2, h5, h6, hr, cw_sr_rule ht h4 (by omega) hs⟩
theorem cw_sr_len : ∀ {σ : List Nat} {D : Nat} {o b : Int}, o ≤ 8 → cw_sr σ D o b → σ.length ≤ 512 := by
  intro σ D o b ho h0
  cases σ with
  | nil => exact Nat.zero_le _
  | cons x r =>
    have h1 := h0.1.1
    have : ∀ x : Nat, 1 ≤ cw_hh x := by
      intro x
      unfold cw_hh
      split <;> decide
    have := this x
    rw [List.length_cons]
    omega
theorem cw_low_and {v : Int32} {y : Int32} (e : y = v &&& (Int16.ofInt 255).toInt32) : y.toInt = cw_low v := by
  subst e
  rfl
theorem cw_low_r (v : Int32) : 0 ≤ cw_low v ∧ cw_low v ≤ 255 := by
  unfold cw_low
  have e3 : ((Int16.ofInt 255).toInt32).toBitVec = 255#32 := by decide
  have e : (v &&& (Int16.ofInt 255).toInt32).toInt = (v.toBitVec &&& 255#32).toInt := by
    rw [← e3]
    rfl
  rw [e]
  have hle : (v.toBitVec &&& 255#32).toNat ≤ 255 := by
    rw [BitVec.toNat_and]
    exact Nat.and_le_right
  rw [BitVec.toInt_eq_toNat_of_lt (by omega)]
  omega
theorem cw_parse_l (htb : ak_tbOK ak_C0 tb) (htG : cw_tbG tb) (hB : cw_B s) {d : Nat} (hd : 4 ≤ d) {o0 : cw_O} : ∀ (N : Nat) {h : aj_H} {lv : aj_V} {kc ks : Nat} {x2 : Int32} (hT : ak_Ty ak_C0 s h) (hE : cw_ex cw_EP o0 (cw_o h)) (hQ : cw_QV h x2.toInt) (hl0 : aj_lv lv 0 = some (.ref (52 + 35))) (hl2 : aj_lv lv 2 = some (.int x2)) (h20 : 0 ≤ x2.toInt ∧ x2.toInt ≤ 1000000) (hN : 1000000 - x2.toInt ≤ N), cw_W ak_C0 (fun s' _ h' => s' = s ∧ cw_ex cw_EP o0 (cw_o h') ∧ cw_gd (cw_o h')) tb d aj_m32 (cw_nP 32 none) s h kc ks 67 lv [] := by
  intro N
  induction N with
  | zero =>
    intro h lv kc ks x2 hT hE hQ hl0 hl2 h20 hN
    refine cw_l0 aj_d32 rfl rfl hl2 ?_
    refine cw_n aj_d32 rfl rfl ?_
    refine cw_c (tgt := 183) aj_d32 rfl rfl (fun q6 => ?_) (fun q6 => ?_)
    · have q6 : x2.toInt ≥ (1000000 : Int) := aw_t_ge (a := x2.toInt) (b := (1000000 : Int)) rfl rfl q6
      refine cw_Wr aj_d32 rfl rfl hT ?_ ?_
      · exact ⟨rfl, hE, cw_QV_gd hQ⟩
      · trivial
    · have q6 : x2.toInt < (1000000 : Int) := aw_t_ge (a := x2.toInt) (b := (1000000 : Int)) rfl rfl q6
      exfalso
      omega
  | succ N ih =>
    intro h lv kc ks x2 hT hE hQ hl0 hl2 h20 hN
    have hQ' := hQ
    rcases hQ' with hb | ⟨σ, nx, o, n, f, D, hP, h1, h2, h3, h4, h5, h6, h7, hr, hs⟩
    · skip
      obtain ⟨m, fm, mn⟩ := id hb
      have mn : ¬ m.toInt = 0 := mn
      refine cw_l0 aj_d32 rfl rfl hl2 ?_
      refine cw_n aj_d32 rfl rfl ?_
      refine cw_c (tgt := 183) aj_d32 rfl rfl (fun q1 => ?_) (fun q1 => ?_)
      · have q1 : x2.toInt ≥ (1000000 : Int) := aw_t_ge (a := x2.toInt) (b := (1000000 : Int)) rfl rfl q1
        refine cw_Wr aj_d32 rfl rfl hT ?_ ?_
        · exact ⟨rfl, hE, cw_QV_gd (c := 0) (Or.inl hb)⟩
        · trivial
      · have q1 : x2.toInt < (1000000 : Int) := aw_t_ge (a := x2.toInt) (b := (1000000 : Int)) rfl rfl q1
        refine cw_l2 aj_d32 rfl rfl hl0 ?_
        obtain ⟨v2, f2, g2⟩ := cw_tyF (i := 35) (t := 55) (c := 3) (k := 5) (y := (.inl (0, 512))) hT (cw_s0 hB rfl) rfl rfl rfl
        obtain ⟨x2, rfl, b2⟩ := ak_gi g2
        dsimp only [ak_win] at b2
        refine cw_g (i := 35) (v := .int x2) htb.1 aj_d32 rfl rfl (by decide) f2 ?_
        refine cw_z (tgt := 183) aj_d32 rfl rfl (fun q3 => ?_) (fun q3 => ?_)
        · have q3 : x2.toInt ≤ (0 : Int) := aw_t_le (a := x2.toInt) (b := (0 : Int)) rfl rfl q3
          refine cw_Wr aj_d32 rfl rfl hT ?_ ?_
          · exact ⟨rfl, hE, cw_QV_gd (c := 0) (Or.inl hb)⟩
          · trivial
        · have q3 : x2.toInt > (0 : Int) := aw_t_le (a := x2.toInt) (b := (0 : Int)) rfl rfl q3
          refine cw_l2 aj_d32 rfl rfl hl0 ?_
          obtain ⟨v4, f4, g4⟩ := cw_tyF (i := 35) (t := 55) (c := 3) (k := 1) (y := (.inr (some ([56], false)))) hT (cw_s0 hB rfl) rfl rfl rfl
          obtain rfl := cw_gu (i := 30) hB g4 (by decide) (by decide) (by decide)
          refine cw_g (i := 35) (v := .ref (52 + 30)) htb.1 aj_d32 rfl rfl (by decide) f4 ?_
          refine cw_g (i := 30) (v := .int m) htb.1 aj_d32 rfl rfl (by decide) fm ?_
          refine cw_z (tgt := 183) aj_d32 rfl rfl (fun q5 => ?_) (fun q5 => ?_)
          · have q5 : m.toInt ≠ (0 : Int) := aw_t_ne (a := m.toInt) (b := (0 : Int)) rfl rfl q5
            refine cw_Wr aj_d32 rfl rfl hT ?_ ?_
            · exact ⟨rfl, hE, cw_QV_gd (c := 0) (Or.inl hb)⟩
            · trivial
          · have q5 : m.toInt = (0 : Int) := aw_t_ne (a := m.toInt) (b := (0 : Int)) rfl rfl q5
            exfalso
            exact mn (by omega)
    · obtain ⟨⟨x5, g, f5, l5, a36, lo⟩, f6, f14, f4, fp, a31⟩ := id hP
      refine cw_l0 aj_d32 rfl rfl hl2 ?_
      refine cw_n aj_d32 rfl rfl ?_
      refine cw_c (tgt := 183) aj_d32 rfl rfl (fun q7 => ?_) (fun q7 => ?_)
      · have q7 : x2.toInt ≥ (1000000 : Int) := aw_t_ge (a := x2.toInt) (b := (1000000 : Int)) rfl rfl q7
        refine cw_Wr aj_d32 rfl rfl hT ?_ ?_
        · exact ⟨rfl, hE, cw_QV_gd hQ⟩
        · trivial
      · have q7 : x2.toInt < (1000000 : Int) := aw_t_ge (a := x2.toInt) (b := (1000000 : Int)) rfl rfl q7
        refine cw_l2 aj_d32 rfl rfl hl0 ?_
        refine cw_g (i := 35) (v := .int x5) htb.1 aj_d32 rfl rfl (by decide) f5 ?_
        refine cw_z (tgt := 183) aj_d32 rfl rfl (fun q8 => ?_) (fun q8 => ?_)
        · have q8 : x5.toInt ≤ (0 : Int) := aw_t_le (a := x5.toInt) (b := (0 : Int)) rfl rfl q8
          refine cw_Wr aj_d32 rfl rfl hT ?_ ?_
          · exact ⟨rfl, hE, cw_QV_gd hQ⟩
          · trivial
        · have q8 : x5.toInt > (0 : Int) := aw_t_le (a := x5.toInt) (b := (0 : Int)) rfl rfl q8
          refine cw_l2 aj_d32 rfl rfl hl0 ?_
          obtain ⟨v9, f9, g9⟩ := cw_tyF (i := 35) (t := 55) (c := 3) (k := 1) (y := (.inr (some ([56], false)))) hT (cw_s0 hB rfl) rfl rfl rfl
          obtain rfl := cw_gu (i := 30) hB g9 (by decide) (by decide) (by decide)
          refine cw_g (i := 35) (v := .ref (52 + 30)) htb.1 aj_d32 rfl rfl (by decide) f9 ?_
          refine cw_g (i := 30) (v := .int 0) htb.1 aj_d32 rfl rfl (by decide) fp ?_
          refine cw_z (tgt := 183) aj_d32 rfl rfl (fun q10 => ?_) (fun q10 => ?_)
          · have q10 : (0 : Int) ≠ (0 : Int) := aw_t_ne (a := (0 : Int)) (b := (0 : Int)) rfl rfl q10
            exfalso
            omega
          · have q10 : (0 : Int) = (0 : Int) := aw_t_ne (a := (0 : Int)) (b := (0 : Int)) rfl rfl q10
            cases σ with
            | nil => exact absurd l5 (by rw [List.length_nil]; omega)
            | cons p σ1 =>
              have l5' : x5.toInt = σ1.length + 1 := by rw [l5, List.length_cons]; omega
              have lo0 := lo 0 (by rw [List.length_cons]; omega)
              have hn1 := h3 (by intro z; cases z)
              have hl := cw_sr_len h5 hs
              rw [List.length_cons] at hl
              have hpr := cw_low_r (g ((p :: σ1).length - 1 - 0))
              rw [lo0, List.getD_cons_zero] at hpr
              refine cw_l2 aj_d32 rfl rfl hl0 ?_
              refine cw_n aj_d32 rfl rfl ?_
              refine cw_g (i := 35) (v := .int x5) htb.1 aj_d32 rfl rfl (by decide) f5 ?_
              refine cw_n aj_d32 rfl rfl ?_
              refine cw_sub aj_d32 rfl (a := x5.toInt) (b := (1 : Int)) rfl rfl (by omega) (by omega) (fun x11 ex11 => ?_)
              refine cw_p (i := 35) (t := 55) (c := 3) (k := 5) (v := .int x11) (y := (.inl (0, 512))) htb aj_d32 rfl rfl hT (cw_s0 hB rfl) rfl rfl rfl (cw_gw (a := x11.toInt) rfl (by omega) (by omega)) (by decide) rfl rfl (fun hT12 => ?_)
              have f13 : cw_F (cw_sf h 35 5 (.int x11)) 35 3 6 (.int nx) := cw_sf_ne f6 (Or.inr (by decide))
              have f14 : cw_F (cw_sf h 35 5 (.int x11)) 35 3 14 (.int o) := cw_sf_ne f14 (Or.inr (by decide))
              have f15 : cw_F (cw_sf h 35 5 (.int x11)) 30 4 4 (.int n) := cw_sf_ne f4 (Or.inr (by decide))
              have f16 : cw_F (cw_sf h 35 5 (.int x11)) 30 4 5 (.int 0) := cw_sf_ne fp (Or.inl (by decide))
              have f17 : cw_F (cw_sf h 35 5 (.int x11)) 35 3 1 (.ref (52 + 30)) := cw_sf_ne f9 (Or.inr (by decide))
              have a18 : cw_A (cw_sf h 35 5 (.int x11)) 36 0 512 (.inl g) := cw_sf_A a36
              have a19 : cw_A (cw_sf h 35 5 (.int x11)) 31 0 2500 (.inl f) := cw_sf_A a31
              have f20 : cw_F (cw_sf h 35 5 (.int x11)) 35 3 5 (.int x11) := cw_sf_same f5
              refine cw_l2 aj_d32 rfl rfl hl0 ?_
              refine cw_g (i := 35) (v := .int x11) htb.1 aj_d32 rfl rfl (by decide) f20 ?_
              refine cw_l2 aj_d32 rfl rfl hl0 ?_
              obtain ⟨v21, f21, g21⟩ := cw_tyF (i := 35) (t := 55) (c := 3) (k := 2) (y := (.inr (some ([83], false)))) hT12 (cw_s0 hB rfl) rfl rfl rfl
              obtain rfl := cw_gu (i := 36) hB g21 (by decide) (by decide) (by decide)
              refine cw_g (i := 35) (v := .ref (52 + 36)) htb.1 aj_d32 rfl rfl (by decide) f21 ?_
              refine cw_alen (i := 36) htb.1 aj_d32 rfl a18 (by decide) (by omega) (fun x22 ex22 => ?_)
              refine cw_c (tgt := 124) aj_d32 rfl rfl (fun q23 => ?_) (fun q23 => ?_)
              · have q23 : x11.toInt ≥ (512 : Int) := aw_t_ge (a := x11.toInt) (b := (512 : Int)) rfl ex22 q23
                exfalso
                omega
              · have q23 : x11.toInt < (512 : Int) := aw_t_ge (a := x11.toInt) (b := (512 : Int)) rfl ex22 q23
                refine cw_l2 aj_d32 rfl rfl hl0 ?_
                refine cw_g (i := 35) (v := .ref (52 + 36)) htb.1 aj_d32 rfl rfl (by decide) f21 ?_
                refine cw_l2 aj_d32 rfl rfl hl0 ?_
                refine cw_g (i := 35) (v := .int x11) htb.1 aj_d32 rfl rfl (by decide) f20 ?_
                refine cw_ld (i := 36) htb.1 aj_d32 (Or.inl ⟨rfl, rfl⟩) rfl a18 (a := x11.toInt) rfl (by omega) (by omega) (fun x24 ex24 => ?_)
                refine cw_n aj_d32 rfl rfl ?_
                refine cw_t0 (j := 3) aj_d32 rfl (by decide) rfl ?_
                obtain ⟨lv25, elv25⟩ : ∃ l, l = aj_set1 lv 3 (.int x24) := ⟨_, rfl⟩
                rw [← elv25]
                have hlv25_0 : aj_lv lv25 0 = some (.ref (52 + 35)) := cw_e1 elv25 hl0 (by decide) (Or.inl (by decide))
                have hlv25_2 : aj_lv lv25 2 = some (.int x2) := cw_e1 elv25 hl2 (by decide) (Or.inr rfl)
                have hlv25_3 : aj_lv lv25 3 = some (.int x24) := by rw [elv25]; exact ak_set1_eq _ _ _
                show cw_W _ _ _ _ _ _ _ _ _ _ 126 lv25 []
                refine cw_l0 aj_d32 rfl rfl hlv25_3 ?_
                refine cw_n aj_d32 rfl rfl ?_
                refine cw_any aj_d32 rfl rfl (fun x26 ex26 => ?_)
                have ez : x26.toInt = (p : Int) := by
                  rw [cw_low_and ex26, ex24]
                  refine Eq.trans ?_ lo0
                  refine congrArg (fun i => cw_low (g i)) ?_
                  rw [List.length_cons]
                  omega
                refine cw_t0 (j := 4) aj_d32 rfl (by decide) rfl ?_
                obtain ⟨lv27, elv27⟩ : ∃ l, l = aj_set1 lv25 4 (.int x26) := ⟨_, rfl⟩
                rw [← elv27]
                have hlv27_3 : aj_lv lv27 3 = some (.int x24) := cw_e1 elv27 hlv25_3 (by decide) (Or.inr rfl)
                have hlv27_0 : aj_lv lv27 0 = some (.ref (52 + 35)) := cw_e1 elv27 hlv25_0 (by decide) (Or.inl (by decide))
                have hlv27_2 : aj_lv lv27 2 = some (.int x2) := cw_e1 elv27 hlv25_2 (by decide) (Or.inl (by decide))
                have hlv27_4 : aj_lv lv27 4 = some (.int x26) := by rw [elv27]; exact ak_set1_eq _ _ _
                show cw_W _ _ _ _ _ _ _ _ _ _ 133 lv27 []
                refine cw_l0 aj_d32 rfl rfl hlv27_4 ?_
                refine cw_n aj_d32 rfl rfl ?_
                refine cw_c (tgt := 154) aj_d32 rfl rfl (fun q28 => ?_) (fun q28 => ?_)
                · have q28 : x26.toInt < (170 : Int) := aw_t_lt (a := x26.toInt) (b := (170 : Int)) rfl rfl q28
                  refine cw_l0 aj_d32 rfl rfl hlv27_4 ?_
                  refine cw_n aj_d32 rfl rfl ?_
                  refine cw_c (tgt := 171) aj_d32 rfl rfl (fun q29 => ?_) (fun q29 => ?_)
                  · have q29 : x26.toInt < (130 : Int) := aw_t_lt (a := x26.toInt) (b := (130 : Int)) rfl rfl q29
                    refine cw_l2 aj_d32 rfl rfl hlv27_0 ?_
                    refine cw_l0 aj_d32 rfl rfl hlv27_4 ?_
                    have hP1 : cw_PV (cw_sf h 35 5 (.int x11)) σ1 nx o n f := by
                      refine ⟨⟨_, _, f20, by omega, a18, fun j hj => ?_⟩, f13, f14, f15, f16, a19⟩
                      rw [← List.getD_cons_succ (x := p), ← lo (j + 1) (by rw [List.length_cons]; omega)]
                      exact congrArg (fun i => cw_low (g i)) (by rw [List.length_cons]; omega)
                    refine cw_k0 (i := 35) (t := 55) (con' := cw_nP 55 none) aj_d32 htb hT12 rfl rfl [_] rfl rfl (cw_s0 hB rfl) rfl (Nat.le_of_ble_eq_true rfl) ⟨by decide, by decide⟩ (cw_take htb hT12 hB (by omega) (x := x26) hP1 (by omega)) ?_
                    rintro rk hk hTk ⟨exk, qk⟩ hRk
                    obtain rfl := cw_rN hRk
                    have hQk : cw_QV hk (x2.toInt + 1) := by
                      rcases qk with qk | ⟨nx', e1, e2, qP⟩
                      · exact Or.inl qk
                      · exact cw_QV_take (x := p) (by omega) qP h1 h2 e1 (by omega) ⟨h4, h5⟩ h6 h7 hr hs
                    show cw_W _ _ _ _ _ _ _ _ _ _ 177 lv27 []
                    refine cw_inc aj_d32 rfl hlv27_2 (a := x2.toInt) rfl (by omega) (by omega) (by decide) (by decide) (fun x30 ex30 => ?_)
                    obtain ⟨lv31, elv31⟩ : ∃ l, l = aj_set1 lv27 2 (.int x30) := ⟨_, rfl⟩
                    rw [← elv31]
                    have hlv31_4 : aj_lv lv31 4 = some (.int x26) := cw_e1 elv31 hlv27_4 (by decide) (Or.inl (by decide))
                    have hlv31_3 : aj_lv lv31 3 = some (.int x24) := cw_e1 elv31 hlv27_3 (by decide) (Or.inl (by decide))
                    have hlv31_0 : aj_lv lv31 0 = some (.ref (52 + 35)) := cw_e1 elv31 hlv27_0 (by decide) (Or.inl (by decide))
                    have hlv31_2 : aj_lv lv31 2 = some (.int x30) := by rw [elv31]; exact ak_set1_eq _ _ _
                    show cw_W _ _ _ _ _ _ _ _ _ _ 180 lv31 []
                    refine cw_n aj_d32 rfl rfl ?_
                    refine ih hTk (cw_ex_tr (cw_ex_tr hE (cw_ex_sf (by decide))) exk) ?_ hlv31_0 hlv31_2 (by omega) (by omega)
                    rw [ex30]
                    exact hQk
                  · have q29 : x26.toInt ≥ (130 : Int) := aw_t_lt (a := x26.toInt) (b := (130 : Int)) rfl rfl q29
                    refine cw_l2 aj_d32 rfl rfl hlv27_0 ?_
                    refine cw_l0 aj_d32 rfl rfl hlv27_4 ?_
                    have hlr : ∀ t, t ∈ cw_rl p → (cw_sl t).length + σ1.length ≤ 512 := fun t ht => by
                      have := cw_sr_len h5 (cw_sr_rule ht ⟨h4, h5⟩ (by omega) hs)
                      rw [List.length_append] at this
                      exact this
                    have hP1 : cw_PV (cw_sf h 35 5 (.int x11)) σ1 nx o n f := by
                      refine ⟨⟨_, _, f20, by omega, a18, fun j hj => ?_⟩, f13, f14, f15, f16, a19⟩
                      rw [← List.getD_cons_succ (x := p), ← lo (j + 1) (by rw [List.length_cons]; omega)]
                      exact congrArg (fun i => cw_low (g i)) (by rw [List.length_cons]; omega)
                    refine cw_k0 (i := 35) (t := 55) (con' := cw_nP 45 none) aj_d32 htb hT12 rfl rfl [_] rfl rfl (cw_s0 hB rfl) rfl (Nat.le_of_ble_eq_true rfl) ⟨by decide, by decide⟩ (cw_expand htb hT12 hB (by omega) (x := x26) (p := p) ez (by omega) (by omega) htG hlr hP1) ?_
                    rintro rk hk hTk ⟨exk, qk⟩ hRk
                    obtain rfl := cw_rN hRk
                    have hQk : cw_QV hk (x2.toInt + 1) := by
                      rcases qk with qk | ⟨t, ht, qP⟩
                      · exact Or.inl qk
                      · exact cw_QV_exp ht qP h1 (by omega) hn1 ⟨h4, h5⟩ h6 h7 hr hs
                    show cw_W _ _ _ _ _ _ _ _ _ _ 168 lv27 []
                    refine cw_n aj_d32 rfl rfl ?_
                    refine cw_inc aj_d32 rfl hlv27_2 (a := x2.toInt) rfl (by omega) (by omega) (by decide) (by decide) (fun x32 ex32 => ?_)
                    obtain ⟨lv33, elv33⟩ : ∃ l, l = aj_set1 lv27 2 (.int x32) := ⟨_, rfl⟩
                    rw [← elv33]
                    have hlv33_4 : aj_lv lv33 4 = some (.int x26) := cw_e1 elv33 hlv27_4 (by decide) (Or.inl (by decide))
                    have hlv33_3 : aj_lv lv33 3 = some (.int x24) := cw_e1 elv33 hlv27_3 (by decide) (Or.inl (by decide))
                    have hlv33_0 : aj_lv lv33 0 = some (.ref (52 + 35)) := cw_e1 elv33 hlv27_0 (by decide) (Or.inl (by decide))
                    have hlv33_2 : aj_lv lv33 2 = some (.int x32) := by rw [elv33]; exact ak_set1_eq _ _ _
                    show cw_W _ _ _ _ _ _ _ _ _ _ 180 lv33 []
                    refine cw_n aj_d32 rfl rfl ?_
                    refine ih hTk (cw_ex_tr (cw_ex_tr hE (cw_ex_sf (by decide))) exk) ?_ hlv33_0 hlv33_2 (by omega) (by omega)
                    rw [ex32]
                    exact hQk
                · have q28 : x26.toInt ≥ (170 : Int) := aw_t_lt (a := x26.toInt) (b := (170 : Int)) rfl rfl q28
                  refine cw_l2 aj_d32 rfl rfl hlv27_0 ?_
                  refine cw_l0 aj_d32 rfl rfl hlv27_4 ?_
                  refine cw_l0 aj_d32 rfl rfl hlv27_3 ?_
                  refine cw_n aj_d32 rfl rfl ?_
                  refine cw_any aj_d32 rfl rfl (fun x34 ex34 => ?_)
                  have hP1 : cw_PV (cw_sf h 35 5 (.int x11)) σ1 nx o n f := by
                    refine ⟨⟨_, _, f20, by omega, a18, fun j hj => ?_⟩, f13, f14, f15, f16, a19⟩
                    rw [← List.getD_cons_succ (x := p), ← lo (j + 1) (by rw [List.length_cons]; omega)]
                    exact congrArg (fun i => cw_low (g i)) (by rw [List.length_cons]; omega)
                  refine cw_k0 (i := 35) (t := 55) (con' := cw_nP 34 none) aj_d32 htb hT12 rfl rfl [_, _] rfl rfl (cw_s0 hB rfl) rfl (Nat.le_of_ble_eq_true rfl) ⟨by decide, by decide⟩ (cw_note htb hT12 hB (by omega) (x := x26) (by omega) x34 ⟨h4, h5⟩ (fun _ => ⟨h6, by omega⟩) hP1) ?_
                  rintro rk hk hTk ⟨exk, qk⟩ hRk
                  obtain rfl := cw_rN hRk
                  have hQk : cw_QV hk (x2.toInt + 1) := by
                    rcases qk with qk | ⟨o', n', f', qP, q1, q2, q3⟩
                    · exact Or.inl qk
                    · exact cw_QV_note (x := p) ez (by omega) qP h1 (by omega) hn1 ⟨h4, h5⟩ h6 h7 hr hs q1 q2 q3
                  show cw_W _ _ _ _ _ _ _ _ _ _ 151 lv27 []
                  refine cw_n aj_d32 rfl rfl ?_
                  refine cw_inc aj_d32 rfl hlv27_2 (a := x2.toInt) rfl (by omega) (by omega) (by decide) (by decide) (fun x35 ex35 => ?_)
                  obtain ⟨lv36, elv36⟩ : ∃ l, l = aj_set1 lv27 2 (.int x35) := ⟨_, rfl⟩
                  rw [← elv36]
                  have hlv36_4 : aj_lv lv36 4 = some (.int x26) := cw_e1 elv36 hlv27_4 (by decide) (Or.inl (by decide))
                  have hlv36_3 : aj_lv lv36 3 = some (.int x24) := cw_e1 elv36 hlv27_3 (by decide) (Or.inl (by decide))
                  have hlv36_0 : aj_lv lv36 0 = some (.ref (52 + 35)) := cw_e1 elv36 hlv27_0 (by decide) (Or.inl (by decide))
                  have hlv36_2 : aj_lv lv36 2 = some (.int x35) := by rw [elv36]; exact ak_set1_eq _ _ _
                  show cw_W _ _ _ _ _ _ _ _ _ _ 180 lv36 []
                  refine cw_n aj_d32 rfl rfl ?_
                  refine ih hTk (cw_ex_tr (cw_ex_tr hE (cw_ex_sf (by decide))) exk) ?_ hlv36_0 hlv36_2 (by omega) (by omega)
                  rw [ex35]
                  exact hQk
theorem cw_parse (htb : ak_tbOK ak_C0 tb) (htG : cw_tbG tb) (hT : ak_Ty ak_C0 s h) (hB : cw_B s) (hd : 5 ≤ d) {x1 : Int32} (hx2 : x1.toInt = 130 ∨ x1.toInt = 138) (fp : cw_F h 30 4 5 (.int 0)) (f4 : cw_F h 30 4 4 (.int 0)) : cw_K ak_C0 (fun s' _ h' => s' = s ∧ cw_ex cw_EP (cw_o h) (cw_o h') ∧ cw_gd (cw_o h')) tb d (cw_nP 32 none) [.ref (52 + 35), .int x1] s h := by
  obtain ⟨d, rfl⟩ : ∃ e, d = e + 1 := ⟨d - 1, by omega⟩
  have hx : 0 ≤ x1.toInt ∧ x1.toInt ≤ 255 := by omega
  refine cw_m (con := cw_nP 32 none) aj_m32_at (Nat.le_of_ble_eq_true rfl) ?_
  show cw_W _ _ _ _ _ _ _ _ _ _ 0 [(0, .ref (52 + 35)), (1, .int x1)] []
  refine cw_n aj_d32 rfl rfl ?_
  refine cw_n aj_d32 rfl rfl ?_
  refine cw_p (i := 35) (t := 55) (c := 3) (k := 6) (v := .int (Int32.ofInt 0)) (y := (.inl (0, 1000000))) htb aj_d32 rfl rfl hT (cw_s0 hB rfl) rfl rfl rfl (cw_gw (a := (0 : Int)) rfl (by omega) (by omega)) (by decide) rfl rfl (fun hT37 => ?_)
  obtain ⟨v38, f38, g38⟩ := cw_tyF (i := 35) (t := 55) (c := 3) (k := 6) (y := (.inl (0, 1000000))) hT (cw_s0 hB rfl) rfl rfl rfl
  obtain ⟨x38, rfl, b38⟩ := ak_gi g38
  dsimp only [ak_win] at b38
  have f39 : cw_F (cw_sf h 35 6 (.int (Int32.ofInt 0))) 30 4 5 (.int 0) := cw_sf_ne fp (Or.inr (by decide))
  have f40 : cw_F (cw_sf h 35 6 (.int (Int32.ofInt 0))) 30 4 4 (.int 0) := cw_sf_ne f4 (Or.inr (by decide))
  have f41 : cw_F (cw_sf h 35 6 (.int (Int32.ofInt 0))) 35 3 6 (.int (Int32.ofInt 0)) := cw_sf_same f38
  refine cw_n aj_d32 rfl rfl ?_
  refine cw_n aj_d32 rfl rfl ?_
  refine cw_p (i := 35) (t := 55) (c := 3) (k := 7) (v := .int (Int32.ofInt 0)) (y := (.inl (0, 1000000))) htb aj_d32 rfl rfl hT37 (cw_s0 hB rfl) rfl rfl rfl (cw_gw (a := (0 : Int)) rfl (by omega) (by omega)) (by decide) rfl rfl (fun hT42 => ?_)
  obtain ⟨v43, f43, g43⟩ := cw_tyF (i := 35) (t := 55) (c := 3) (k := 7) (y := (.inl (0, 1000000))) hT37 (cw_s0 hB rfl) rfl rfl rfl
  obtain ⟨x43, rfl, b43⟩ := ak_gi g43
  dsimp only [ak_win] at b43
  have f44 : cw_F (cw_sf (cw_sf h 35 6 (.int (Int32.ofInt 0))) 35 7 (.int (Int32.ofInt 0))) 30 4 5 (.int 0) := cw_sf_ne f39 (Or.inr (by decide))
  have f45 : cw_F (cw_sf (cw_sf h 35 6 (.int (Int32.ofInt 0))) 35 7 (.int (Int32.ofInt 0))) 30 4 4 (.int 0) := cw_sf_ne f40 (Or.inr (by decide))
  have f46 : cw_F (cw_sf (cw_sf h 35 6 (.int (Int32.ofInt 0))) 35 7 (.int (Int32.ofInt 0))) 35 3 6 (.int (Int32.ofInt 0)) := cw_sf_ne f41 (Or.inr (by decide))
  have f47 : cw_F (cw_sf (cw_sf h 35 6 (.int (Int32.ofInt 0))) 35 7 (.int (Int32.ofInt 0))) 35 3 7 (.int (Int32.ofInt 0)) := cw_sf_same f43
  refine cw_n aj_d32 rfl rfl ?_
  refine cw_n aj_d32 rfl rfl ?_
  refine cw_p (i := 35) (t := 55) (c := 3) (k := 8) (v := .int (Int32.ofInt 0)) (y := (.inl ((-2147483648), 2147483647))) htb aj_d32 rfl rfl hT42 (cw_s0 hB rfl) rfl rfl rfl (cw_full _) (by decide) rfl rfl (fun hT48 => ?_)
  obtain ⟨v49, f49, g49⟩ := cw_tyF (i := 35) (t := 55) (c := 3) (k := 8) (y := (.inl ((-2147483648), 2147483647))) hT42 (cw_s0 hB rfl) rfl rfl rfl
  obtain ⟨x49, rfl, b49⟩ := ak_gi g49
  dsimp only [ak_win] at b49
  have f50 : cw_F (cw_sf (cw_sf (cw_sf h 35 6 (.int (Int32.ofInt 0))) 35 7 (.int (Int32.ofInt 0))) 35 8 (.int (Int32.ofInt 0))) 30 4 5 (.int 0) := cw_sf_ne f44 (Or.inr (by decide))
  have f51 : cw_F (cw_sf (cw_sf (cw_sf h 35 6 (.int (Int32.ofInt 0))) 35 7 (.int (Int32.ofInt 0))) 35 8 (.int (Int32.ofInt 0))) 30 4 4 (.int 0) := cw_sf_ne f45 (Or.inr (by decide))
  have f52 : cw_F (cw_sf (cw_sf (cw_sf h 35 6 (.int (Int32.ofInt 0))) 35 7 (.int (Int32.ofInt 0))) 35 8 (.int (Int32.ofInt 0))) 35 3 6 (.int (Int32.ofInt 0)) := cw_sf_ne f46 (Or.inr (by decide))
  have f53 : cw_F (cw_sf (cw_sf (cw_sf h 35 6 (.int (Int32.ofInt 0))) 35 7 (.int (Int32.ofInt 0))) 35 8 (.int (Int32.ofInt 0))) 35 3 7 (.int (Int32.ofInt 0)) := cw_sf_ne f47 (Or.inr (by decide))
  have f54 : cw_F (cw_sf (cw_sf (cw_sf h 35 6 (.int (Int32.ofInt 0))) 35 7 (.int (Int32.ofInt 0))) 35 8 (.int (Int32.ofInt 0))) 35 3 8 (.int (Int32.ofInt 0)) := cw_sf_same f49
  refine cw_n aj_d32 rfl rfl ?_
  refine cw_n aj_d32 rfl rfl ?_
  refine cw_p (i := 35) (t := 55) (c := 3) (k := 9) (v := .int (Int32.ofInt 0)) (y := (.inl (0, 10))) htb aj_d32 rfl rfl hT48 (cw_s0 hB rfl) rfl rfl rfl (cw_gw (a := (0 : Int)) rfl (by omega) (by omega)) (by decide) rfl rfl (fun hT55 => ?_)
  obtain ⟨v56, f56, g56⟩ := cw_tyF (i := 35) (t := 55) (c := 3) (k := 9) (y := (.inl (0, 10))) hT48 (cw_s0 hB rfl) rfl rfl rfl
  obtain ⟨x56, rfl, b56⟩ := ak_gi g56
  dsimp only [ak_win] at b56
  have f57 : cw_F (cw_sf (cw_sf (cw_sf (cw_sf h 35 6 (.int (Int32.ofInt 0))) 35 7 (.int (Int32.ofInt 0))) 35 8 (.int (Int32.ofInt 0))) 35 9 (.int (Int32.ofInt 0))) 30 4 5 (.int 0) := cw_sf_ne f50 (Or.inr (by decide))
  have f58 : cw_F (cw_sf (cw_sf (cw_sf (cw_sf h 35 6 (.int (Int32.ofInt 0))) 35 7 (.int (Int32.ofInt 0))) 35 8 (.int (Int32.ofInt 0))) 35 9 (.int (Int32.ofInt 0))) 30 4 4 (.int 0) := cw_sf_ne f51 (Or.inr (by decide))
  have f59 : cw_F (cw_sf (cw_sf (cw_sf (cw_sf h 35 6 (.int (Int32.ofInt 0))) 35 7 (.int (Int32.ofInt 0))) 35 8 (.int (Int32.ofInt 0))) 35 9 (.int (Int32.ofInt 0))) 35 3 6 (.int (Int32.ofInt 0)) := cw_sf_ne f52 (Or.inr (by decide))
  have f60 : cw_F (cw_sf (cw_sf (cw_sf (cw_sf h 35 6 (.int (Int32.ofInt 0))) 35 7 (.int (Int32.ofInt 0))) 35 8 (.int (Int32.ofInt 0))) 35 9 (.int (Int32.ofInt 0))) 35 3 7 (.int (Int32.ofInt 0)) := cw_sf_ne f53 (Or.inr (by decide))
  have f61 : cw_F (cw_sf (cw_sf (cw_sf (cw_sf h 35 6 (.int (Int32.ofInt 0))) 35 7 (.int (Int32.ofInt 0))) 35 8 (.int (Int32.ofInt 0))) 35 9 (.int (Int32.ofInt 0))) 35 3 8 (.int (Int32.ofInt 0)) := cw_sf_ne f54 (Or.inr (by decide))
  have f62 : cw_F (cw_sf (cw_sf (cw_sf (cw_sf h 35 6 (.int (Int32.ofInt 0))) 35 7 (.int (Int32.ofInt 0))) 35 8 (.int (Int32.ofInt 0))) 35 9 (.int (Int32.ofInt 0))) 35 3 9 (.int (Int32.ofInt 0)) := cw_sf_same f56
  refine cw_n aj_d32 rfl rfl ?_
  refine cw_n aj_d32 rfl rfl ?_
  refine cw_p (i := 35) (t := 55) (c := 3) (k := 10) (v := .int (Int32.ofInt 0)) (y := (.inl ((-2147483648), 2147483647))) htb aj_d32 rfl rfl hT55 (cw_s0 hB rfl) rfl rfl rfl (cw_full _) (by decide) rfl rfl (fun hT63 => ?_)
  obtain ⟨v64, f64, g64⟩ := cw_tyF (i := 35) (t := 55) (c := 3) (k := 10) (y := (.inl ((-2147483648), 2147483647))) hT55 (cw_s0 hB rfl) rfl rfl rfl
  obtain ⟨x64, rfl, b64⟩ := ak_gi g64
  dsimp only [ak_win] at b64
  have f65 : cw_F (cw_sf (cw_sf (cw_sf (cw_sf (cw_sf h 35 6 (.int (Int32.ofInt 0))) 35 7 (.int (Int32.ofInt 0))) 35 8 (.int (Int32.ofInt 0))) 35 9 (.int (Int32.ofInt 0))) 35 10 (.int (Int32.ofInt 0))) 30 4 5 (.int 0) := cw_sf_ne f57 (Or.inr (by decide))
  have f66 : cw_F (cw_sf (cw_sf (cw_sf (cw_sf (cw_sf h 35 6 (.int (Int32.ofInt 0))) 35 7 (.int (Int32.ofInt 0))) 35 8 (.int (Int32.ofInt 0))) 35 9 (.int (Int32.ofInt 0))) 35 10 (.int (Int32.ofInt 0))) 30 4 4 (.int 0) := cw_sf_ne f58 (Or.inr (by decide))
  have f67 : cw_F (cw_sf (cw_sf (cw_sf (cw_sf (cw_sf h 35 6 (.int (Int32.ofInt 0))) 35 7 (.int (Int32.ofInt 0))) 35 8 (.int (Int32.ofInt 0))) 35 9 (.int (Int32.ofInt 0))) 35 10 (.int (Int32.ofInt 0))) 35 3 6 (.int (Int32.ofInt 0)) := cw_sf_ne f59 (Or.inr (by decide))
  have f68 : cw_F (cw_sf (cw_sf (cw_sf (cw_sf (cw_sf h 35 6 (.int (Int32.ofInt 0))) 35 7 (.int (Int32.ofInt 0))) 35 8 (.int (Int32.ofInt 0))) 35 9 (.int (Int32.ofInt 0))) 35 10 (.int (Int32.ofInt 0))) 35 3 7 (.int (Int32.ofInt 0)) := cw_sf_ne f60 (Or.inr (by decide))
  have f69 : cw_F (cw_sf (cw_sf (cw_sf (cw_sf (cw_sf h 35 6 (.int (Int32.ofInt 0))) 35 7 (.int (Int32.ofInt 0))) 35 8 (.int (Int32.ofInt 0))) 35 9 (.int (Int32.ofInt 0))) 35 10 (.int (Int32.ofInt 0))) 35 3 8 (.int (Int32.ofInt 0)) := cw_sf_ne f61 (Or.inr (by decide))
  have f70 : cw_F (cw_sf (cw_sf (cw_sf (cw_sf (cw_sf h 35 6 (.int (Int32.ofInt 0))) 35 7 (.int (Int32.ofInt 0))) 35 8 (.int (Int32.ofInt 0))) 35 9 (.int (Int32.ofInt 0))) 35 10 (.int (Int32.ofInt 0))) 35 3 9 (.int (Int32.ofInt 0)) := cw_sf_ne f62 (Or.inr (by decide))
  have f71 : cw_F (cw_sf (cw_sf (cw_sf (cw_sf (cw_sf h 35 6 (.int (Int32.ofInt 0))) 35 7 (.int (Int32.ofInt 0))) 35 8 (.int (Int32.ofInt 0))) 35 9 (.int (Int32.ofInt 0))) 35 10 (.int (Int32.ofInt 0))) 35 3 10 (.int (Int32.ofInt 0)) := cw_sf_same f64
  refine cw_n aj_d32 rfl rfl ?_
  refine cw_n aj_d32 rfl rfl ?_
  refine cw_p (i := 35) (t := 55) (c := 3) (k := 11) (v := .int (Int32.ofInt 0)) (y := (.inl ((-2147483648), 2147483647))) htb aj_d32 rfl rfl hT63 (cw_s0 hB rfl) rfl rfl rfl (cw_full _) (by decide) rfl rfl (fun hT72 => ?_)
  obtain ⟨v73, f73, g73⟩ := cw_tyF (i := 35) (t := 55) (c := 3) (k := 11) (y := (.inl ((-2147483648), 2147483647))) hT63 (cw_s0 hB rfl) rfl rfl rfl
  obtain ⟨x73, rfl, b73⟩ := ak_gi g73
  dsimp only [ak_win] at b73
  have f74 : cw_F (cw_sf (cw_sf (cw_sf (cw_sf (cw_sf (cw_sf h 35 6 (.int (Int32.ofInt 0))) 35 7 (.int (Int32.ofInt 0))) 35 8 (.int (Int32.ofInt 0))) 35 9 (.int (Int32.ofInt 0))) 35 10 (.int (Int32.ofInt 0))) 35 11 (.int (Int32.ofInt 0))) 30 4 5 (.int 0) := cw_sf_ne f65 (Or.inr (by decide))
  have f75 : cw_F (cw_sf (cw_sf (cw_sf (cw_sf (cw_sf (cw_sf h 35 6 (.int (Int32.ofInt 0))) 35 7 (.int (Int32.ofInt 0))) 35 8 (.int (Int32.ofInt 0))) 35 9 (.int (Int32.ofInt 0))) 35 10 (.int (Int32.ofInt 0))) 35 11 (.int (Int32.ofInt 0))) 30 4 4 (.int 0) := cw_sf_ne f66 (Or.inr (by decide))
  have f76 : cw_F (cw_sf (cw_sf (cw_sf (cw_sf (cw_sf (cw_sf h 35 6 (.int (Int32.ofInt 0))) 35 7 (.int (Int32.ofInt 0))) 35 8 (.int (Int32.ofInt 0))) 35 9 (.int (Int32.ofInt 0))) 35 10 (.int (Int32.ofInt 0))) 35 11 (.int (Int32.ofInt 0))) 35 3 6 (.int (Int32.ofInt 0)) := cw_sf_ne f67 (Or.inr (by decide))
  have f77 : cw_F (cw_sf (cw_sf (cw_sf (cw_sf (cw_sf (cw_sf h 35 6 (.int (Int32.ofInt 0))) 35 7 (.int (Int32.ofInt 0))) 35 8 (.int (Int32.ofInt 0))) 35 9 (.int (Int32.ofInt 0))) 35 10 (.int (Int32.ofInt 0))) 35 11 (.int (Int32.ofInt 0))) 35 3 7 (.int (Int32.ofInt 0)) := cw_sf_ne f68 (Or.inr (by decide))
  have f78 : cw_F (cw_sf (cw_sf (cw_sf (cw_sf (cw_sf (cw_sf h 35 6 (.int (Int32.ofInt 0))) 35 7 (.int (Int32.ofInt 0))) 35 8 (.int (Int32.ofInt 0))) 35 9 (.int (Int32.ofInt 0))) 35 10 (.int (Int32.ofInt 0))) 35 11 (.int (Int32.ofInt 0))) 35 3 8 (.int (Int32.ofInt 0)) := cw_sf_ne f69 (Or.inr (by decide))
  have f79 : cw_F (cw_sf (cw_sf (cw_sf (cw_sf (cw_sf (cw_sf h 35 6 (.int (Int32.ofInt 0))) 35 7 (.int (Int32.ofInt 0))) 35 8 (.int (Int32.ofInt 0))) 35 9 (.int (Int32.ofInt 0))) 35 10 (.int (Int32.ofInt 0))) 35 11 (.int (Int32.ofInt 0))) 35 3 9 (.int (Int32.ofInt 0)) := cw_sf_ne f70 (Or.inr (by decide))
  have f80 : cw_F (cw_sf (cw_sf (cw_sf (cw_sf (cw_sf (cw_sf h 35 6 (.int (Int32.ofInt 0))) 35 7 (.int (Int32.ofInt 0))) 35 8 (.int (Int32.ofInt 0))) 35 9 (.int (Int32.ofInt 0))) 35 10 (.int (Int32.ofInt 0))) 35 11 (.int (Int32.ofInt 0))) 35 3 10 (.int (Int32.ofInt 0)) := cw_sf_ne f71 (Or.inr (by decide))
  have f81 : cw_F (cw_sf (cw_sf (cw_sf (cw_sf (cw_sf (cw_sf h 35 6 (.int (Int32.ofInt 0))) 35 7 (.int (Int32.ofInt 0))) 35 8 (.int (Int32.ofInt 0))) 35 9 (.int (Int32.ofInt 0))) 35 10 (.int (Int32.ofInt 0))) 35 11 (.int (Int32.ofInt 0))) 35 3 11 (.int (Int32.ofInt 0)) := cw_sf_same f73
  refine cw_n aj_d32 rfl rfl ?_
  refine cw_n aj_d32 rfl rfl ?_
  refine cw_p (i := 35) (t := 55) (c := 3) (k := 12) (v := .int (Int32.ofInt 0)) (y := (.inl ((-2147483648), 2147483647))) htb aj_d32 rfl rfl hT72 (cw_s0 hB rfl) rfl rfl rfl (cw_full _) (by decide) rfl rfl (fun hT82 => ?_)
  obtain ⟨v83, f83, g83⟩ := cw_tyF (i := 35) (t := 55) (c := 3) (k := 12) (y := (.inl ((-2147483648), 2147483647))) hT72 (cw_s0 hB rfl) rfl rfl rfl
  obtain ⟨x83, rfl, b83⟩ := ak_gi g83
  dsimp only [ak_win] at b83
  have f84 : cw_F (cw_sf (cw_sf (cw_sf (cw_sf (cw_sf (cw_sf (cw_sf h 35 6 (.int (Int32.ofInt 0))) 35 7 (.int (Int32.ofInt 0))) 35 8 (.int (Int32.ofInt 0))) 35 9 (.int (Int32.ofInt 0))) 35 10 (.int (Int32.ofInt 0))) 35 11 (.int (Int32.ofInt 0))) 35 12 (.int (Int32.ofInt 0))) 30 4 5 (.int 0) := cw_sf_ne f74 (Or.inr (by decide))
  have f85 : cw_F (cw_sf (cw_sf (cw_sf (cw_sf (cw_sf (cw_sf (cw_sf h 35 6 (.int (Int32.ofInt 0))) 35 7 (.int (Int32.ofInt 0))) 35 8 (.int (Int32.ofInt 0))) 35 9 (.int (Int32.ofInt 0))) 35 10 (.int (Int32.ofInt 0))) 35 11 (.int (Int32.ofInt 0))) 35 12 (.int (Int32.ofInt 0))) 30 4 4 (.int 0) := cw_sf_ne f75 (Or.inr (by decide))
  have f86 : cw_F (cw_sf (cw_sf (cw_sf (cw_sf (cw_sf (cw_sf (cw_sf h 35 6 (.int (Int32.ofInt 0))) 35 7 (.int (Int32.ofInt 0))) 35 8 (.int (Int32.ofInt 0))) 35 9 (.int (Int32.ofInt 0))) 35 10 (.int (Int32.ofInt 0))) 35 11 (.int (Int32.ofInt 0))) 35 12 (.int (Int32.ofInt 0))) 35 3 6 (.int (Int32.ofInt 0)) := cw_sf_ne f76 (Or.inr (by decide))
  have f87 : cw_F (cw_sf (cw_sf (cw_sf (cw_sf (cw_sf (cw_sf (cw_sf h 35 6 (.int (Int32.ofInt 0))) 35 7 (.int (Int32.ofInt 0))) 35 8 (.int (Int32.ofInt 0))) 35 9 (.int (Int32.ofInt 0))) 35 10 (.int (Int32.ofInt 0))) 35 11 (.int (Int32.ofInt 0))) 35 12 (.int (Int32.ofInt 0))) 35 3 7 (.int (Int32.ofInt 0)) := cw_sf_ne f77 (Or.inr (by decide))
  have f88 : cw_F (cw_sf (cw_sf (cw_sf (cw_sf (cw_sf (cw_sf (cw_sf h 35 6 (.int (Int32.ofInt 0))) 35 7 (.int (Int32.ofInt 0))) 35 8 (.int (Int32.ofInt 0))) 35 9 (.int (Int32.ofInt 0))) 35 10 (.int (Int32.ofInt 0))) 35 11 (.int (Int32.ofInt 0))) 35 12 (.int (Int32.ofInt 0))) 35 3 8 (.int (Int32.ofInt 0)) := cw_sf_ne f78 (Or.inr (by decide))
  have f89 : cw_F (cw_sf (cw_sf (cw_sf (cw_sf (cw_sf (cw_sf (cw_sf h 35 6 (.int (Int32.ofInt 0))) 35 7 (.int (Int32.ofInt 0))) 35 8 (.int (Int32.ofInt 0))) 35 9 (.int (Int32.ofInt 0))) 35 10 (.int (Int32.ofInt 0))) 35 11 (.int (Int32.ofInt 0))) 35 12 (.int (Int32.ofInt 0))) 35 3 9 (.int (Int32.ofInt 0)) := cw_sf_ne f79 (Or.inr (by decide))
  have f90 : cw_F (cw_sf (cw_sf (cw_sf (cw_sf (cw_sf (cw_sf (cw_sf h 35 6 (.int (Int32.ofInt 0))) 35 7 (.int (Int32.ofInt 0))) 35 8 (.int (Int32.ofInt 0))) 35 9 (.int (Int32.ofInt 0))) 35 10 (.int (Int32.ofInt 0))) 35 11 (.int (Int32.ofInt 0))) 35 12 (.int (Int32.ofInt 0))) 35 3 10 (.int (Int32.ofInt 0)) := cw_sf_ne f80 (Or.inr (by decide))
  have f91 : cw_F (cw_sf (cw_sf (cw_sf (cw_sf (cw_sf (cw_sf (cw_sf h 35 6 (.int (Int32.ofInt 0))) 35 7 (.int (Int32.ofInt 0))) 35 8 (.int (Int32.ofInt 0))) 35 9 (.int (Int32.ofInt 0))) 35 10 (.int (Int32.ofInt 0))) 35 11 (.int (Int32.ofInt 0))) 35 12 (.int (Int32.ofInt 0))) 35 3 11 (.int (Int32.ofInt 0)) := cw_sf_ne f81 (Or.inr (by decide))
  have f92 : cw_F (cw_sf (cw_sf (cw_sf (cw_sf (cw_sf (cw_sf (cw_sf h 35 6 (.int (Int32.ofInt 0))) 35 7 (.int (Int32.ofInt 0))) 35 8 (.int (Int32.ofInt 0))) 35 9 (.int (Int32.ofInt 0))) 35 10 (.int (Int32.ofInt 0))) 35 11 (.int (Int32.ofInt 0))) 35 12 (.int (Int32.ofInt 0))) 35 3 12 (.int (Int32.ofInt 0)) := cw_sf_same f83
  refine cw_n aj_d32 rfl rfl ?_
  refine cw_n aj_d32 rfl rfl ?_
  refine cw_p (i := 35) (t := 55) (c := 3) (k := 13) (v := .int (Int32.ofInt 0)) (y := (.inl ((-2147483648), 2147483647))) htb aj_d32 rfl rfl hT82 (cw_s0 hB rfl) rfl rfl rfl (cw_full _) (by decide) rfl rfl (fun hT93 => ?_)
  obtain ⟨v94, f94, g94⟩ := cw_tyF (i := 35) (t := 55) (c := 3) (k := 13) (y := (.inl ((-2147483648), 2147483647))) hT82 (cw_s0 hB rfl) rfl rfl rfl
  obtain ⟨x94, rfl, b94⟩ := ak_gi g94
  dsimp only [ak_win] at b94
  have f95 : cw_F (cw_sf (cw_sf (cw_sf (cw_sf (cw_sf (cw_sf (cw_sf (cw_sf h 35 6 (.int (Int32.ofInt 0))) 35 7 (.int (Int32.ofInt 0))) 35 8 (.int (Int32.ofInt 0))) 35 9 (.int (Int32.ofInt 0))) 35 10 (.int (Int32.ofInt 0))) 35 11 (.int (Int32.ofInt 0))) 35 12 (.int (Int32.ofInt 0))) 35 13 (.int (Int32.ofInt 0))) 30 4 5 (.int 0) := cw_sf_ne f84 (Or.inr (by decide))
  have f96 : cw_F (cw_sf (cw_sf (cw_sf (cw_sf (cw_sf (cw_sf (cw_sf (cw_sf h 35 6 (.int (Int32.ofInt 0))) 35 7 (.int (Int32.ofInt 0))) 35 8 (.int (Int32.ofInt 0))) 35 9 (.int (Int32.ofInt 0))) 35 10 (.int (Int32.ofInt 0))) 35 11 (.int (Int32.ofInt 0))) 35 12 (.int (Int32.ofInt 0))) 35 13 (.int (Int32.ofInt 0))) 30 4 4 (.int 0) := cw_sf_ne f85 (Or.inr (by decide))
  have f97 : cw_F (cw_sf (cw_sf (cw_sf (cw_sf (cw_sf (cw_sf (cw_sf (cw_sf h 35 6 (.int (Int32.ofInt 0))) 35 7 (.int (Int32.ofInt 0))) 35 8 (.int (Int32.ofInt 0))) 35 9 (.int (Int32.ofInt 0))) 35 10 (.int (Int32.ofInt 0))) 35 11 (.int (Int32.ofInt 0))) 35 12 (.int (Int32.ofInt 0))) 35 13 (.int (Int32.ofInt 0))) 35 3 6 (.int (Int32.ofInt 0)) := cw_sf_ne f86 (Or.inr (by decide))
  have f98 : cw_F (cw_sf (cw_sf (cw_sf (cw_sf (cw_sf (cw_sf (cw_sf (cw_sf h 35 6 (.int (Int32.ofInt 0))) 35 7 (.int (Int32.ofInt 0))) 35 8 (.int (Int32.ofInt 0))) 35 9 (.int (Int32.ofInt 0))) 35 10 (.int (Int32.ofInt 0))) 35 11 (.int (Int32.ofInt 0))) 35 12 (.int (Int32.ofInt 0))) 35 13 (.int (Int32.ofInt 0))) 35 3 7 (.int (Int32.ofInt 0)) := cw_sf_ne f87 (Or.inr (by decide))
  have f99 : cw_F (cw_sf (cw_sf (cw_sf (cw_sf (cw_sf (cw_sf (cw_sf (cw_sf h 35 6 (.int (Int32.ofInt 0))) 35 7 (.int (Int32.ofInt 0))) 35 8 (.int (Int32.ofInt 0))) 35 9 (.int (Int32.ofInt 0))) 35 10 (.int (Int32.ofInt 0))) 35 11 (.int (Int32.ofInt 0))) 35 12 (.int (Int32.ofInt 0))) 35 13 (.int (Int32.ofInt 0))) 35 3 8 (.int (Int32.ofInt 0)) := cw_sf_ne f88 (Or.inr (by decide))
  have f100 : cw_F (cw_sf (cw_sf (cw_sf (cw_sf (cw_sf (cw_sf (cw_sf (cw_sf h 35 6 (.int (Int32.ofInt 0))) 35 7 (.int (Int32.ofInt 0))) 35 8 (.int (Int32.ofInt 0))) 35 9 (.int (Int32.ofInt 0))) 35 10 (.int (Int32.ofInt 0))) 35 11 (.int (Int32.ofInt 0))) 35 12 (.int (Int32.ofInt 0))) 35 13 (.int (Int32.ofInt 0))) 35 3 9 (.int (Int32.ofInt 0)) := cw_sf_ne f89 (Or.inr (by decide))
  have f101 : cw_F (cw_sf (cw_sf (cw_sf (cw_sf (cw_sf (cw_sf (cw_sf (cw_sf h 35 6 (.int (Int32.ofInt 0))) 35 7 (.int (Int32.ofInt 0))) 35 8 (.int (Int32.ofInt 0))) 35 9 (.int (Int32.ofInt 0))) 35 10 (.int (Int32.ofInt 0))) 35 11 (.int (Int32.ofInt 0))) 35 12 (.int (Int32.ofInt 0))) 35 13 (.int (Int32.ofInt 0))) 35 3 10 (.int (Int32.ofInt 0)) := cw_sf_ne f90 (Or.inr (by decide))
  have f102 : cw_F (cw_sf (cw_sf (cw_sf (cw_sf (cw_sf (cw_sf (cw_sf (cw_sf h 35 6 (.int (Int32.ofInt 0))) 35 7 (.int (Int32.ofInt 0))) 35 8 (.int (Int32.ofInt 0))) 35 9 (.int (Int32.ofInt 0))) 35 10 (.int (Int32.ofInt 0))) 35 11 (.int (Int32.ofInt 0))) 35 12 (.int (Int32.ofInt 0))) 35 13 (.int (Int32.ofInt 0))) 35 3 11 (.int (Int32.ofInt 0)) := cw_sf_ne f91 (Or.inr (by decide))
  have f103 : cw_F (cw_sf (cw_sf (cw_sf (cw_sf (cw_sf (cw_sf (cw_sf (cw_sf h 35 6 (.int (Int32.ofInt 0))) 35 7 (.int (Int32.ofInt 0))) 35 8 (.int (Int32.ofInt 0))) 35 9 (.int (Int32.ofInt 0))) 35 10 (.int (Int32.ofInt 0))) 35 11 (.int (Int32.ofInt 0))) 35 12 (.int (Int32.ofInt 0))) 35 13 (.int (Int32.ofInt 0))) 35 3 12 (.int (Int32.ofInt 0)) := cw_sf_ne f92 (Or.inr (by decide))
  have f104 : cw_F (cw_sf (cw_sf (cw_sf (cw_sf (cw_sf (cw_sf (cw_sf (cw_sf h 35 6 (.int (Int32.ofInt 0))) 35 7 (.int (Int32.ofInt 0))) 35 8 (.int (Int32.ofInt 0))) 35 9 (.int (Int32.ofInt 0))) 35 10 (.int (Int32.ofInt 0))) 35 11 (.int (Int32.ofInt 0))) 35 12 (.int (Int32.ofInt 0))) 35 13 (.int (Int32.ofInt 0))) 35 3 13 (.int (Int32.ofInt 0)) := cw_sf_same f94
  refine cw_n aj_d32 rfl rfl ?_
  refine cw_n aj_d32 rfl rfl ?_
  refine cw_p (i := 35) (t := 55) (c := 3) (k := 14) (v := .int (Int32.ofInt 0)) (y := (.inl ((-2147483648), 2147483647))) htb aj_d32 rfl rfl hT93 (cw_s0 hB rfl) rfl rfl rfl (cw_full _) (by decide) rfl rfl (fun hT105 => ?_)
  obtain ⟨v106, f106, g106⟩ := cw_tyF (i := 35) (t := 55) (c := 3) (k := 14) (y := (.inl ((-2147483648), 2147483647))) hT93 (cw_s0 hB rfl) rfl rfl rfl
  obtain ⟨x106, rfl, b106⟩ := ak_gi g106
  dsimp only [ak_win] at b106
  have f107 : cw_F (cw_sf (cw_sf (cw_sf (cw_sf (cw_sf (cw_sf (cw_sf (cw_sf (cw_sf h 35 6 (.int (Int32.ofInt 0))) 35 7 (.int (Int32.ofInt 0))) 35 8 (.int (Int32.ofInt 0))) 35 9 (.int (Int32.ofInt 0))) 35 10 (.int (Int32.ofInt 0))) 35 11 (.int (Int32.ofInt 0))) 35 12 (.int (Int32.ofInt 0))) 35 13 (.int (Int32.ofInt 0))) 35 14 (.int (Int32.ofInt 0))) 30 4 5 (.int 0) := cw_sf_ne f95 (Or.inr (by decide))
  have f108 : cw_F (cw_sf (cw_sf (cw_sf (cw_sf (cw_sf (cw_sf (cw_sf (cw_sf (cw_sf h 35 6 (.int (Int32.ofInt 0))) 35 7 (.int (Int32.ofInt 0))) 35 8 (.int (Int32.ofInt 0))) 35 9 (.int (Int32.ofInt 0))) 35 10 (.int (Int32.ofInt 0))) 35 11 (.int (Int32.ofInt 0))) 35 12 (.int (Int32.ofInt 0))) 35 13 (.int (Int32.ofInt 0))) 35 14 (.int (Int32.ofInt 0))) 30 4 4 (.int 0) := cw_sf_ne f96 (Or.inr (by decide))
  have f109 : cw_F (cw_sf (cw_sf (cw_sf (cw_sf (cw_sf (cw_sf (cw_sf (cw_sf (cw_sf h 35 6 (.int (Int32.ofInt 0))) 35 7 (.int (Int32.ofInt 0))) 35 8 (.int (Int32.ofInt 0))) 35 9 (.int (Int32.ofInt 0))) 35 10 (.int (Int32.ofInt 0))) 35 11 (.int (Int32.ofInt 0))) 35 12 (.int (Int32.ofInt 0))) 35 13 (.int (Int32.ofInt 0))) 35 14 (.int (Int32.ofInt 0))) 35 3 6 (.int (Int32.ofInt 0)) := cw_sf_ne f97 (Or.inr (by decide))
  have f110 : cw_F (cw_sf (cw_sf (cw_sf (cw_sf (cw_sf (cw_sf (cw_sf (cw_sf (cw_sf h 35 6 (.int (Int32.ofInt 0))) 35 7 (.int (Int32.ofInt 0))) 35 8 (.int (Int32.ofInt 0))) 35 9 (.int (Int32.ofInt 0))) 35 10 (.int (Int32.ofInt 0))) 35 11 (.int (Int32.ofInt 0))) 35 12 (.int (Int32.ofInt 0))) 35 13 (.int (Int32.ofInt 0))) 35 14 (.int (Int32.ofInt 0))) 35 3 7 (.int (Int32.ofInt 0)) := cw_sf_ne f98 (Or.inr (by decide))
  have f111 : cw_F (cw_sf (cw_sf (cw_sf (cw_sf (cw_sf (cw_sf (cw_sf (cw_sf (cw_sf h 35 6 (.int (Int32.ofInt 0))) 35 7 (.int (Int32.ofInt 0))) 35 8 (.int (Int32.ofInt 0))) 35 9 (.int (Int32.ofInt 0))) 35 10 (.int (Int32.ofInt 0))) 35 11 (.int (Int32.ofInt 0))) 35 12 (.int (Int32.ofInt 0))) 35 13 (.int (Int32.ofInt 0))) 35 14 (.int (Int32.ofInt 0))) 35 3 8 (.int (Int32.ofInt 0)) := cw_sf_ne f99 (Or.inr (by decide))
  have f112 : cw_F (cw_sf (cw_sf (cw_sf (cw_sf (cw_sf (cw_sf (cw_sf (cw_sf (cw_sf h 35 6 (.int (Int32.ofInt 0))) 35 7 (.int (Int32.ofInt 0))) 35 8 (.int (Int32.ofInt 0))) 35 9 (.int (Int32.ofInt 0))) 35 10 (.int (Int32.ofInt 0))) 35 11 (.int (Int32.ofInt 0))) 35 12 (.int (Int32.ofInt 0))) 35 13 (.int (Int32.ofInt 0))) 35 14 (.int (Int32.ofInt 0))) 35 3 9 (.int (Int32.ofInt 0)) := cw_sf_ne f100 (Or.inr (by decide))
  have f113 : cw_F (cw_sf (cw_sf (cw_sf (cw_sf (cw_sf (cw_sf (cw_sf (cw_sf (cw_sf h 35 6 (.int (Int32.ofInt 0))) 35 7 (.int (Int32.ofInt 0))) 35 8 (.int (Int32.ofInt 0))) 35 9 (.int (Int32.ofInt 0))) 35 10 (.int (Int32.ofInt 0))) 35 11 (.int (Int32.ofInt 0))) 35 12 (.int (Int32.ofInt 0))) 35 13 (.int (Int32.ofInt 0))) 35 14 (.int (Int32.ofInt 0))) 35 3 10 (.int (Int32.ofInt 0)) := cw_sf_ne f101 (Or.inr (by decide))
  have f114 : cw_F (cw_sf (cw_sf (cw_sf (cw_sf (cw_sf (cw_sf (cw_sf (cw_sf (cw_sf h 35 6 (.int (Int32.ofInt 0))) 35 7 (.int (Int32.ofInt 0))) 35 8 (.int (Int32.ofInt 0))) 35 9 (.int (Int32.ofInt 0))) 35 10 (.int (Int32.ofInt 0))) 35 11 (.int (Int32.ofInt 0))) 35 12 (.int (Int32.ofInt 0))) 35 13 (.int (Int32.ofInt 0))) 35 14 (.int (Int32.ofInt 0))) 35 3 11 (.int (Int32.ofInt 0)) := cw_sf_ne f102 (Or.inr (by decide))
  have f115 : cw_F (cw_sf (cw_sf (cw_sf (cw_sf (cw_sf (cw_sf (cw_sf (cw_sf (cw_sf h 35 6 (.int (Int32.ofInt 0))) 35 7 (.int (Int32.ofInt 0))) 35 8 (.int (Int32.ofInt 0))) 35 9 (.int (Int32.ofInt 0))) 35 10 (.int (Int32.ofInt 0))) 35 11 (.int (Int32.ofInt 0))) 35 12 (.int (Int32.ofInt 0))) 35 13 (.int (Int32.ofInt 0))) 35 14 (.int (Int32.ofInt 0))) 35 3 12 (.int (Int32.ofInt 0)) := cw_sf_ne f103 (Or.inr (by decide))
  have f116 : cw_F (cw_sf (cw_sf (cw_sf (cw_sf (cw_sf (cw_sf (cw_sf (cw_sf (cw_sf h 35 6 (.int (Int32.ofInt 0))) 35 7 (.int (Int32.ofInt 0))) 35 8 (.int (Int32.ofInt 0))) 35 9 (.int (Int32.ofInt 0))) 35 10 (.int (Int32.ofInt 0))) 35 11 (.int (Int32.ofInt 0))) 35 12 (.int (Int32.ofInt 0))) 35 13 (.int (Int32.ofInt 0))) 35 14 (.int (Int32.ofInt 0))) 35 3 13 (.int (Int32.ofInt 0)) := cw_sf_ne f104 (Or.inr (by decide))
  have f117 : cw_F (cw_sf (cw_sf (cw_sf (cw_sf (cw_sf (cw_sf (cw_sf (cw_sf (cw_sf h 35 6 (.int (Int32.ofInt 0))) 35 7 (.int (Int32.ofInt 0))) 35 8 (.int (Int32.ofInt 0))) 35 9 (.int (Int32.ofInt 0))) 35 10 (.int (Int32.ofInt 0))) 35 11 (.int (Int32.ofInt 0))) 35 12 (.int (Int32.ofInt 0))) 35 13 (.int (Int32.ofInt 0))) 35 14 (.int (Int32.ofInt 0))) 35 3 14 (.int (Int32.ofInt 0)) := cw_sf_same f106
  refine cw_n aj_d32 rfl rfl ?_
  refine cw_n aj_d32 rfl rfl ?_
  refine cw_p (i := 35) (t := 55) (c := 3) (k := 15) (v := .int (Int32.ofInt (-1))) (y := (.inl ((-2147483648), 2147483647))) htb aj_d32 rfl rfl hT105 (cw_s0 hB rfl) rfl rfl rfl (cw_full _) (by decide) rfl rfl (fun hT118 => ?_)
  obtain ⟨v119, f119, g119⟩ := cw_tyF (i := 35) (t := 55) (c := 3) (k := 15) (y := (.inl ((-2147483648), 2147483647))) hT105 (cw_s0 hB rfl) rfl rfl rfl
  obtain ⟨x119, rfl, b119⟩ := ak_gi g119
  dsimp only [ak_win] at b119
  have f120 : cw_F (cw_sf (cw_sf (cw_sf (cw_sf (cw_sf (cw_sf (cw_sf (cw_sf (cw_sf (cw_sf h 35 6 (.int (Int32.ofInt 0))) 35 7 (.int (Int32.ofInt 0))) 35 8 (.int (Int32.ofInt 0))) 35 9 (.int (Int32.ofInt 0))) 35 10 (.int (Int32.ofInt 0))) 35 11 (.int (Int32.ofInt 0))) 35 12 (.int (Int32.ofInt 0))) 35 13 (.int (Int32.ofInt 0))) 35 14 (.int (Int32.ofInt 0))) 35 15 (.int (Int32.ofInt (-1)))) 30 4 5 (.int 0) := cw_sf_ne f107 (Or.inr (by decide))
  have f121 : cw_F (cw_sf (cw_sf (cw_sf (cw_sf (cw_sf (cw_sf (cw_sf (cw_sf (cw_sf (cw_sf h 35 6 (.int (Int32.ofInt 0))) 35 7 (.int (Int32.ofInt 0))) 35 8 (.int (Int32.ofInt 0))) 35 9 (.int (Int32.ofInt 0))) 35 10 (.int (Int32.ofInt 0))) 35 11 (.int (Int32.ofInt 0))) 35 12 (.int (Int32.ofInt 0))) 35 13 (.int (Int32.ofInt 0))) 35 14 (.int (Int32.ofInt 0))) 35 15 (.int (Int32.ofInt (-1)))) 30 4 4 (.int 0) := cw_sf_ne f108 (Or.inr (by decide))
  have f122 : cw_F (cw_sf (cw_sf (cw_sf (cw_sf (cw_sf (cw_sf (cw_sf (cw_sf (cw_sf (cw_sf h 35 6 (.int (Int32.ofInt 0))) 35 7 (.int (Int32.ofInt 0))) 35 8 (.int (Int32.ofInt 0))) 35 9 (.int (Int32.ofInt 0))) 35 10 (.int (Int32.ofInt 0))) 35 11 (.int (Int32.ofInt 0))) 35 12 (.int (Int32.ofInt 0))) 35 13 (.int (Int32.ofInt 0))) 35 14 (.int (Int32.ofInt 0))) 35 15 (.int (Int32.ofInt (-1)))) 35 3 6 (.int (Int32.ofInt 0)) := cw_sf_ne f109 (Or.inr (by decide))
  have f123 : cw_F (cw_sf (cw_sf (cw_sf (cw_sf (cw_sf (cw_sf (cw_sf (cw_sf (cw_sf (cw_sf h 35 6 (.int (Int32.ofInt 0))) 35 7 (.int (Int32.ofInt 0))) 35 8 (.int (Int32.ofInt 0))) 35 9 (.int (Int32.ofInt 0))) 35 10 (.int (Int32.ofInt 0))) 35 11 (.int (Int32.ofInt 0))) 35 12 (.int (Int32.ofInt 0))) 35 13 (.int (Int32.ofInt 0))) 35 14 (.int (Int32.ofInt 0))) 35 15 (.int (Int32.ofInt (-1)))) 35 3 7 (.int (Int32.ofInt 0)) := cw_sf_ne f110 (Or.inr (by decide))
  have f124 : cw_F (cw_sf (cw_sf (cw_sf (cw_sf (cw_sf (cw_sf (cw_sf (cw_sf (cw_sf (cw_sf h 35 6 (.int (Int32.ofInt 0))) 35 7 (.int (Int32.ofInt 0))) 35 8 (.int (Int32.ofInt 0))) 35 9 (.int (Int32.ofInt 0))) 35 10 (.int (Int32.ofInt 0))) 35 11 (.int (Int32.ofInt 0))) 35 12 (.int (Int32.ofInt 0))) 35 13 (.int (Int32.ofInt 0))) 35 14 (.int (Int32.ofInt 0))) 35 15 (.int (Int32.ofInt (-1)))) 35 3 8 (.int (Int32.ofInt 0)) := cw_sf_ne f111 (Or.inr (by decide))
  have f125 : cw_F (cw_sf (cw_sf (cw_sf (cw_sf (cw_sf (cw_sf (cw_sf (cw_sf (cw_sf (cw_sf h 35 6 (.int (Int32.ofInt 0))) 35 7 (.int (Int32.ofInt 0))) 35 8 (.int (Int32.ofInt 0))) 35 9 (.int (Int32.ofInt 0))) 35 10 (.int (Int32.ofInt 0))) 35 11 (.int (Int32.ofInt 0))) 35 12 (.int (Int32.ofInt 0))) 35 13 (.int (Int32.ofInt 0))) 35 14 (.int (Int32.ofInt 0))) 35 15 (.int (Int32.ofInt (-1)))) 35 3 9 (.int (Int32.ofInt 0)) := cw_sf_ne f112 (Or.inr (by decide))
  have f126 : cw_F (cw_sf (cw_sf (cw_sf (cw_sf (cw_sf (cw_sf (cw_sf (cw_sf (cw_sf (cw_sf h 35 6 (.int (Int32.ofInt 0))) 35 7 (.int (Int32.ofInt 0))) 35 8 (.int (Int32.ofInt 0))) 35 9 (.int (Int32.ofInt 0))) 35 10 (.int (Int32.ofInt 0))) 35 11 (.int (Int32.ofInt 0))) 35 12 (.int (Int32.ofInt 0))) 35 13 (.int (Int32.ofInt 0))) 35 14 (.int (Int32.ofInt 0))) 35 15 (.int (Int32.ofInt (-1)))) 35 3 10 (.int (Int32.ofInt 0)) := cw_sf_ne f113 (Or.inr (by decide))
  have f127 : cw_F (cw_sf (cw_sf (cw_sf (cw_sf (cw_sf (cw_sf (cw_sf (cw_sf (cw_sf (cw_sf h 35 6 (.int (Int32.ofInt 0))) 35 7 (.int (Int32.ofInt 0))) 35 8 (.int (Int32.ofInt 0))) 35 9 (.int (Int32.ofInt 0))) 35 10 (.int (Int32.ofInt 0))) 35 11 (.int (Int32.ofInt 0))) 35 12 (.int (Int32.ofInt 0))) 35 13 (.int (Int32.ofInt 0))) 35 14 (.int (Int32.ofInt 0))) 35 15 (.int (Int32.ofInt (-1)))) 35 3 11 (.int (Int32.ofInt 0)) := cw_sf_ne f114 (Or.inr (by decide))
  have f128 : cw_F (cw_sf (cw_sf (cw_sf (cw_sf (cw_sf (cw_sf (cw_sf (cw_sf (cw_sf (cw_sf h 35 6 (.int (Int32.ofInt 0))) 35 7 (.int (Int32.ofInt 0))) 35 8 (.int (Int32.ofInt 0))) 35 9 (.int (Int32.ofInt 0))) 35 10 (.int (Int32.ofInt 0))) 35 11 (.int (Int32.ofInt 0))) 35 12 (.int (Int32.ofInt 0))) 35 13 (.int (Int32.ofInt 0))) 35 14 (.int (Int32.ofInt 0))) 35 15 (.int (Int32.ofInt (-1)))) 35 3 12 (.int (Int32.ofInt 0)) := cw_sf_ne f115 (Or.inr (by decide))
  have f129 : cw_F (cw_sf (cw_sf (cw_sf (cw_sf (cw_sf (cw_sf (cw_sf (cw_sf (cw_sf (cw_sf h 35 6 (.int (Int32.ofInt 0))) 35 7 (.int (Int32.ofInt 0))) 35 8 (.int (Int32.ofInt 0))) 35 9 (.int (Int32.ofInt 0))) 35 10 (.int (Int32.ofInt 0))) 35 11 (.int (Int32.ofInt 0))) 35 12 (.int (Int32.ofInt 0))) 35 13 (.int (Int32.ofInt 0))) 35 14 (.int (Int32.ofInt 0))) 35 15 (.int (Int32.ofInt (-1)))) 35 3 13 (.int (Int32.ofInt 0)) := cw_sf_ne f116 (Or.inr (by decide))
  have f130 : cw_F (cw_sf (cw_sf (cw_sf (cw_sf (cw_sf (cw_sf (cw_sf (cw_sf (cw_sf (cw_sf h 35 6 (.int (Int32.ofInt 0))) 35 7 (.int (Int32.ofInt 0))) 35 8 (.int (Int32.ofInt 0))) 35 9 (.int (Int32.ofInt 0))) 35 10 (.int (Int32.ofInt 0))) 35 11 (.int (Int32.ofInt 0))) 35 12 (.int (Int32.ofInt 0))) 35 13 (.int (Int32.ofInt 0))) 35 14 (.int (Int32.ofInt 0))) 35 15 (.int (Int32.ofInt (-1)))) 35 3 14 (.int (Int32.ofInt 0)) := cw_sf_ne f117 (Or.inr (by decide))
  have f131 : cw_F (cw_sf (cw_sf (cw_sf (cw_sf (cw_sf (cw_sf (cw_sf (cw_sf (cw_sf (cw_sf h 35 6 (.int (Int32.ofInt 0))) 35 7 (.int (Int32.ofInt 0))) 35 8 (.int (Int32.ofInt 0))) 35 9 (.int (Int32.ofInt 0))) 35 10 (.int (Int32.ofInt 0))) 35 11 (.int (Int32.ofInt 0))) 35 12 (.int (Int32.ofInt 0))) 35 13 (.int (Int32.ofInt 0))) 35 14 (.int (Int32.ofInt 0))) 35 15 (.int (Int32.ofInt (-1)))) 35 3 15 (.int (Int32.ofInt (-1))) := cw_sf_same f119
  refine cw_n aj_d32 rfl rfl ?_
  refine cw_n aj_d32 rfl rfl ?_
  refine cw_p (i := 35) (t := 55) (c := 3) (k := 5) (v := .int (Int32.ofInt 0)) (y := (.inl (0, 512))) htb aj_d32 rfl rfl hT118 (cw_s0 hB rfl) rfl rfl rfl (cw_gw (a := (0 : Int)) rfl (by omega) (by omega)) (by decide) rfl rfl (fun hT132 => ?_)
  obtain ⟨v133, f133, g133⟩ := cw_tyF (i := 35) (t := 55) (c := 3) (k := 5) (y := (.inl (0, 512))) hT118 (cw_s0 hB rfl) rfl rfl rfl
  obtain ⟨x133, rfl, b133⟩ := ak_gi g133
  dsimp only [ak_win] at b133
  have f134 : cw_F (cw_sf (cw_sf (cw_sf (cw_sf (cw_sf (cw_sf (cw_sf (cw_sf (cw_sf (cw_sf (cw_sf h 35 6 (.int (Int32.ofInt 0))) 35 7 (.int (Int32.ofInt 0))) 35 8 (.int (Int32.ofInt 0))) 35 9 (.int (Int32.ofInt 0))) 35 10 (.int (Int32.ofInt 0))) 35 11 (.int (Int32.ofInt 0))) 35 12 (.int (Int32.ofInt 0))) 35 13 (.int (Int32.ofInt 0))) 35 14 (.int (Int32.ofInt 0))) 35 15 (.int (Int32.ofInt (-1)))) 35 5 (.int (Int32.ofInt 0))) 30 4 5 (.int 0) := cw_sf_ne f120 (Or.inl (by decide))
  have f135 : cw_F (cw_sf (cw_sf (cw_sf (cw_sf (cw_sf (cw_sf (cw_sf (cw_sf (cw_sf (cw_sf (cw_sf h 35 6 (.int (Int32.ofInt 0))) 35 7 (.int (Int32.ofInt 0))) 35 8 (.int (Int32.ofInt 0))) 35 9 (.int (Int32.ofInt 0))) 35 10 (.int (Int32.ofInt 0))) 35 11 (.int (Int32.ofInt 0))) 35 12 (.int (Int32.ofInt 0))) 35 13 (.int (Int32.ofInt 0))) 35 14 (.int (Int32.ofInt 0))) 35 15 (.int (Int32.ofInt (-1)))) 35 5 (.int (Int32.ofInt 0))) 30 4 4 (.int 0) := cw_sf_ne f121 (Or.inr (by decide))
  have f136 : cw_F (cw_sf (cw_sf (cw_sf (cw_sf (cw_sf (cw_sf (cw_sf (cw_sf (cw_sf (cw_sf (cw_sf h 35 6 (.int (Int32.ofInt 0))) 35 7 (.int (Int32.ofInt 0))) 35 8 (.int (Int32.ofInt 0))) 35 9 (.int (Int32.ofInt 0))) 35 10 (.int (Int32.ofInt 0))) 35 11 (.int (Int32.ofInt 0))) 35 12 (.int (Int32.ofInt 0))) 35 13 (.int (Int32.ofInt 0))) 35 14 (.int (Int32.ofInt 0))) 35 15 (.int (Int32.ofInt (-1)))) 35 5 (.int (Int32.ofInt 0))) 35 3 6 (.int (Int32.ofInt 0)) := cw_sf_ne f122 (Or.inr (by decide))
  have f137 : cw_F (cw_sf (cw_sf (cw_sf (cw_sf (cw_sf (cw_sf (cw_sf (cw_sf (cw_sf (cw_sf (cw_sf h 35 6 (.int (Int32.ofInt 0))) 35 7 (.int (Int32.ofInt 0))) 35 8 (.int (Int32.ofInt 0))) 35 9 (.int (Int32.ofInt 0))) 35 10 (.int (Int32.ofInt 0))) 35 11 (.int (Int32.ofInt 0))) 35 12 (.int (Int32.ofInt 0))) 35 13 (.int (Int32.ofInt 0))) 35 14 (.int (Int32.ofInt 0))) 35 15 (.int (Int32.ofInt (-1)))) 35 5 (.int (Int32.ofInt 0))) 35 3 7 (.int (Int32.ofInt 0)) := cw_sf_ne f123 (Or.inr (by decide))
  have f138 : cw_F (cw_sf (cw_sf (cw_sf (cw_sf (cw_sf (cw_sf (cw_sf (cw_sf (cw_sf (cw_sf (cw_sf h 35 6 (.int (Int32.ofInt 0))) 35 7 (.int (Int32.ofInt 0))) 35 8 (.int (Int32.ofInt 0))) 35 9 (.int (Int32.ofInt 0))) 35 10 (.int (Int32.ofInt 0))) 35 11 (.int (Int32.ofInt 0))) 35 12 (.int (Int32.ofInt 0))) 35 13 (.int (Int32.ofInt 0))) 35 14 (.int (Int32.ofInt 0))) 35 15 (.int (Int32.ofInt (-1)))) 35 5 (.int (Int32.ofInt 0))) 35 3 8 (.int (Int32.ofInt 0)) := cw_sf_ne f124 (Or.inr (by decide))
  have f139 : cw_F (cw_sf (cw_sf (cw_sf (cw_sf (cw_sf (cw_sf (cw_sf (cw_sf (cw_sf (cw_sf (cw_sf h 35 6 (.int (Int32.ofInt 0))) 35 7 (.int (Int32.ofInt 0))) 35 8 (.int (Int32.ofInt 0))) 35 9 (.int (Int32.ofInt 0))) 35 10 (.int (Int32.ofInt 0))) 35 11 (.int (Int32.ofInt 0))) 35 12 (.int (Int32.ofInt 0))) 35 13 (.int (Int32.ofInt 0))) 35 14 (.int (Int32.ofInt 0))) 35 15 (.int (Int32.ofInt (-1)))) 35 5 (.int (Int32.ofInt 0))) 35 3 9 (.int (Int32.ofInt 0)) := cw_sf_ne f125 (Or.inr (by decide))
  have f140 : cw_F (cw_sf (cw_sf (cw_sf (cw_sf (cw_sf (cw_sf (cw_sf (cw_sf (cw_sf (cw_sf (cw_sf h 35 6 (.int (Int32.ofInt 0))) 35 7 (.int (Int32.ofInt 0))) 35 8 (.int (Int32.ofInt 0))) 35 9 (.int (Int32.ofInt 0))) 35 10 (.int (Int32.ofInt 0))) 35 11 (.int (Int32.ofInt 0))) 35 12 (.int (Int32.ofInt 0))) 35 13 (.int (Int32.ofInt 0))) 35 14 (.int (Int32.ofInt 0))) 35 15 (.int (Int32.ofInt (-1)))) 35 5 (.int (Int32.ofInt 0))) 35 3 10 (.int (Int32.ofInt 0)) := cw_sf_ne f126 (Or.inr (by decide))
  have f141 : cw_F (cw_sf (cw_sf (cw_sf (cw_sf (cw_sf (cw_sf (cw_sf (cw_sf (cw_sf (cw_sf (cw_sf h 35 6 (.int (Int32.ofInt 0))) 35 7 (.int (Int32.ofInt 0))) 35 8 (.int (Int32.ofInt 0))) 35 9 (.int (Int32.ofInt 0))) 35 10 (.int (Int32.ofInt 0))) 35 11 (.int (Int32.ofInt 0))) 35 12 (.int (Int32.ofInt 0))) 35 13 (.int (Int32.ofInt 0))) 35 14 (.int (Int32.ofInt 0))) 35 15 (.int (Int32.ofInt (-1)))) 35 5 (.int (Int32.ofInt 0))) 35 3 11 (.int (Int32.ofInt 0)) := cw_sf_ne f127 (Or.inr (by decide))
  have f142 : cw_F (cw_sf (cw_sf (cw_sf (cw_sf (cw_sf (cw_sf (cw_sf (cw_sf (cw_sf (cw_sf (cw_sf h 35 6 (.int (Int32.ofInt 0))) 35 7 (.int (Int32.ofInt 0))) 35 8 (.int (Int32.ofInt 0))) 35 9 (.int (Int32.ofInt 0))) 35 10 (.int (Int32.ofInt 0))) 35 11 (.int (Int32.ofInt 0))) 35 12 (.int (Int32.ofInt 0))) 35 13 (.int (Int32.ofInt 0))) 35 14 (.int (Int32.ofInt 0))) 35 15 (.int (Int32.ofInt (-1)))) 35 5 (.int (Int32.ofInt 0))) 35 3 12 (.int (Int32.ofInt 0)) := cw_sf_ne f128 (Or.inr (by decide))
  have f143 : cw_F (cw_sf (cw_sf (cw_sf (cw_sf (cw_sf (cw_sf (cw_sf (cw_sf (cw_sf (cw_sf (cw_sf h 35 6 (.int (Int32.ofInt 0))) 35 7 (.int (Int32.ofInt 0))) 35 8 (.int (Int32.ofInt 0))) 35 9 (.int (Int32.ofInt 0))) 35 10 (.int (Int32.ofInt 0))) 35 11 (.int (Int32.ofInt 0))) 35 12 (.int (Int32.ofInt 0))) 35 13 (.int (Int32.ofInt 0))) 35 14 (.int (Int32.ofInt 0))) 35 15 (.int (Int32.ofInt (-1)))) 35 5 (.int (Int32.ofInt 0))) 35 3 13 (.int (Int32.ofInt 0)) := cw_sf_ne f129 (Or.inr (by decide))
  have f144 : cw_F (cw_sf (cw_sf (cw_sf (cw_sf (cw_sf (cw_sf (cw_sf (cw_sf (cw_sf (cw_sf (cw_sf h 35 6 (.int (Int32.ofInt 0))) 35 7 (.int (Int32.ofInt 0))) 35 8 (.int (Int32.ofInt 0))) 35 9 (.int (Int32.ofInt 0))) 35 10 (.int (Int32.ofInt 0))) 35 11 (.int (Int32.ofInt 0))) 35 12 (.int (Int32.ofInt 0))) 35 13 (.int (Int32.ofInt 0))) 35 14 (.int (Int32.ofInt 0))) 35 15 (.int (Int32.ofInt (-1)))) 35 5 (.int (Int32.ofInt 0))) 35 3 14 (.int (Int32.ofInt 0)) := cw_sf_ne f130 (Or.inr (by decide))
  have f145 : cw_F (cw_sf (cw_sf (cw_sf (cw_sf (cw_sf (cw_sf (cw_sf (cw_sf (cw_sf (cw_sf (cw_sf h 35 6 (.int (Int32.ofInt 0))) 35 7 (.int (Int32.ofInt 0))) 35 8 (.int (Int32.ofInt 0))) 35 9 (.int (Int32.ofInt 0))) 35 10 (.int (Int32.ofInt 0))) 35 11 (.int (Int32.ofInt 0))) 35 12 (.int (Int32.ofInt 0))) 35 13 (.int (Int32.ofInt 0))) 35 14 (.int (Int32.ofInt 0))) 35 15 (.int (Int32.ofInt (-1)))) 35 5 (.int (Int32.ofInt 0))) 35 3 15 (.int (Int32.ofInt (-1))) := cw_sf_ne f131 (Or.inr (by decide))
  have f146 : cw_F (cw_sf (cw_sf (cw_sf (cw_sf (cw_sf (cw_sf (cw_sf (cw_sf (cw_sf (cw_sf (cw_sf h 35 6 (.int (Int32.ofInt 0))) 35 7 (.int (Int32.ofInt 0))) 35 8 (.int (Int32.ofInt 0))) 35 9 (.int (Int32.ofInt 0))) 35 10 (.int (Int32.ofInt 0))) 35 11 (.int (Int32.ofInt 0))) 35 12 (.int (Int32.ofInt 0))) 35 13 (.int (Int32.ofInt 0))) 35 14 (.int (Int32.ofInt 0))) 35 15 (.int (Int32.ofInt (-1)))) 35 5 (.int (Int32.ofInt 0))) 35 3 5 (.int (Int32.ofInt 0)) := cw_sf_same f133
  refine cw_n aj_d32 rfl rfl ?_
  refine cw_n aj_d32 rfl rfl ?_
  obtain ⟨n147, z147, a147, p147l, p147r, p147⟩ := cw_tyA (i := 36) (t := 83) (kd := 0) (n1 := 512) (n2 := 512) (y := (.inl ((-2147483648), 2147483647))) hT132 (cw_s0 hB rfl) rfl
  obtain rfl : n147 = 512 := Nat.le_antisymm p147r p147l
  obtain ⟨fn147, rfl, p147c⟩ := cw_xi p147
  obtain ⟨n148, z148, a148, p148l, p148r, p148⟩ := cw_tyA (i := 31) (t := 79) (kd := 0) (n1 := 2500) (n2 := 2500) (y := (.inl ((-2147483648), 2147483647))) hT132 (cw_s0 hB rfl) rfl
  obtain rfl : n148 = 2500 := Nat.le_antisymm p148r p148l
  obtain ⟨fn148, rfl, p148c⟩ := cw_xi p148
  have hP0 : cw_PV (cw_sf (cw_sf (cw_sf (cw_sf (cw_sf (cw_sf (cw_sf (cw_sf (cw_sf (cw_sf (cw_sf h 35 6 (.int (Int32.ofInt 0))) 35 7 (.int (Int32.ofInt 0))) 35 8 (.int (Int32.ofInt 0))) 35 9 (.int (Int32.ofInt 0))) 35 10 (.int (Int32.ofInt 0))) 35 11 (.int (Int32.ofInt 0))) 35 12 (.int (Int32.ofInt 0))) 35 13 (.int (Int32.ofInt 0))) 35 14 (.int (Int32.ofInt 0))) 35 15 (.int (Int32.ofInt (-1)))) 35 5 (.int (Int32.ofInt 0))) [] _ _ _ _ := ⟨⟨_, _, f146, rfl, a147, fun j hj => absurd hj (Nat.not_lt_zero _)⟩, f136, f144, f135, f134, a148⟩
  refine cw_k0 (i := 35) (t := 55) (con' := cw_nP 33 none) aj_d32 htb hT132 rfl rfl [_] rfl rfl (cw_s0 hB rfl) rfl (Nat.le_of_ble_eq_true rfl) ⟨by decide, by decide⟩ (cw_push htb hT132 hB (by omega) (x := (Int32.ofInt 1)) ⟨by decide, by decide⟩ hP0 (by decide)) ?_
  rintro ra ha hTa ⟨exa, hPa⟩ hRa
  obtain rfl := cw_rN hRa
  show cw_W _ _ _ _ _ _ _ _ _ _ 60 [(0, .ref (52 + 35)), (1, .int x1)] []
  refine cw_n aj_d32 rfl rfl ?_
  refine cw_n aj_d32 rfl rfl ?_
  refine cw_k0 (i := 35) (t := 55) (con' := cw_nP 33 none) aj_d32 htb hTa rfl rfl [_] rfl rfl (cw_s0 hB rfl) rfl (Nat.le_of_ble_eq_true rfl) ⟨by decide, by decide⟩ (cw_push htb hTa hB (by omega) (x := x1) hx hPa (by decide)) ?_
  rintro rb hb hTb ⟨exb, hPb⟩ hRb
  obtain rfl := cw_rN hRb
  show cw_W _ _ _ _ _ _ _ _ _ _ 65 [(0, .ref (52 + 35)), (1, .int x1)] []
  refine cw_n aj_d32 rfl rfl ?_
  refine cw_n aj_d32 rfl rfl ?_
  show cw_W _ _ _ _ _ _ _ _ _ _ 67 [(2, .int (Int32.ofInt 0)), (0, .ref (52 + 35)), (1, .int x1)] []
  obtain ⟨lv, elv⟩ : ∃ l : aj_V, l = [(2, .int (Int32.ofInt 0)), (0, .ref (52 + 35)), (1, .int x1)] := ⟨_, rfl⟩
  rw [← elv]
  have e0 : (0 : Int32).toInt = 0 := rfl
  have e1 : (Int32.ofInt 0).toInt = 0 := rfl
  refine cw_Wmono (fun _ _ _ q => q) (cw_parse_l htb htG hB (by omega) 1000000 (x2 := Int32.ofInt 0) hTb (cw_ex_tr (cw_ex_tr (cw_ex_tr (cw_ex_tr (cw_ex_tr (cw_ex_tr (cw_ex_tr (cw_ex_tr (cw_ex_tr (cw_ex_tr (cw_ex_tr (cw_ex_tr (cw_ex_tr cw_ex_rf (cw_ex_sf (by decide))) (cw_ex_sf (by decide))) (cw_ex_of (cw_o_sf f49 (by decide)))) (cw_ex_of (cw_o_sf f56 (by decide)))) (cw_ex_of (cw_o_sf f64 (by decide)))) (cw_ex_of (cw_o_sf f73 (by decide)))) (cw_ex_of (cw_o_sf f83 (by decide)))) (cw_ex_of (cw_o_sf f94 (by decide)))) (cw_ex_of (cw_o_sf f106 (by decide)))) (cw_ex_of (cw_o_sf f119 (by decide)))) (cw_ex_sf (by decide))) exa) exb) (Or.inr ⟨[x1.toInt.toNat, (Int32.ofInt 1).toInt.toNat], Int32.ofInt 0, Int32.ofInt 0, _, _, 0, hPb, by decide, by decide, fun _ => by decide, by decide, by decide, by decide, by decide, rfl, ?_⟩) (by rw [elv]; rfl) (by rw [elv]; rfl) (by decide) (by decide))
  rcases hx2 with q | q
  · have : x1.toInt.toNat = 130 := by omega
    rw [this]
    refine (cw_sr_part (by decide) (by decide)).mpr ⟨⟨by decide, fun z => by cases z⟩, by decide, by decide, ?_⟩
    exact (cw_sr_tok (by decide)).mpr ⟨⟨by decide, fun _ => rfl⟩, trivial⟩
  · have : x1.toInt.toNat = 138 := by omega
    rw [this]
    refine (cw_sr_part (by decide) (by decide)).mpr ⟨⟨by decide, fun z => by cases z⟩, by decide, by decide, ?_⟩
    exact (cw_sr_tok (by decide)).mpr ⟨⟨by decide, fun _ => rfl⟩, trivial⟩
end CW68
