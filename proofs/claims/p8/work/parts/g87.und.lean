/-! UNDERSTAND, BY HAND (printed by wip/p2/cwalk/g87.py) -/
abbrev cw_nU (m : Nat) (r : Option ak_A) : ak_Con := (m, [], r, ap_c20a.2.2.2.1, [], [], [], 0, 0, [], [], [])
section CW87
variable {Φ : List Nat → Option Value → aj_H → Prop} {tb : aj_T} {con : ak_Con} {d : Nat} {s s' s2 s0 : List Nat} {h h' h2 h0 h1 : aj_H} {i j p q x c k l l' a : Nat} {b b' b2 : Int} {o o' o2 o0 : cw_O} {E : List Nat} {n nt n0 iv y y' v t wd x1 : Int32} {w : Value} {f g g0 : Nat → Int32} {B N : Prop} {bb : Int}
theorem cw_s98 : ak_s0.length = 98 := by decide +kernel
theorem cw_cell (hB : cw_B s) (hs : s[a]? = some c) (hc : c ∉ [58, 94, 95, 96, 98]) : a < 98 ∧ ak_s0[a]? = some c := by
  obtain ⟨u, rfl, hu⟩ := hB
  by_cases hl : a < ak_s0.length
  · rw [List.getElem?_append_left hl] at hs
    exact ⟨by rw [← cw_s98]; exact hl, hs⟩
  · rw [List.getElem?_append_right (by omega)] at hs
    exact absurd (hu _ (List.mem_of_getElem? hs)) hc
theorem cw_cell72 (hB : cw_B s) (hs : s[a]? = some 72) : a = 10 ∨ a = 22 := by
  obtain ⟨h1, h2⟩ := cw_cell hB hs (by decide)
  have h72 : ∀ a, a < 98 → ak_s0[a]? = some 72 → a = 10 ∨ a = 22 := by decide +kernel
  exact h72 a h1 h2
theorem cw_cell59 (hB : cw_B s) (hs : s[a]? = some 59) : a = 2 ∨ a = 14 := by
  obtain ⟨h1, h2⟩ := cw_cell hB hs (by decide)
  have h72 : ∀ a, a < 98 → ak_s0[a]? = some 59 → a = 2 ∨ a = 14 := by decide +kernel
  exact h72 a h1 h2
/-- any shelf's tables -/
theorem cw_Z_ty (hT : ak_Ty ak_C0 s h) (hB : cw_B s) (qx : s[x]? = some 59) : ∃ nt, cw_Z True x nt 20000000 (cw_o h) := by
  obtain ⟨v1, f1, g1⟩ := cw_tyF (i := x) (t := 59) (c := 7) (k := 12) (y := .inl (0, 10)) hT qx rfl rfl rfl
  obtain ⟨nt, rfl, b1⟩ := ak_gi g1
  dsimp only [ak_win] at b1
  obtain ⟨v2, f2, g2⟩ := cw_tyF (i := x) (t := 59) (c := 7) (k := 7) (y := .inr (some ([72], false))) hT qx rfl rfl rfl
  obtain ⟨a, rfl, qa⟩ := cw_gr g2 (by decide)
  obtain ⟨n1, z1, a1, m1, m2, p1⟩ := cw_tyA (i := a) (t := 72) (kd := 5) (n1 := 10) (n2 := 10) (y := .inr (some ([58], true))) hT qa rfl
  obtain rfl : n1 = 10 := Nat.le_antisymm m2 m1
  obtain ⟨f3, rfl, -⟩ := cw_xq p1
  have ha := cw_cell72 hB qa
  refine ⟨nt, a, f3, ⟨ha, by decide⟩, (cw_fo_F (by decide)).mpr f1, (cw_fo_F (by decide)).mpr f2, ?_, fun t ht => ?_⟩
  · rcases ha with rfl | rfl
    · exact (cw_oa_A (by decide)).mpr a1
    · exact (cw_oa_A (by decide)).mpr a1
  · cases hf : f3 t with
    | none => exact Or.inl ⟨trivial, rfl⟩
    | some r =>
      obtain ⟨i, rfl, qi⟩ := cw_refs (T := ak_C0) (t := 72) (n1 := 10) (n2 := 10) hT qa rfl a1 (l := t) (by omega) hf
      obtain ⟨v4, f4, g4⟩ := cw_tyF (i := i) (t := 58) (c := 6) (k := 4) (y := .inl (0, 20000000)) hT qi rfl rfl rfl
      obtain ⟨x4, rfl, b4⟩ := ak_gi g4
      obtain ⟨v5, f5, g5⟩ := cw_tyF (i := i) (t := 58) (c := 6) (k := 3) (y := .inl (0, 20000000)) hT qi rfl rfl rfl
      obtain ⟨x5, rfl, b5⟩ := ak_gi g5
      exact Or.inr ⟨i, rfl, cw_ok_F f4 f5 b4.2 b5.2⟩
/-- what changes other cells keeps shelves and rows -/
theorem cw_ex_kp (hT : ak_Ty ak_C0 s h) (hB : cw_B s) (he : cw_ex E (cw_o h) o') (hE : (E.all fun i => match ak_s0[i]? with | some t => !cw_isC 6 t && !cw_isC 7 t | none => false) = true) : cw_kp (fun _ c _ => c ≠ 6 ∧ c ≠ 7) (fun a => a ∈ E) (cw_o h) o' := by
  refine ⟨fun i c k v hc z => ?_, fun i q hi z => by rw [(he i hi).2]; exact z⟩
  by_cases hi : i ∈ E
  · exfalso
    have h2 := List.all_eq_true.mp hE i hi
    obtain ⟨-, ⟨fs, e1, -⟩⟩ := cw_fo_sp z
    cases e : ak_s0[i]? with
    | none =>
      rw [e] at h2
      cases h2
    | some t =>
      rw [e] at h2
      have h2 : (!cw_isC 6 t && !cw_isC 7 t) = true := h2
      obtain ⟨-, e', e2, hk⟩ := hT.2 i t (cw_s0 hB e)
      rw [e1] at e2
      cases e2
      unfold ak_cOK at hk
      cases hq : ak_ti[t]? with
      | none =>
        have hq : ak_C0.1[t]? = none := hq
        rw [hq] at hk
        exact hk
      | some w =>
        have hq' : ak_C0.1[t]? = some w := hq
        rw [hq'] at hk
        cases w with
        | inl c' =>
          obtain ⟨fs', e3, -⟩ := hk
          cases e3
          have := cw_isC_of hq
          rw [Bool.and_eq_true, Bool.not_eq_true', Bool.not_eq_true'] at h2
          by_cases c6 : c = 6
          · subst c6
            rw [h2.1] at this
            cases this
          · by_cases c7 : c = 7
            · subst c7
              rw [h2.2] at this
              cases this
            · exact hc ⟨c6, c7⟩
        | inr w =>
          obtain ⟨n, x, e3, -⟩ := hk
          cases e3
  · obtain ⟨g, z1, z2⟩ := z
    exact ⟨g, by rw [(he i hi).1]; exact z1, z2⟩
theorem cw_Z_ex {bb : Int} (hT : ak_Ty ak_C0 s h) (hB : cw_B s) (he : cw_ex E (cw_o h) o') (hE : (E.all fun i => match ak_s0[i]? with | some t => !cw_isC 6 t && !cw_isC 7 t | none => false) = true) (h10 : 10 ∉ E ∧ 22 ∉ E) (hZ : cw_Z N x nt bb (cw_o h)) : cw_Z N x nt bb o' := by
  have k5 := cw_ex_kp hT hB he hE
  exact cw_Z_kp k5 (fun z => z.2 rfl) (fun z => z.2 rfl) (fun a ha z => by
    rcases ha with rfl | rfl
    · exact h10.1 z
    · exact h10.2 z) (cw_sy_n k5 (fun _ _ z => z.1 rfl)) hZ
/-- what is understood -/
def cw_PU (N : Prop) (bb : Int) (x : Nat) (s : List Nat) (h : aj_H) : Prop := cw_I cw_XB s h ∧ (cw_bado (cw_o h) ∨ ∃ (n : Int32) (f : Nat → Int32) (y nt : Int32) (g : Nat → Int32), cw_CQ N bb x n f 0 g nt False y nt g s h ∧ cw_LD n.toInt nt f g (cw_o h) ∧ n.toInt ≤ 2500)
/-- read, parsed and checked -/
theorem cw_und (htb : ak_tbOK ak_C0 tb) (htG : cw_tbG tb) (hT : ak_Ty ak_C0 s h) (hI : cw_I cw_XB s h) (hd : 7 ≤ d) (hx : x = 2 ∨ x = 14) (qx : s[x]? = some 59) (hx1 : x1.toInt = 130 ∨ x1.toInt = 138) (hZ : cw_Z N x nt bb (cw_o h)) : cw_K ak_C0 (fun s' _ h' => cw_PU N bb x s' h') tb d (cw_nU 20 none) [.ref (52 + 0), .int x1, .ref (52 + x)] s h := by
  obtain ⟨d, rfl⟩ : ∃ e, d = e + 1 := ⟨d - 1, by omega⟩
  have hB := hI.1
  refine cw_m (con := cw_nU 20 none) aj_m20_at (Nat.le_of_ble_eq_true rfl) ?_
  show cw_W _ _ _ _ _ _ _ _ _ _ 0 [(0, .ref (52 + 0)), (1, .int x1), (2, .ref (52 + x))] []
  refine cw_n aj_d20 rfl rfl ?_
  obtain ⟨v1001, f1001, g1001⟩ := cw_tyF (i := 0) (t := 62) (c := 10) (k := 5) (y := (.inr (some ([60], false)))) hT (cw_s0 hB rfl) rfl rfl rfl
  obtain rfl := cw_gu (i := 26) hB g1001 (by decide) (by decide) (by decide)
  refine cw_g (i := 0) (v := .ref (52 + 26)) htb.1 aj_d20 rfl rfl (by decide) f1001 ?_
  refine cw_n aj_d20 rfl rfl ?_
  obtain ⟨v1002, f1002, g1002⟩ := cw_tyF (i := 0) (t := 62) (c := 10) (k := 0) (y := (.inr (some ([64], false)))) hT (cw_s0 hB rfl) rfl rfl rfl
  obtain rfl := cw_gu (i := 1) hB g1002 (by decide) (by decide) (by decide)
  refine cw_g (i := 0) (v := .ref (52 + 1)) htb.1 aj_d20 rfl rfl (by decide) f1002 ?_
  refine cw_n aj_d20 rfl rfl ?_
  obtain ⟨v1003, f1003, g1003⟩ := cw_tyF (i := 0) (t := 62) (c := 10) (k := 1) (y := (.inl (0, 4000))) hT (cw_s0 hB rfl) rfl rfl rfl
  obtain ⟨x1003, rfl, b1003⟩ := ak_gi g1003
  dsimp only [ak_win] at b1003
  refine cw_g (i := 0) (v := .int x1003) htb.1 aj_d20 rfl rfl (by decide) f1003 ?_
  refine cw_k0 (i := 26) (t := 60) (con' := cw_n21) aj_d20 htb hT rfl rfl [_, _] rfl rfl (cw_s0 hB rfl) rfl (Nat.le_of_ble_eq_true rfl) ⟨by decide, by decide⟩ (cw_scan htb hT hB (by omega) hI.2.1 (by omega)) ?_
  rintro r1 h1 hT1 ⟨k1, w1⟩ hR1
  obtain rfl := cw_rN hR1
  have I1 : cw_I cw_XB s h1 := ⟨hB, w1, cw_dis_ex k1 (by decide) hI.2.2.1, cw_gd_ex k1 (by decide) hI.2.2.2.1, cw_HR_ex k1 (by decide) (by decide) hI.2.2.2.2⟩
  have Z1 := cw_Z_ex hT hB k1 (by decide) ⟨by decide, by decide⟩ hZ
  show cw_W _ _ _ _ _ _ _ _ _ _ 15 [(0, .ref (52 + 0)), (1, .int x1), (2, .ref (52 + x))] []
  refine cw_n aj_d20 rfl rfl ?_
  refine cw_n aj_d20 rfl rfl ?_
  refine cw_p (i := 0) (t := 62) (c := 10) (k := 1) (v := .int (Int32.ofInt 0)) (y := (.inl (0, 4000))) htb aj_d20 rfl rfl hT1 (cw_s0 hB rfl) rfl rfl rfl (cw_gw (a := (0 : Int)) rfl (by omega) (by omega)) (by decide) rfl rfl (fun hT1004 => ?_)
  obtain ⟨v1005, f1005, g1005⟩ := cw_tyF (i := 0) (t := 62) (c := 10) (k := 1) (y := (.inl (0, 4000))) hT1 (cw_s0 hB rfl) rfl rfl rfl
  obtain ⟨x1005, rfl, b1005⟩ := ak_gi g1005
  dsimp only [ak_win] at b1005
  have f1006 : cw_F (cw_sf h1 0 1 (.int (Int32.ofInt 0))) 0 10 1 (.int (Int32.ofInt 0)) := cw_sf_same f1005
  refine cw_n aj_d20 rfl rfl ?_
  obtain ⟨v1007, f1007, g1007⟩ := cw_tyF (i := 0) (t := 62) (c := 10) (k := 6) (y := (.inr (some ([56], false)))) hT1004 (cw_s0 hB rfl) rfl rfl rfl
  obtain rfl := cw_gu (i := 30) hB g1007 (by decide) (by decide) (by decide)
  refine cw_g (i := 0) (v := .ref (52 + 30)) htb.1 aj_d20 rfl rfl (by decide) f1007 ?_
  obtain ⟨v1008, f1008, g1008⟩ := cw_tyF (i := 30) (t := 56) (c := 4) (k := 4) (y := (.inl (0, 2500))) hT1004 (cw_s0 hB rfl) rfl rfl rfl
  obtain ⟨x1008, rfl, b1008⟩ := ak_gi g1008
  dsimp only [ak_win] at b1008
  obtain ⟨v1009, f1009, g1009⟩ := cw_tyF (i := 30) (t := 56) (c := 4) (k := 5) (y := (.inl ((-2147483648), 2147483647))) hT1004 (cw_s0 hB rfl) rfl rfl rfl
  obtain ⟨x1009, rfl, b1009⟩ := ak_gi g1009
  dsimp only [ak_win] at b1009
  refine cw_k0 (i := 30) (t := 56) (con' := ap_c31) aj_d20 htb hT1004 rfl rfl [] rfl rfl (cw_s0 hB rfl) rfl (Nat.le_of_ble_eq_true rfl) ⟨by decide, by decide⟩ (cw_empty htb hT1004 hB (by omega)) ?_
  rintro r3 h3 hT3 ⟨rfl, e3⟩ hR3
  have k3 : cw_ex [30] (cw_o (cw_sf h1 0 1 (.int (Int32.ofInt 0)))) (cw_o h3) := by
    rw [e3]
    exact cw_ex_tr (cw_ex_tr (cw_ex_sf (by decide)) (cw_ex_sf (by decide))) (cw_ex_sf (by decide))
  have I2 : cw_I cw_XB s (cw_sf h1 0 1 (.int (Int32.ofInt 0))) := cw_I_eq ((cw_o_sf f1005 (by decide)).trans rfl) I1
  have Z2 : cw_Z N x nt bb (cw_o (cw_sf h1 0 1 (.int (Int32.ofInt 0)))) := cw_Z_eq ((cw_o_sf f1005 (by decide)).trans rfl) Z1
  have Z3 := cw_Z_ex hT1004 hB k3 (by decide) ⟨by decide, by decide⟩ Z2
  have p5 : cw_F h3 30 4 5 (.int 0) := by
    rw [e3]
    exact cw_sf_ne (cw_sf_same (cw_sf_ne f1009 (Or.inr (by decide)))) (Or.inr (by decide))
  have p4 : cw_F h3 30 4 4 (.int 0) := by
    rw [e3]
    exact cw_sf_ne (cw_sf_ne (cw_sf_same f1008) (Or.inr (by decide))) (Or.inr (by decide))
  show cw_W _ _ _ _ _ _ _ _ _ _ 27 [(0, .ref (52 + 0)), (1, .int x1), (2, .ref (52 + x))] []
  refine cw_n aj_d20 rfl rfl ?_
  obtain ⟨v1010, f1010, g1010⟩ := cw_tyF (i := 0) (t := 62) (c := 10) (k := 7) (y := (.inr (some ([55], false)))) hT3 (cw_s0 hB rfl) rfl rfl rfl
  obtain rfl := cw_gu (i := 35) hB g1010 (by decide) (by decide) (by decide)
  refine cw_g (i := 0) (v := .ref (52 + 35)) htb.1 aj_d20 rfl rfl (by decide) f1010 ?_
  refine cw_n aj_d20 rfl rfl ?_
  refine cw_k0 (i := 35) (t := 55) (con' := cw_nP 32 none) aj_d20 htb hT3 rfl rfl [_] rfl rfl (cw_s0 hB rfl) rfl (Nat.le_of_ble_eq_true rfl) ⟨by decide, by decide⟩ (cw_parse htb htG hT3 hB (by omega) hx1 p5 p4) ?_
  rintro r4 h4 hT4 ⟨e4, g4⟩ hR4
  obtain rfl := cw_rN hR4
  have I4 : cw_I cw_XB s h4 := ⟨hB, cw_wds_ex e4 (by decide) (cw_wds_ex k3 (by decide) I2.2.1), cw_dis_ex e4 (by decide) (cw_dis_ex k3 (by decide) I2.2.2.1), g4, cw_HR_ex e4 (by decide) (by decide) (cw_HR_ex k3 (by decide) (by decide) I2.2.2.2.2)⟩
  have Z4 := cw_Z_ex hT3 hB e4 (by decide) ⟨by decide, by decide⟩ Z3
  show cw_W _ _ _ _ _ _ _ _ _ _ 35 [(0, .ref (52 + 0)), (1, .int x1), (2, .ref (52 + x))] []
  refine cw_n aj_d20 rfl rfl ?_
  obtain ⟨v1011, f1011, g1011⟩ := cw_tyF (i := 0) (t := 62) (c := 10) (k := 6) (y := (.inr (some ([56], false)))) hT4 (cw_s0 hB rfl) rfl rfl rfl
  obtain rfl := cw_gu (i := 30) hB g1011 (by decide) (by decide) (by decide)
  refine cw_g (i := 0) (v := .ref (52 + 30)) htb.1 aj_d20 rfl rfl (by decide) f1011 ?_
  obtain ⟨v1012, f1012, g1012⟩ := cw_tyF (i := 30) (t := 56) (c := 4) (k := 5) (y := (.inl ((-2147483648), 2147483647))) hT4 (cw_s0 hB rfl) rfl rfl rfl
  obtain ⟨x1012, rfl, b1012⟩ := ak_gi g1012
  dsimp only [ak_win] at b1012
  refine cw_g (i := 30) (v := .int x1012) htb.1 aj_d20 rfl rfl (by decide) f1012 ?_
  refine cw_z (tgt := 53) aj_d20 rfl rfl (fun q1013 => ?_) (fun q1013 => ?_)
  · have q1013 : x1012.toInt ≠ (0 : Int) := aw_t_ne (a := x1012.toInt) (b := (0 : Int)) rfl rfl q1013
    refine cw_Wr aj_d20 rfl rfl hT4 ?_ ?_
    · exact ⟨I4, Or.inl ⟨x1012, by omega, (cw_fo_F (by decide)).mpr f1012⟩⟩
    · trivial
  · have q1013 : x1012.toInt = (0 : Int) := aw_t_ne (a := x1012.toInt) (b := (0 : Int)) rfl rfl q1013
    refine cw_n aj_d20 rfl rfl ?_
    obtain ⟨v1014, f1014, g1014⟩ := cw_tyF (i := 0) (t := 62) (c := 10) (k := 8) (y := (.inr (some ([52], false)))) hT4 (cw_s0 hB rfl) rfl rfl rfl
    obtain rfl := cw_gu (i := 39) hB g1014 (by decide) (by decide) (by decide)
    refine cw_g (i := 0) (v := .ref (52 + 39)) htb.1 aj_d20 rfl rfl (by decide) f1014 ?_
    refine cw_n aj_d20 rfl rfl ?_
    obtain ⟨v1015, f1015, g1015⟩ := cw_tyF (i := 30) (t := 56) (c := 4) (k := 4) (y := (.inl (0, 2500))) hT4 (cw_s0 hB rfl) rfl rfl rfl
    obtain ⟨x1015, rfl, b1015⟩ := ak_gi g1015
    dsimp only [ak_win] at b1015
    obtain ⟨n1016, z1016, a1016, p1016l, p1016r, p1016⟩ := cw_tyA (i := 31) (t := 79) (kd := 0) (n1 := 2500) (n2 := 2500) (y := (.inl ((-2147483648), 2147483647))) hT4 (cw_s0 hB rfl) rfl
    obtain rfl : n1016 = 2500 := Nat.le_antisymm p1016r p1016l
    obtain ⟨fn1016, rfl, p1016c⟩ := cw_xi p1016
    obtain ⟨n1017, z1017, a1017, p1017l, p1017r, p1017⟩ := cw_tyA (i := 34) (t := 82) (kd := 0) (n1 := 2500) (n2 := 2500) (y := (.inl ((-2147483648), 2147483647))) hT4 (cw_s0 hB rfl) rfl
    obtain rfl : n1017 = 2500 := Nat.le_antisymm p1017r p1017l
    obtain ⟨fn1017, rfl, p1017c⟩ := cw_xi p1017
    refine cw_k (i := 39) (con' := cw_nC 56 none) aj_d20 htb hT4 rfl rfl [_] rfl rfl (cw_cls hT4 (cw_s0 hB rfl) rfl) (Nat.le_of_ble_eq_true rfl) ⟨by decide, by decide⟩ (cw_check htb hT4 I4 (by omega) hx qx (by omega) a1016 a1017 f1015 Z4) ?_
    rintro u ru hu hTu ⟨y', nt', g', Q', L'⟩ hRu -
    obtain rfl := cw_rN hRu
    show cw_W _ _ _ _ _ _ _ _ _ _ 53 [(0, .ref (52 + 0)), (1, .int x1), (2, .ref (52 + x))] []
    refine cw_Wr aj_d20 rfl rfl hTu ?_ ?_
    · exact ⟨Q'.1, Or.inr ⟨_, _, _, _, _, Q', L', by omega⟩⟩
    · trivial
end CW87
