/-! THE WORKER'S STACK, BY HAND (printed by wip/p2/cwalk/g73.py) -/
section CW73
variable {T : ak_TT} {Φ : List Nat → Option Value → aj_H → Prop} {tb : aj_T} {mm : aj_M} {con : ak_Con} {s : List Nat} {h h' h0 : aj_H} {d : Nat} {i j p q k c t : Nat} {b b' b2 : Int} {o o' o2 : cw_O} {v w : Int32}
theorem cw_sk_A {l r : Nat} (h0 : cw_sk (cw_o h) l r) : ∃ f3 : Nat → Option Nat, cw_A h 49 5 20 (cw_q f3) ∧ f3 l = some r := by
  obtain ⟨f, h1, h2⟩ := h0
  exact ⟨f, (cw_oa_A (by decide)).mp h1, h2⟩
theorem cw_sk_of {f : Nat → Option Nat} {l r : Nat} (hA : cw_A h 49 5 20 (cw_q f)) (hf : f l = some r) : cw_sk (cw_o h) l r := ⟨f, (cw_oa_A (by decide)).mpr hA, hf⟩
theorem cw_cnt_ov {f : Nat → Option Nat} {t r r' : Nat} (hf : f t = some r') : ∀ n, cw_cnt (va_up f t (some r)) n = cw_cnt f n := by
  intro n
  induction n with
  | zero => rfl
  | succ n ih =>
    rw [cw_cnt_s, cw_cnt_s, ih]
    unfold va_up
    by_cases e : n = t
    · subst e
      simp [hf]
    · rw [if_neg e]
/-- scratch and a row of the stack, changed for each other -/
theorem cw_I_scr {X : Option Nat} (hT : ak_Ty ak_CW s h) (hI : cw_I X s h) {f : Nat → Option Nat} {l : Nat} (hl : l < 20) (hA : cw_A h 49 5 20 (cw_q f)) (hf : f l = some (52 + i)) (hp : cw_F h 43 9 5 (.ref (52 + p))) : cw_I X s (cw_sf (cw_sa h 49 (cw_q (va_up f l (some (52 + p))))) 43 5 (.ref (52 + i))) ∧ cw_kp (fun a c k => a = 43 ∧ c = 9 ∧ k = 5) (fun a => a = 49) (cw_o h) (cw_o (cw_sf (cw_sa h 49 (cw_q (va_up f l (some (52 + p))))) 43 5 (.ref (52 + i)))) := by
  have hp2 : cw_F (cw_sa h 49 (cw_q (va_up f l (some (52 + p))))) 43 9 5 (.ref (52 + p)) := cw_sa_F hp
  have kp : cw_kp (fun a c k => a = 43 ∧ c = 9 ∧ k = 5) (fun a => a = 49) (cw_o h) (cw_o (cw_sf (cw_sa h 49 (cw_q (va_up f l (some (52 + p))))) 43 5 (.ref (52 + i)))) := cw_kp_tr (cw_kp_sa hA rfl) (cw_kp_sf hp2 ⟨rfl, rfl, rfl⟩)
  refine ⟨?_, kp⟩
  obtain ⟨hB, hW, hD, hG, hH, hR⟩ := hI
  have hA3 : cw_A (cw_sf (cw_sa h 49 (cw_q (va_up f l (some (52 + p))))) 43 5 (.ref (52 + i))) 49 5 20 (cw_q (va_up f l (some (52 + p)))) := cw_sf_A (cw_sa_same hA)
  have hF3 : cw_F (cw_sf (cw_sa h 49 (cw_q (va_up f l (some (52 + p))))) 43 5 (.ref (52 + i))) 43 9 5 (.ref (52 + i)) := cw_sf_same hp2
  refine ⟨hB, cw_wds_kp kp (by decide) hW, ?_, cw_gd_kp (T := ak_CW) rfl rfl hT hB kp (by decide) ⟨by decide, by decide⟩ hG, cw_H_sfo (cw_H_sa hH hA) hp2 (by decide), ?_⟩
  · obtain ⟨g, p', d1, d2, d3, d4⟩ := hD
    obtain ⟨-, -, e1⟩ := cw_A_u ((cw_oa_A (by decide)).mp d1) hA
    cases e1
    have e2 : p' = 52 + p := Value.ref.inj (cw_F_u ((cw_fo_F (by decide)).mp d2) hp).2
    subst e2
    refine ⟨_, _, (cw_oa_A (by decide)).mpr hA3, (cw_fo_F (by decide)).mpr hF3, fun a a' r ha ha' q1 q2 => ?_, fun a r ha q1 => ?_⟩
    · unfold va_up at q1 q2
      split at q1
      · cases q1
        split at q2
        · rename_i z1 z2
          rw [z1, z2]
        · exact absurd rfl (d4 a' _ ha' q2)
      · split at q2
        · cases q2
          exact absurd rfl (d4 a _ ha q1)
        · exact d3 a a' r ha ha' q1 q2
    · unfold va_up at q1
      split at q1
      · cases q1
        exact fun z => d4 l _ hl hf z.symm
      · rename_i z1
        intro z
        rw [z] at q1
        exact z1 (d3 a l _ ha hl q1 hf)
  · obtain ⟨u, f1, f2, f3, a, b, g, xa, xb, r1, r2, r3, r4, r5, r6, r7, r8, r9, r10⟩ := hR
    have e : f3 = f := by
      have := r4.symm.trans ((cw_oa_A (by decide)).mpr hA)
      cases this
      rfl
    subst e
    exact ⟨u, f1, f2, _, a, b, g, xa, xb, r1, kp.2 _ _ (by decide) r2, kp.2 _ _ (by decide) r3, (cw_oa_A (by decide)).mpr hA3, kp.1 _ _ _ _ (by decide) r5, kp.1 _ _ _ _ (by decide) r6, r7, ⟨kp.2 _ _ (by omega) r8.1, kp.2 _ _ (by omega) r8.2⟩, by rw [cw_cnt_ov hf]; exact r9, by rw [cw_cnt_ov hf]; exact r10⟩
/-- rows that stand on the stack -/
theorem cw_rowsE (htb : ak_tbOK ak_CW tb) (hT : ak_Ty ak_CW s h) (hI : cw_I cw_XB s h) (hd : 1 ≤ d) {x : Int32} (hx : 0 ≤ x.toInt ∧ x.toInt ≤ 19) (qi : s[i]? = some 58) (hsk : cw_sk (cw_o h) x.toInt.toNat (52 + i)) : cw_K ak_CW (fun s' r h' => s' = s ∧ h' = h ∧ r = some (.ref (52 + i))) tb d (cw_nW 100 (some (.inr (some ([58], false))))) [.ref (52 + 43), .int x] s h := by
  obtain ⟨d, rfl⟩ : ∃ e, d = e + 1 := ⟨d - 1, by omega⟩
  have hB := hI.1
  obtain ⟨f3, a49, hf⟩ := cw_sk_A hsk
  refine cw_m (con := cw_nW 100 (some (.inr (some ([58], false))))) aj_m100_at (Nat.le_of_ble_eq_true rfl) ?_
  show cw_W _ _ _ _ _ _ _ _ _ _ 0 [(0, .ref (52 + 43)), (1, .int x)] []
  refine cw_n aj_d100 rfl rfl ?_
  refine cw_z (tgt := 13) aj_d100 rfl rfl (fun q1001 => ?_) (fun q1001 => ?_)
  · have q1001 : x.toInt < (0 : Int) := aw_t_lt (a := x.toInt) (b := (0 : Int)) rfl rfl q1001
    exfalso
    omega
  · have q1001 : x.toInt ≥ (0 : Int) := aw_t_lt (a := x.toInt) (b := (0 : Int)) rfl rfl q1001
    refine cw_n aj_d100 rfl rfl ?_
    refine cw_n aj_d100 rfl rfl ?_
    obtain ⟨v1002, f1002, g1002⟩ := cw_tyF (i := 43) (t := 61) (c := 9) (k := 3) (y := (.inr (some ([93], false)))) hT (cw_s0 hB rfl) rfl rfl rfl
    obtain rfl := cw_gu (i := 49) hB g1002 (by decide) (by decide) (by decide)
    refine cw_g (i := 43) (v := .ref (52 + 49)) htb.1 aj_d100 rfl rfl (by decide) f1002 ?_
    refine cw_alen (i := 49) htb.1 aj_d100 rfl a49 (by decide) (by omega) (fun x1003 ex1003 => ?_)
    refine cw_c (tgt := 18) aj_d100 rfl rfl (fun q1004 => ?_) (fun q1004 => ?_)
    · have q1004 : x.toInt < (20 : Int) := aw_t_lt (a := x.toInt) (b := (20 : Int)) rfl ex1003 q1004
      refine cw_n aj_d100 rfl rfl ?_
      refine cw_g (i := 43) (v := .ref (52 + 49)) htb.1 aj_d100 rfl rfl (by decide) f1002 ?_
      refine cw_n aj_d100 rfl rfl ?_
      refine cw_ldq (i := 49) htb.1 aj_d100 rfl a49 (a := x.toInt) rfl (by omega) (by omega) ?_
      rw [hf]
      show cw_W _ _ _ _ _ _ _ _ _ _ 24 [(0, .ref (52 + 43)), (1, .int x)] [.ref (52 + i)]
      refine cw_n aj_d100 rfl rfl ?_
      refine cw_n aj_d100 rfl rfl ?_
      refine cw_g (i := 43) (v := .ref (52 + 49)) htb.1 aj_d100 rfl rfl (by decide) f1002 ?_
      refine cw_n aj_d100 rfl rfl ?_
      refine cw_ldq (i := 49) htb.1 aj_d100 rfl a49 (a := x.toInt) rfl (by omega) (by omega) ?_
      rw [hf]
      show cw_W _ _ _ _ _ _ _ _ _ _ 46 [(0, .ref (52 + 43)), (1, .int x)] [.ref (52 + i)]
      refine cw_Wr aj_d100 rfl rfl hT ?_ ?_
      · exact ⟨rfl, rfl, rfl⟩
      · exact cw_gR qi (by decide) (by decide)
    · have q1004 : x.toInt ≥ (20 : Int) := aw_t_lt (a := x.toInt) (b := (20 : Int)) rfl ex1003 q1004
      exfalso
      omega
/-- rows of any level -/
theorem cw_rowsN (htb : ak_tbOK ak_CW tb) (hT : ak_Ty ak_CW s h) (hI : cw_I cw_XB s h) (hd : 2 ≤ d) {x : Int32} (hx : 0 ≤ x.toInt ∧ x.toInt ≤ 19) : cw_K ak_CW (fun s' r h' => ∃ i, r = some (.ref (52 + i)) ∧ s'[i]? = some 58 ∧ cw_I cw_XB s' h' ∧ cw_kp (fun _ _ _ => False) (fun a => a = 49) (cw_o h) (cw_o h') ∧ (∀ l r, cw_sk (cw_o h) l r → cw_sk (cw_o h') l r) ∧ (∃ u, s' = s ++ u) ∧ cw_sk (cw_o h') x.toInt.toNat (52 + i)) tb d (cw_nW 100 (some (.inr (some ([58], false))))) [.ref (52 + 43), .int x] s h := by
  obtain ⟨d, rfl⟩ : ∃ e, d = e + 1 := ⟨d - 1, by omega⟩
  have hB := hI.1
  obtain ⟨n49, z49, a49, m1, m2, p49⟩ := cw_tyA (i := 49) (t := 93) (kd := 5) (n1 := 20) (n2 := 20) (y := (.inr (some ([58], true)))) hT (cw_s0 hB rfl) rfl
  obtain rfl : n49 = 20 := Nat.le_antisymm m2 m1
  obtain ⟨f3, rfl, -⟩ := cw_xq p49
  refine cw_m (con := cw_nW 100 (some (.inr (some ([58], false))))) aj_m100_at (Nat.le_of_ble_eq_true rfl) ?_
  show cw_W _ _ _ _ _ _ _ _ _ _ 0 [(0, .ref (52 + 43)), (1, .int x)] []
  cases hf : f3 x.toInt.toNat with
  | some r =>
    obtain ⟨i, rfl, qi⟩ := cw_refs (T := ak_CW) (t := 93) (n1 := 20) (n2 := 20) hT (cw_s0 hB rfl) rfl a49 (l := x.toInt.toNat) (by omega) hf
    have hsk := cw_sk_of a49 hf
    refine cw_n aj_d100 rfl rfl ?_
    refine cw_z (tgt := 13) aj_d100 rfl rfl (fun q1005 => ?_) (fun q1005 => ?_)
    · have q1005 : x.toInt < (0 : Int) := aw_t_lt (a := x.toInt) (b := (0 : Int)) rfl rfl q1005
      exfalso
      omega
    · have q1005 : x.toInt ≥ (0 : Int) := aw_t_lt (a := x.toInt) (b := (0 : Int)) rfl rfl q1005
      refine cw_n aj_d100 rfl rfl ?_
      refine cw_n aj_d100 rfl rfl ?_
      obtain ⟨v1006, f1006, g1006⟩ := cw_tyF (i := 43) (t := 61) (c := 9) (k := 3) (y := (.inr (some ([93], false)))) hT (cw_s0 hB rfl) rfl rfl rfl
      obtain rfl := cw_gu (i := 49) hB g1006 (by decide) (by decide) (by decide)
      refine cw_g (i := 43) (v := .ref (52 + 49)) htb.1 aj_d100 rfl rfl (by decide) f1006 ?_
      refine cw_alen (i := 49) htb.1 aj_d100 rfl a49 (by decide) (by omega) (fun x1007 ex1007 => ?_)
      refine cw_c (tgt := 18) aj_d100 rfl rfl (fun q1008 => ?_) (fun q1008 => ?_)
      · have q1008 : x.toInt < (20 : Int) := aw_t_lt (a := x.toInt) (b := (20 : Int)) rfl ex1007 q1008
        refine cw_n aj_d100 rfl rfl ?_
        refine cw_g (i := 43) (v := .ref (52 + 49)) htb.1 aj_d100 rfl rfl (by decide) f1006 ?_
        refine cw_n aj_d100 rfl rfl ?_
        refine cw_ldq (i := 49) htb.1 aj_d100 rfl a49 (a := x.toInt) rfl (by omega) (by omega) ?_
        rw [hf]
        show cw_W _ _ _ _ _ _ _ _ _ _ 24 [(0, .ref (52 + 43)), (1, .int x)] [.ref (52 + i)]
        refine cw_n aj_d100 rfl rfl ?_
        refine cw_n aj_d100 rfl rfl ?_
        refine cw_g (i := 43) (v := .ref (52 + 49)) htb.1 aj_d100 rfl rfl (by decide) f1006 ?_
        refine cw_n aj_d100 rfl rfl ?_
        refine cw_ldq (i := 49) htb.1 aj_d100 rfl a49 (a := x.toInt) rfl (by omega) (by omega) ?_
        rw [hf]
        show cw_W _ _ _ _ _ _ _ _ _ _ 46 [(0, .ref (52 + 43)), (1, .int x)] [.ref (52 + i)]
        refine cw_Wr aj_d100 rfl rfl hT ?_ ?_
        · exact ⟨i, rfl, qi, hI, cw_kp_rf, fun _ _ z => z, ⟨[], (List.append_nil _).symm⟩, hsk⟩
        · exact cw_gR qi (by decide) (by decide)
      · have q1008 : x.toInt ≥ (20 : Int) := aw_t_lt (a := x.toInt) (b := (20 : Int)) rfl ex1007 q1008
        exfalso
        omega
  | none =>
    refine cw_n aj_d100 rfl rfl ?_
    refine cw_z (tgt := 13) aj_d100 rfl rfl (fun q1009 => ?_) (fun q1009 => ?_)
    · have q1009 : x.toInt < (0 : Int) := aw_t_lt (a := x.toInt) (b := (0 : Int)) rfl rfl q1009
      exfalso
      omega
    · have q1009 : x.toInt ≥ (0 : Int) := aw_t_lt (a := x.toInt) (b := (0 : Int)) rfl rfl q1009
      refine cw_n aj_d100 rfl rfl ?_
      refine cw_n aj_d100 rfl rfl ?_
      obtain ⟨v1010, f1010, g1010⟩ := cw_tyF (i := 43) (t := 61) (c := 9) (k := 3) (y := (.inr (some ([93], false)))) hT (cw_s0 hB rfl) rfl rfl rfl
      obtain rfl := cw_gu (i := 49) hB g1010 (by decide) (by decide) (by decide)
      refine cw_g (i := 43) (v := .ref (52 + 49)) htb.1 aj_d100 rfl rfl (by decide) f1010 ?_
      refine cw_alen (i := 49) htb.1 aj_d100 rfl a49 (by decide) (by omega) (fun x1011 ex1011 => ?_)
      refine cw_c (tgt := 18) aj_d100 rfl rfl (fun q1012 => ?_) (fun q1012 => ?_)
      · have q1012 : x.toInt < (20 : Int) := aw_t_lt (a := x.toInt) (b := (20 : Int)) rfl ex1011 q1012
        refine cw_n aj_d100 rfl rfl ?_
        refine cw_g (i := 43) (v := .ref (52 + 49)) htb.1 aj_d100 rfl rfl (by decide) f1010 ?_
        refine cw_n aj_d100 rfl rfl ?_
        refine cw_ldq (i := 49) htb.1 aj_d100 rfl a49 (a := x.toInt) rfl (by omega) (by omega) ?_
        rw [hf]
        show cw_W _ _ _ _ _ _ _ _ _ _ 24 [(0, .ref (52 + 43)), (1, .int x)] [.null]
        refine cw_n aj_d100 rfl rfl ?_
        refine cw_n aj_d100 rfl rfl ?_
        refine cw_g (i := 43) (v := .ref (52 + 49)) htb.1 aj_d100 rfl rfl (by decide) f1010 ?_
        refine cw_n aj_d100 rfl rfl ?_
        refine cw_newR htb.1 aj_d100 rfl rfl hT rfl rfl rfl rfl rfl (Nat.le_of_ble_eq_true rfl) (by omega) (fun hTn => ?_)
        have qn : (s ++ [58, 94, 95, 96])[h.length]? = some 58 := by
          rw [hT.1, List.getElem?_append_right (Nat.le_refl _), Nat.sub_self]
          rfl
        refine cw_sq htb aj_d100 rfl (q := 49) (cw_A_app a49) hTn (cw_sapp (cw_s0 hB rfl)) rfl (by decide) (a := x.toInt) rfl hx.1 (by omega) (i := h.length) qn ⟨_, by rw [List.getElem?_append_right (Nat.le_refl _), Nat.sub_self]; rfl⟩ (fun hT2 => ?_)
        obtain ⟨I2, k2⟩ := cw_I_newR (T := ak_CW) rfl rfl (Or.inr (Or.inr rfl)) hT hI (Or.inr (Or.inr ⟨rfl, rfl⟩)) a49 (t := x.toInt.toNat) (by omega) hf
        have hB2 := I2.1
        have a49n := cw_sa_same (x' := cw_q (va_up f3 x.toInt.toNat (some (52 + h.length)))) (cw_A_app (X := cw_R h.length) a49)
        show cw_W _ _ _ _ _ _ _ _ _ _ 40 [(0, .ref (52 + 43)), (1, .int x)] []
        refine cw_n aj_d100 rfl rfl ?_
        obtain ⟨v1013, f1013, g1013⟩ := cw_tyF (i := 43) (t := 61) (c := 9) (k := 3) (y := (.inr (some ([93], false)))) hT2 (cw_s0 hB2 rfl) rfl rfl rfl
        obtain rfl := cw_gu (i := 49) hB2 g1013 (by decide) (by decide) (by decide)
        refine cw_g (i := 43) (v := .ref (52 + 49)) htb.1 aj_d100 rfl rfl (by decide) f1013 ?_
        refine cw_n aj_d100 rfl rfl ?_
        refine cw_ldq (i := 49) htb.1 aj_d100 rfl a49n (a := x.toInt) rfl (by omega) (by omega) ?_
        rw [show va_up f3 x.toInt.toNat (some (52 + h.length)) (x.toInt).toNat = some (52 + h.length) from if_pos rfl]
        show cw_W _ _ _ _ _ _ _ _ _ _ 46 [(0, .ref (52 + 43)), (1, .int x)] [.ref (52 + h.length)]
        refine cw_Wr aj_d100 rfl rfl hT2 ?_ ?_
        · refine ⟨h.length, rfl, qn, I2, k2, ?_, ⟨_, rfl⟩, cw_sk_of a49n (if_pos rfl)⟩
          intro l r hlr
          obtain ⟨g, g1, g2⟩ := cw_sk_A hlr
          obtain ⟨-, -, e⟩ := cw_A_u g1 a49
          cases e
          refine cw_sk_of a49n ?_
          unfold va_up
          rw [if_neg (fun z => by rw [z, hf] at g2; cases g2)]
          exact g2
        · exact cw_gR qn (by decide) (by decide)
      · have q1012 : x.toInt ≥ (20 : Int) := aw_t_lt (a := x.toInt) (b := (20 : Int)) rfl ex1011 q1012
        exfalso
        omega
/-- scratch becomes the latest Q -/
theorem cw_useS (htb : ak_tbOK ak_CW tb) (hT : ak_Ty ak_CW s h) (hI : cw_I cw_XB s h) (hd : 2 ≤ d) {dp : Int32} (hdp : 1 ≤ dp.toInt ∧ dp.toInt ≤ 20) (qi : s[i]? = some 58) (qp : s[p]? = some 58) (fd : cw_F h 43 9 4 (.int dp)) (fs : cw_F h 43 9 5 (.ref (52 + p))) (hsk : cw_sk (cw_o h) (dp.toInt - 1).toNat (52 + i)) : cw_K ak_CW (fun s' r h' => s' = s ∧ r = none ∧ cw_I cw_XB s h' ∧ cw_kp (fun a c k => a = 43 ∧ c = 9 ∧ k = 5) (fun a => a = 49) (cw_o h) (cw_o h') ∧ cw_sk (cw_o h') (dp.toInt - 1).toNat (52 + p) ∧ (∀ l r, l ≠ (dp.toInt - 1).toNat → cw_sk (cw_o h) l r → cw_sk (cw_o h') l r) ∧ cw_sy b b (cw_o h) (cw_o h') ∧ cw_F h' 43 9 5 (.ref (52 + i))) tb d (cw_nW 120 none) [.ref (52 + 43)] s h := by
  obtain ⟨d, rfl⟩ : ∃ e, d = e + 1 := ⟨d - 1, by omega⟩
  have hB := hI.1
  obtain ⟨f3, a49, hf⟩ := cw_sk_A hsk
  refine cw_m (con := cw_nW 120 none) aj_m120_at (Nat.le_of_ble_eq_true rfl) ?_
  show cw_W _ _ _ _ _ _ _ _ _ _ 0 [(0, .ref (52 + 43))] []
  refine cw_n aj_d120 rfl rfl ?_
  refine cw_g (i := 43) (v := .int dp) htb.1 aj_d120 rfl rfl (by decide) fd ?_
  refine cw_n aj_d120 rfl rfl ?_
  refine cw_sub aj_d120 rfl (a := dp.toInt) (b := (1 : Int)) rfl rfl (by omega) (by omega) (fun x1014 ex1014 => ?_)
  refine cw_n aj_d120 rfl rfl ?_
  show cw_W _ _ _ _ _ _ _ _ _ _ 7 [(1, .int x1014), (0, .ref (52 + 43))] []
  refine cw_n aj_d120 rfl rfl ?_
  refine cw_z (tgt := 41) aj_d120 rfl rfl (fun q1015 => ?_) (fun q1015 => ?_)
  · have q1015 : x1014.toInt < (0 : Int) := aw_t_lt (a := x1014.toInt) (b := (0 : Int)) rfl rfl q1015
    exfalso
    omega
  · have q1015 : x1014.toInt ≥ (0 : Int) := aw_t_lt (a := x1014.toInt) (b := (0 : Int)) rfl rfl q1015
    refine cw_n aj_d120 rfl rfl ?_
    refine cw_n aj_d120 rfl rfl ?_
    obtain ⟨v1016, f1016, g1016⟩ := cw_tyF (i := 43) (t := 61) (c := 9) (k := 3) (y := (.inr (some ([93], false)))) hT (cw_s0 hB rfl) rfl rfl rfl
    obtain rfl := cw_gu (i := 49) hB g1016 (by decide) (by decide) (by decide)
    refine cw_g (i := 43) (v := .ref (52 + 49)) htb.1 aj_d120 rfl rfl (by decide) f1016 ?_
    refine cw_alen (i := 49) htb.1 aj_d120 rfl a49 (by decide) (by omega) (fun x1017 ex1017 => ?_)
    refine cw_c (tgt := 41) aj_d120 rfl rfl (fun q1018 => ?_) (fun q1018 => ?_)
    · have q1018 : x1014.toInt ≥ (20 : Int) := aw_t_ge (a := x1014.toInt) (b := (20 : Int)) rfl ex1017 q1018
      exfalso
      omega
    · have q1018 : x1014.toInt < (20 : Int) := aw_t_ge (a := x1014.toInt) (b := (20 : Int)) rfl ex1017 q1018
      refine cw_n aj_d120 rfl rfl ?_
      refine cw_n aj_d120 rfl rfl ?_
      refine cw_k0 (i := 43) (t := 61) (con' := cw_nW 100 (some (.inr (some ([58], false))))) aj_d120 htb hT rfl rfl [_] rfl rfl (cw_s0 hB rfl) rfl (Nat.le_of_ble_eq_true rfl) ⟨by decide, by decide⟩ (cw_rowsE htb hT hI (by omega) (x := x1014) ⟨by omega, by omega⟩ qi (by rw [ex1014]; exact hsk)) ?_
      rintro rhT1019 hhT1019 hT1019 ⟨ehhT1019, erhT1019⟩ -
      subst erhT1019
      obtain rfl := ehhT1019.symm
      show cw_W _ _ _ _ _ _ _ _ _ _ 25 [(1, .int x1014), (0, .ref (52 + 43))] [.ref (52 + i)]
      refine cw_n aj_d120 rfl rfl ?_
      show cw_W _ _ _ _ _ _ _ _ _ _ 26 [(2, .ref (52 + i)), (1, .int x1014), (0, .ref (52 + 43))] []
      refine cw_n aj_d120 rfl rfl ?_
      refine cw_g (i := 43) (v := .ref (52 + 49)) htb.1 aj_d120 rfl rfl (by decide) f1016 ?_
      refine cw_n aj_d120 rfl rfl ?_
      refine cw_n aj_d120 rfl rfl ?_
      refine cw_g (i := 43) (v := .ref (52 + p)) htb.1 aj_d120 rfl rfl (by decide) fs ?_
      obtain ⟨fsp, hsp⟩ := cw_cls hT1019 qp rfl
      have hl : (x1014.toInt).toNat = (dp.toInt - 1).toNat := by rw [ex1014]
      refine cw_sq htb aj_d120 rfl (q := 49) a49 hT1019 (cw_s0 hB rfl) rfl (by decide) (a := x1014.toInt) rfl (by omega) (by omega) (i := p) qp ⟨fsp, hsp⟩ (fun hT2 => ?_)
      rw [hl] at hT2 ⊢
      obtain ⟨I2, k2⟩ := cw_I_scr hT1019 hI (l := (dp.toInt - 1).toNat) (by omega) a49 hf fs
      have fs2 : cw_F (cw_sa h 49 (cw_q (va_up f3 (dp.toInt - 1).toNat (some (52 + p))))) 43 9 5 (.ref (52 + p)) := cw_sa_F fs
      have a49n : cw_A (cw_sf (cw_sa h 49 (cw_q (va_up f3 (dp.toInt - 1).toNat (some (52 + p))))) 43 5 (.ref (52 + i))) 49 5 20 (cw_q (va_up f3 (dp.toInt - 1).toNat (some (52 + p)))) := cw_sf_A (cw_sa_same a49)
      show cw_W _ _ _ _ _ _ _ _ _ _ 36 [(2, .ref (52 + i)), (1, .int x1014), (0, .ref (52 + 43))] []
      refine cw_n aj_d120 rfl rfl ?_
      refine cw_n aj_d120 rfl rfl ?_
      refine cw_p (i := 43) (t := 61) (c := 9) (k := 5) (v := .ref (52 + i)) (y := (.inr (some ([58], false)))) htb aj_d120 rfl rfl hT2 (cw_s0 hB rfl) rfl rfl rfl (cw_gR qi (by decide) (by decide)) (by decide) rfl rfl (fun hT1020 => ?_)
      have f1021 : cw_F (cw_sf (cw_sa h 49 (cw_q (va_up f3 (dp.toInt - 1).toNat (some (52 + p))))) 43 5 (.ref (52 + i))) 43 9 5 (.ref (52 + i)) := cw_sf_same fs2
      refine cw_Wr aj_d120 rfl rfl hT1020 ?_ ?_
      · refine ⟨rfl, rfl, I2, k2, cw_sk_of a49n (if_pos rfl), fun l r hlr hlr2 => ?_, cw_sy_n k2 (fun _ _ z => absurd z.2.1 (by decide)), cw_sf_same fs2⟩
        obtain ⟨g, g1, g2⟩ := cw_sk_A hlr2
        obtain ⟨-, -, e⟩ := cw_A_u g1 a49
        cases e
        refine cw_sk_of a49n ?_
        unfold va_up
        rw [if_neg hlr]
        exact g2
      · trivial
end CW73
