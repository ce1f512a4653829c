/-! WORK, BY HAND (printed by wip/p2/cwalk/g81.py) -/
section CW81
variable {tb : aj_T} {d : Nat} {s s' s2 s0 : List Nat} {h h' h2 h0 : aj_H} {i j p q x c k l l' D D' D2 : Nat} {b b' b2 : Int} {o o' o2 o0 : cw_O} {n nt iv iv2 dp v w : Int32} {f g : Nat → Int32}
theorem cw_rn_no {i : Nat} (h1 : cw_rn f i = none) : ∀ m, cw_rn f (i + m) = none := by
  intro m
  induction m with
  | zero => exact h1
  | succ m ih =>
    show (cw_rn f (i + m)).bind _ = none
    rw [ih]
    rfl
theorem cw_rn_s {i n : Nat} (h1 : cw_rn f i = some D) (h2 : cw_rn f n ≠ none) (hl : i < n) : ∃ D', cw_nst D (f i).toInt = some D' := by
  cases e : cw_nst D (f i).toInt with
  | some D' => exact ⟨D', rfl⟩
  | none =>
    have e1 : cw_rn f (i + 1) = none := by
      show (cw_rn f i).bind _ = none
      rw [h1]
      exact e
    have := cw_rn_no e1 (n - (i + 1))
    rw [show i + 1 + (n - (i + 1)) = n from by omega] at this
    exact absurd this h2
theorem cw_rn_p {i : Nat} (h1 : cw_rn f i = some D) (h2 : cw_nst D (f i).toInt = some D') : cw_rn f (i + 1) = some D' := by
  show (cw_rn f i).bind _ = _
  rw [h1]
  exact h2
theorem cw_nst_20 {z : Int} (hD : D ≤ 20) (h0 : cw_nst D z = some D') : D' ≤ 20 := by
  unfold cw_nst at h0
  split at h0
  · split at h0
    · cases h0
      omega
    · cases h0
  · split at h0
    · split at h0
      · cases h0
        omega
      · cases h0
    · split at h0
      · split at h0
        · cases h0
          omega
        · cases h0
      · split at h0
        · split at h0
          · cases h0
            omega
          · cases h0
        · cases h0
          exact hD
theorem cw_rn_20 : ∀ (i D : Nat), cw_rn f i = some D → D ≤ 20 := by
  intro i
  induction i with
  | zero =>
    intro D h0
    cases h0
    omega
  | succ i ih =>
    intro D h0
    have h0 : (cw_rn f i).bind (fun D => cw_nst D (f i).toInt) = some D := h0
    cases e : cw_rn f i with
    | none =>
      rw [e] at h0
      cases h0
    | some E =>
      rw [e] at h0
      exact cw_nst_20 (ih E e) h0
/-- while work goes on -/
def cw_St (x : Nat) (n nt : Int32) (f g : Nat → Int32) (iv : Int32) (D : Nat) (dp : Int32) (s : List Nat) (h : aj_H) : Prop := cw_I cw_XB s h ∧ s[x]? = some 59 ∧ cw_F h 43 9 7 (.ref (52 + x)) ∧ cw_A h 31 0 2500 (.inl f) ∧ cw_A h 34 0 2500 (.inl g) ∧ cw_F h 30 4 4 (.int n) ∧ cw_F h 43 9 4 (.int dp) ∧ dp.toInt = (D : Int) ∧ cw_Z False x nt (30 + 8 * iv.toInt) (cw_o h) ∧ cw_Lv D (30 + 8 * iv.toInt) (cw_o h) ∧ cw_rn f iv.toInt.toNat = some D
theorem cw_St_nx (hx : x = 2 ∨ x = 14) (hS : cw_St x n nt f g iv D dp s h) (hq : cw_WQ D' (30 + 8 * iv.toInt) s h s' h') (hn : cw_nst D (f iv.toInt.toNat).toInt = some D') (h0 : 0 ≤ iv.toInt) (e : iv2.toInt = iv.toInt + 1) : ∃ dp', cw_St x n nt f g iv2 D' dp' s' h' := by
  obtain ⟨hI, qx, fs7, a31, a34, f4, fd, hdp, hZ, lv, hr⟩ := hS
  obtain ⟨⟨u, rfl⟩, I', k', s', ⟨y, ey, fy⟩, lv'⟩ := hq
  refine ⟨y, I', cw_sapp qx, cw_kp_F k' (by decide) (by decide) fs7, cw_kp_A k' (by decide) (by decide) a31, cw_kp_A k' (by decide) (by decide) a34, cw_kp_F k' (by decide) (by decide) f4, fy, ey, ?_, ?_, ?_⟩
  · refine cw_Z_kp k' (fun z => ?_) (fun z => ?_) (fun a ha z => ?_) (cw_sy_mono s' (by omega)) hZ
    · rcases z with z | z | z
      · exact absurd z (by decide)
      · exact absurd z.1 (by decide)
      · exact absurd z.2.1 (by decide)
    · rcases z with z | z | z
      · exact absurd z (by decide)
      · exact absurd z.1 (by decide)
      · exact absurd z.2.1 (by decide)
    · have z : a = 49 := z
      omega
  · exact fun l hl => (lv' l hl).imp (fun r z => ⟨z.1, cw_ok_mono (by omega) z.2⟩)
  · rw [show iv2.toInt.toNat = iv.toInt.toNat + 1 from by omega]
    exact cw_rn_p hr hn
theorem cw_I_w9T {T : ak_TT} (h1 : T.1 = ak_ti) (h4 : T.2.1[4]? = ak_ft0[4]?) {X : Option Nat} (hT : ak_Ty T s h) (hI : cw_I X s h) (hk : k = 4 ∨ k = 7) {v w : Value} (fd : cw_F h 43 9 k v) : cw_I X s (cw_sf h 43 k w) ∧ cw_kp (fun a c k' => a = 43 ∧ c = 9 ∧ k' = k) (fun _ => False) (cw_o h) (cw_o (cw_sf h 43 k w)) := by
  have k5 : cw_kp (fun a c k' => a = 43 ∧ c = 9 ∧ k' = k) (fun _ => False) (cw_o h) (cw_o (cw_sf h 43 k w)) := cw_kp_sf fd ⟨rfl, rfl, rfl⟩
  exact ⟨⟨hI.1, cw_wds_kp k5 id hI.2.1, cw_dis_kp k5 id (fun z => by omega) hI.2.2.1, cw_gd_kp (T := T) h1 h4 hT hI.1 k5 id ⟨fun z => by omega, fun z => by omega⟩ hI.2.2.2.1, cw_H_sfo hI.2.2.2.2.1 fd (by decide), cw_rm_kp k5 (fun _ _ z => z) ⟨fun z => by omega, fun z => by omega⟩ hI.2.2.2.2.2⟩, k5⟩
theorem cw_WQ_eq (ho : cw_o h' = cw_o h) (hI : cw_I cw_XB s h) (hdp : dp.toInt = (D : Int)) (fd : cw_F h' 43 9 4 (.int dp)) (lv : cw_Lv D b (cw_o h)) : cw_WQ D b s h s h' := by
  have e8 : b ≤ b + 8 := by omega
  exact ⟨cw_s00, cw_I_eq ho hI, cw_kp_eq ho, fun a z => cw_ok_mono e8 (cw_ok_eq ho z), ⟨dp, hdp, fd⟩, cw_Lv_kp (fun l r z => cw_sk_kp (cw_kp_eq (EF := fun _ _ _ => False) (EA := fun _ => False) ho) id z) (fun a z => cw_ok_mono e8 (cw_ok_eq ho z)) lv⟩
theorem cw_work_l {d : Nat} (hd : 7 ≤ d) (htb : ak_tbOK ak_CW tb) (hx : x = 2 ∨ x = 14) (hn : n.toInt ≤ 2500) (hG : ∀ j : Nat, (j : Int) < n.toInt → (f j).toInt = 210 → 0 ≤ (g j).toInt ∧ (g j).toInt < nt.toInt) : ∀ (N : Nat) {s : List Nat} {h : aj_H} {lv : aj_V} {kc ks : Nat} {iv : Int32} {D : Nat} {dp : Int32} (hT : ak_Ty ak_CW s h) (hS : cw_St x n nt f g iv D dp s h) (hl0 : aj_lv lv 0 = some (.ref (52 + 43))) (hl1 : aj_lv lv 1 = some (.ref (52 + x))) (hl2 : aj_lv lv 2 = some (.int iv)) (h0 : 0 ≤ iv.toInt) (hN : 2500 - iv.toInt ≤ N), cw_W ak_CW (fun s' r h' => r = none ∧ cw_I cw_XB s' h') tb d aj_m97 (cw_nW 97 none) s h kc ks 19 lv [] := by
  intro N
  induction N with
  | zero =>
    intro s h lv kc ks iv D dp hT hS hl0 hl1 hl2 h0 hN
    obtain ⟨hI, qx, fs7, a31, a34, f4, fd, hdp, hZ, lv9, hr⟩ := id hS
    have hB := hI.1
    refine cw_l0 aj_d97 rfl rfl hl2 ?_
    refine cw_l2 aj_d97 rfl rfl hl0 ?_
    obtain ⟨v1001, f1001, g1001⟩ := cw_tyF (i := 43) (t := 61) (c := 9) (k := 1) (y := (.inr (some ([56], false)))) hT (cw_s0 hB rfl) rfl rfl rfl
    obtain rfl := cw_gu (i := 30) hB g1001 (by decide) (by decide) (by decide)
    refine cw_g (i := 43) (v := .ref (52 + 30)) htb.1 aj_d97 rfl rfl (by decide) f1001 ?_
    refine cw_g (i := 30) (v := .int n) htb.1 aj_d97 rfl rfl (by decide) f4 ?_
    refine cw_c (tgt := 100) aj_d97 rfl rfl (fun q1002 => ?_) (fun q1002 => ?_)
    · have q1002 : iv.toInt ≥ n.toInt := aw_t_ge (a := iv.toInt) (b := n.toInt) rfl rfl q1002
      refine cw_Wr aj_d97 rfl rfl hT ?_ ?_
      · exact ⟨rfl, hI⟩
      · trivial
    · have q1002 : iv.toInt < n.toInt := aw_t_ge (a := iv.toInt) (b := n.toInt) rfl rfl q1002
      exfalso
      omega
  | succ N ih =>
    intro s h lv kc ks iv D dp hT hS hl0 hl1 hl2 h0 hN
    obtain ⟨hI, qx, fs7, a31, a34, f4, fd, hdp, hZ, lv9, hr⟩ := id hS
    have hB := hI.1
    refine cw_l0 aj_d97 rfl rfl hl2 ?_
    refine cw_l2 aj_d97 rfl rfl hl0 ?_
    obtain ⟨v1003, f1003, g1003⟩ := cw_tyF (i := 43) (t := 61) (c := 9) (k := 1) (y := (.inr (some ([56], false)))) hT (cw_s0 hB rfl) rfl rfl rfl
    obtain rfl := cw_gu (i := 30) hB g1003 (by decide) (by decide) (by decide)
    refine cw_g (i := 43) (v := .ref (52 + 30)) htb.1 aj_d97 rfl rfl (by decide) f1003 ?_
    refine cw_g (i := 30) (v := .int n) htb.1 aj_d97 rfl rfl (by decide) f4 ?_
    refine cw_c (tgt := 100) aj_d97 rfl rfl (fun q1004 => ?_) (fun q1004 => ?_)
    · have q1004 : iv.toInt ≥ n.toInt := aw_t_ge (a := iv.toInt) (b := n.toInt) rfl rfl q1004
      refine cw_Wr aj_d97 rfl rfl hT ?_ ?_
      · exact ⟨rfl, hI⟩
      · trivial
    · have q1004 : iv.toInt < n.toInt := aw_t_ge (a := iv.toInt) (b := n.toInt) rfl rfl q1004
      refine cw_l2 aj_d97 rfl rfl hl0 ?_
      refine cw_g (i := 43) (v := .ref (52 + 30)) htb.1 aj_d97 rfl rfl (by decide) f1003 ?_
      obtain ⟨v1005, f1005, g1005⟩ := cw_tyF (i := 30) (t := 56) (c := 4) (k := 5) (y := (.inl ((-2147483648), 2147483647))) hT (cw_s0 hB rfl) rfl rfl rfl
      obtain ⟨x1005, rfl, b1005⟩ := ak_gi g1005
      dsimp only [ak_win] at b1005
      refine cw_g (i := 30) (v := .int x1005) htb.1 aj_d97 rfl rfl (by decide) f1005 ?_
      refine cw_z (tgt := 100) aj_d97 rfl rfl (fun q1006 => ?_) (fun q1006 => ?_)
      · have q1006 : x1005.toInt ≠ (0 : Int) := aw_t_ne (a := x1005.toInt) (b := (0 : Int)) rfl rfl q1006
        refine cw_Wr aj_d97 rfl rfl hT ?_ ?_
        · exact ⟨rfl, hI⟩
        · trivial
      · have q1006 : x1005.toInt = (0 : Int) := aw_t_ne (a := x1005.toInt) (b := (0 : Int)) rfl rfl q1006
        have fz : cw_F h 30 4 5 (.int 0) := by
          rw [← cw_lit (n := 0) q1006 rfl]
          exact f1005
        obtain ⟨f', n', b31, b4, hrn⟩ := hI.2.2.2.1 ((cw_fo_F (by decide)).mpr fz)
        obtain ⟨-, -, e31⟩ := cw_A_u ((cw_oa_A (by decide)).mp b31) a31
        cases e31
        have e4 := (cw_F_u ((cw_fo_F (by decide)).mp b4) f4).2
        cases e4
        obtain ⟨D', hD'⟩ := cw_rn_s hr hrn (by omega)
        have hD20 := cw_rn_20 _ _ hr
        refine cw_l2 aj_d97 rfl rfl hl0 ?_
        refine cw_g (i := 43) (v := .ref (52 + 30)) htb.1 aj_d97 rfl rfl (by decide) f1003 ?_
        refine cw_l0 aj_d97 rfl rfl hl2 ?_
        refine cw_k0 (i := 30) (t := 56) (con' := cw_nW 57 (some (.inl ((-2147483648), 2147483647)))) aj_d97 htb hT rfl rfl [_] rfl rfl (cw_s0 hB rfl) rfl (Nat.le_of_ble_eq_true rfl) ⟨by decide, by decide⟩ (cw_noteX htb hT hI (by omega) ⟨h0, by omega⟩ a31) ?_
        rintro ra ha hTa ⟨ea, rfl⟩ -
        obtain rfl := ea.symm
        show cw_W _ _ _ _ _ _ _ _ _ _ 48 lv [.int (f iv.toInt.toNat)]
        refine cw_t0 (j := 3) aj_d97 rfl (by decide) rfl ?_
        obtain ⟨lv1007, elv1007⟩ : ∃ l, l = aj_set1 lv 3 (.int (f iv.toInt.toNat)) := ⟨_, rfl⟩
        rw [← elv1007]
        have hlv1007_0 : aj_lv lv1007 0 = some (.ref (52 + 43)) := cw_e1 elv1007 hl0 (by decide) (Or.inl (by decide))
        have hlv1007_1 : aj_lv lv1007 1 = some (.ref (52 + x)) := cw_e1 elv1007 hl1 (by decide) (Or.inl (by decide))
        have hlv1007_2 : aj_lv lv1007 2 = some (.int iv) := cw_e1 elv1007 hl2 (by decide) (Or.inr rfl)
        have hlv1007_3 : aj_lv lv1007 3 = some (.int (f iv.toInt.toNat)) := by rw [elv1007]; exact ak_set1_eq _ _ _
        show cw_W _ _ _ _ _ _ _ _ _ _ 49 lv1007 []
        refine cw_l0 aj_d97 rfl rfl hlv1007_3 ?_
        refine cw_n aj_d97 rfl rfl ?_
        refine cw_c (tgt := 65) aj_d97 rfl rfl (fun q1008 => ?_) (fun q1008 => ?_)
        · have q1008 : (f iv.toInt.toNat).toInt < (210 : Int) := aw_t_lt (a := (f iv.toInt.toNat).toInt) (b := (210 : Int)) rfl rfl q1008
          refine cw_l0 aj_d97 rfl rfl hlv1007_3 ?_
          refine cw_n aj_d97 rfl rfl ?_
          refine cw_c (tgt := 88) aj_d97 rfl rfl (fun q1009 => ?_) (fun q1009 => ?_)
          · have q1009 : (f iv.toInt.toNat).toInt < (200 : Int) := aw_t_lt (a := (f iv.toInt.toNat).toInt) (b := (200 : Int)) rfl rfl q1009
            refine cw_l2 aj_d97 rfl rfl hlv1007_0 ?_
            refine cw_l0 aj_d97 rfl rfl hlv1007_3 ?_
            refine cw_l0 aj_d97 rfl rfl hlv1007_2 ?_
            refine cw_k (i := 43) (con' := cw_nW 143 none) aj_d97 htb hTa rfl rfl [_, _] rfl rfl (cw_cls hTa (cw_s0 hB rfl) rfl) (Nat.le_of_ble_eq_true rfl) ⟨by decide, by decide⟩ (cw_told htb hTa hI (by omega) q1009 hx qx ⟨by omega, by omega⟩ ⟨h0, by omega⟩ fs7 fd hdp hD20 lv9 hZ hD') ?_
            rintro u ru hu hTu ⟨rfl, hq⟩ hRu -
            show cw_W _ _ _ _ _ _ _ _ _ _ 94 lv1007 []
            refine cw_inc aj_d97 rfl hlv1007_2 (a := iv.toInt) rfl (by omega) (by omega) (by decide) (by decide) (fun x1010 ex1010 => ?_)
            obtain ⟨lv1011, elv1011⟩ : ∃ l, l = aj_set1 lv1007 2 (.int x1010) := ⟨_, rfl⟩
            rw [← elv1011]
            have hlv1011_3 : aj_lv lv1011 3 = some (.int (f iv.toInt.toNat)) := cw_e1 elv1011 hlv1007_3 (by decide) (Or.inl (by decide))
            have hlv1011_0 : aj_lv lv1011 0 = some (.ref (52 + 43)) := cw_e1 elv1011 hlv1007_0 (by decide) (Or.inl (by decide))
            have hlv1011_1 : aj_lv lv1011 1 = some (.ref (52 + x)) := cw_e1 elv1011 hlv1007_1 (by decide) (Or.inr rfl)
            have hlv1011_2 : aj_lv lv1011 2 = some (.int x1010) := by rw [elv1011]; exact ak_set1_eq _ _ _
            show cw_W _ _ _ _ _ _ _ _ _ _ 97 lv1011 []
            refine cw_n aj_d97 rfl rfl ?_
            obtain ⟨dp', hS'⟩ := cw_St_nx hx hS hq hD' h0 ex1010
            exact ih hTu hS' hlv1011_0 hlv1011_1 hlv1011_2 (by omega) (by omega)
          · have q1009 : (f iv.toInt.toNat).toInt ≥ (200 : Int) := aw_t_lt (a := (f iv.toInt.toNat).toInt) (b := (200 : Int)) rfl rfl q1009
            refine cw_l2 aj_d97 rfl rfl hlv1007_0 ?_
            refine cw_l0 aj_d97 rfl rfl hlv1007_3 ?_
            refine cw_l2 aj_d97 rfl rfl hlv1007_0 ?_
            refine cw_g (i := 43) (v := .ref (52 + 30)) htb.1 aj_d97 rfl rfl (by decide) f1003 ?_
            refine cw_l0 aj_d97 rfl rfl hlv1007_2 ?_
            refine cw_k0 (i := 30) (t := 56) (con' := ap_c40) aj_d97 htb hTa rfl rfl [_] rfl rfl (cw_s0 hB rfl) rfl (Nat.le_of_ble_eq_true rfl) ⟨by decide, by decide⟩ (cw_a1 (by omega) (ap_W_40 htb (cw_SP1c _ _ rfl rfl) cw_hK) hTa hB rfl ⟨(cw_gR (cw_s0 hB rfl) (by decide) (by decide)), (cw_full _), trivial⟩) ?_
            rintro ru1012 h1012 hT1012 ho1012 hRu1012
            have f1013 : cw_F h1012 43 9 7 (.ref (52 + x)) := cw_trF ho1012 (by decide) fs7
            have f1014 : cw_F h1012 43 9 4 (.int dp) := cw_trF ho1012 (by decide) fd
            have f1015 : cw_F h1012 30 4 4 (.int n) := cw_trF ho1012 (by decide) f4
            have f1016 : cw_F h1012 30 4 5 (.int x1005) := cw_trF ho1012 (by decide) f1005
            have a1017 : cw_A h1012 31 0 2500 (.inl f) := cw_trA ho1012 (by decide) a31
            have a1018 : cw_A h1012 34 0 2500 (.inl g) := cw_trA ho1012 (by decide) a34
            obtain ⟨x1019, rfl, bx1019⟩ := cw_rI hRu1012
            show cw_W _ _ _ _ _ _ _ _ _ _ 82 lv1007 [.int x1019, .int (f iv.toInt.toNat), .ref (52 + 43)]
            refine cw_k0 (i := 43) (t := 61) (con' := ap_c140) aj_d97 htb hT1012 rfl rfl [_, _] rfl rfl (cw_s0 hB rfl) rfl (Nat.le_of_ble_eq_true rfl) ⟨by decide, by decide⟩ (cw_a1 (by omega) (ap_W_140 htb (cw_SP1c _ _ rfl rfl) cw_hK) hT1012 hB rfl ⟨(cw_gR (cw_s0 hB rfl) (by decide) (by decide)), (cw_full _), (cw_full _), trivial⟩) ?_
            rintro ru1020 h1020 hT1020 ho1020 hRu1020
            have f1021 : cw_F h1020 43 9 7 (.ref (52 + x)) := cw_trF ho1020 (by decide) f1013
            have f1022 : cw_F h1020 43 9 4 (.int dp) := cw_trF ho1020 (by decide) f1014
            have f1023 : cw_F h1020 30 4 4 (.int n) := cw_trF ho1020 (by decide) f1015
            have f1024 : cw_F h1020 30 4 5 (.int x1005) := cw_trF ho1020 (by decide) f1016
            have a1025 : cw_A h1020 31 0 2500 (.inl f) := cw_trA ho1020 (by decide) a1017
            have a1026 : cw_A h1020 34 0 2500 (.inl g) := cw_trA ho1020 (by decide) a1018
            obtain rfl := cw_rN hRu1020
            show cw_W _ _ _ _ _ _ _ _ _ _ 85 lv1007 []
            have eD : D' = D := by
              rw [cw_nst_o (by omega)] at hD'
              exact (Option.some.inj hD').symm
            obtain rfl := eD.symm
            have hq := cw_WQ_eq (s := s) (ho1020.trans (ho1012.trans rfl)) hI hdp f1022 lv9
            refine cw_n aj_d97 rfl rfl ?_
            refine cw_inc aj_d97 rfl hlv1007_2 (a := iv.toInt) rfl (by omega) (by omega) (by decide) (by decide) (fun x1027 ex1027 => ?_)
            obtain ⟨lv1028, elv1028⟩ : ∃ l, l = aj_set1 lv1007 2 (.int x1027) := ⟨_, rfl⟩
            rw [← elv1028]
            have hlv1028_3 : aj_lv lv1028 3 = some (.int (f iv.toInt.toNat)) := cw_e1 elv1028 hlv1007_3 (by decide) (Or.inl (by decide))
            have hlv1028_0 : aj_lv lv1028 0 = some (.ref (52 + 43)) := cw_e1 elv1028 hlv1007_0 (by decide) (Or.inl (by decide))
            have hlv1028_1 : aj_lv lv1028 1 = some (.ref (52 + x)) := cw_e1 elv1028 hlv1007_1 (by decide) (Or.inr rfl)
            have hlv1028_2 : aj_lv lv1028 2 = some (.int x1027) := by rw [elv1028]; exact ak_set1_eq _ _ _
            show cw_W _ _ _ _ _ _ _ _ _ _ 97 lv1028 []
            refine cw_n aj_d97 rfl rfl ?_
            obtain ⟨dp', hS'⟩ := cw_St_nx hx hS hq hD' h0 ex1027
            exact ih hT1020 hS' hlv1028_0 hlv1028_1 hlv1028_2 (by omega) (by omega)
        · have q1008 : (f iv.toInt.toNat).toInt ≥ (210 : Int) := aw_t_lt (a := (f iv.toInt.toNat).toInt) (b := (210 : Int)) rfl rfl q1008
          refine cw_l2 aj_d97 rfl rfl hlv1007_0 ?_
          refine cw_l0 aj_d97 rfl rfl hlv1007_3 ?_
          refine cw_l0 aj_d97 rfl rfl hlv1007_2 ?_
          refine cw_k (i := 43) (con' := cw_nW 98 none) aj_d97 htb hTa rfl rfl [_, _] rfl rfl (cw_cls hTa (cw_s0 hB rfl) rfl) (Nat.le_of_ble_eq_true rfl) ⟨by decide, by decide⟩ (cw_query htb hTa hI (by omega) q1008 hx qx ⟨by omega, by omega⟩ ⟨h0, by omega⟩ fs7 fd hdp hD20 lv9 hZ a34 (fun e => hG _ (by omega) e) hD') ?_
          rintro u ru hu hTu ⟨rfl, hq⟩ hRu -
          show cw_W _ _ _ _ _ _ _ _ _ _ 62 lv1007 []
          refine cw_n aj_d97 rfl rfl ?_
          refine cw_inc aj_d97 rfl hlv1007_2 (a := iv.toInt) rfl (by omega) (by omega) (by decide) (by decide) (fun x1029 ex1029 => ?_)
          obtain ⟨lv1030, elv1030⟩ : ∃ l, l = aj_set1 lv1007 2 (.int x1029) := ⟨_, rfl⟩
          rw [← elv1030]
          have hlv1030_3 : aj_lv lv1030 3 = some (.int (f iv.toInt.toNat)) := cw_e1 elv1030 hlv1007_3 (by decide) (Or.inl (by decide))
          have hlv1030_0 : aj_lv lv1030 0 = some (.ref (52 + 43)) := cw_e1 elv1030 hlv1007_0 (by decide) (Or.inl (by decide))
          have hlv1030_1 : aj_lv lv1030 1 = some (.ref (52 + x)) := cw_e1 elv1030 hlv1007_1 (by decide) (Or.inr rfl)
          have hlv1030_2 : aj_lv lv1030 2 = some (.int x1029) := by rw [elv1030]; exact ak_set1_eq _ _ _
          show cw_W _ _ _ _ _ _ _ _ _ _ 97 lv1030 []
          refine cw_n aj_d97 rfl rfl ?_
          obtain ⟨dp', hS'⟩ := cw_St_nx hx hS hq hD' h0 ex1029
          exact ih hTu hS' hlv1030_0 hlv1030_1 hlv1030_2 (by omega) (by omega)
/-- what is told, worked out -/
theorem cw_work (htb : ak_tbOK ak_C0 tb) (hT : ak_Ty ak_C0 s h) (hI : cw_I cw_XB s h) (hd : 8 ≤ d) (hx : x = 2 ∨ x = 14) (qx : s[x]? = some 59) (hn : n.toInt ≤ 2500) (a31 : cw_A h 31 0 2500 (.inl f)) (a34 : cw_A h 34 0 2500 (.inl g)) (f4 : cw_F h 30 4 4 (.int n)) (hZ : cw_Z False x nt 30 (cw_o h)) (hG : ∀ j : Nat, (j : Int) < n.toInt → (f j).toInt = 210 → 0 ≤ (g j).toInt ∧ (g j).toInt < nt.toInt) : cw_K ak_C0 (fun s' r h' => r = none ∧ cw_I cw_XB s' h') tb d (cw_nW 97 none) [.ref (52 + 43), .ref (52 + x)] s h := by
  obtain ⟨d, rfl⟩ : ∃ e, d = e + 1 := ⟨d - 1, by omega⟩
  have hB := hI.1
  refine cw_m (con := cw_nW 97 none) aj_m97_at (Nat.le_of_ble_eq_true rfl) ?_
  show cw_W _ _ _ _ _ _ _ _ _ _ 0 [(0, .ref (52 + 43)), (1, .ref (52 + x))] []
  refine cw_n aj_d97 rfl rfl ?_
  refine cw_n aj_d97 rfl rfl ?_
  refine cw_p (i := 43) (t := 61) (c := 9) (k := 7) (v := .ref (52 + x)) (y := (.inr (some ([59], true)))) htb aj_d97 rfl rfl hT (cw_s0 hB rfl) rfl rfl rfl (cw_gR qx (by decide) (by decide)) (by decide) rfl rfl (fun hT1031 => ?_)
  obtain ⟨v1032, f1032, g1032⟩ := cw_tyF (i := 43) (t := 61) (c := 9) (k := 7) (y := (.inr (some ([59], true)))) hT (cw_s0 hB rfl) rfl rfl rfl
  have f1033 : cw_F (cw_sf h 43 7 (.ref (52 + x))) 30 4 4 (.int n) := cw_sf_ne f4 (Or.inr (by decide))
  have a1034 : cw_A (cw_sf h 43 7 (.ref (52 + x))) 31 0 2500 (.inl f) := cw_sf_A a31
  have a1035 : cw_A (cw_sf h 43 7 (.ref (52 + x))) 34 0 2500 (.inl g) := cw_sf_A a34
  have f1036 : cw_F (cw_sf h 43 7 (.ref (52 + x))) 43 9 7 (.ref (52 + x)) := cw_sf_same f1032
  obtain ⟨I1, k1⟩ := cw_I_w9T (T := ak_C0) (w := .ref (52 + x)) rfl rfl hT hI (Or.inr rfl) f1032
  have hTW := cw_0W hB hT1031 f1036 qx
  refine cw_W0 ?_
  have htb : ak_tbOK ak_CW tb := htb
  show cw_W _ _ _ _ _ _ _ _ _ _ 5 [(0, .ref (52 + 43)), (1, .ref (52 + x))] []
  refine cw_n aj_d97 rfl rfl ?_
  refine cw_g (i := 43) (v := .ref (52 + x)) htb.1 aj_d97 rfl rfl (by decide) f1036 ?_
  refine cw_k0 (i := x) (t := 59) (con' := ap_c3) aj_d97 htb hTW rfl rfl [] rfl rfl qx rfl (Nat.le_of_ble_eq_true rfl) ⟨by decide, by decide⟩ (cw_a1 (by omega) (ap_W_3 htb (cw_SP1c _ _ rfl rfl) cw_hK) hTW hB rfl ⟨(cw_gR qx (by decide) (by decide)), trivial⟩) ?_
  rintro ru1037 h1037 hT1037 ho1037 hRu1037
  have f1038 : cw_F h1037 30 4 4 (.int n) := cw_trF ho1037 (by decide) f1033
  have f1039 : cw_F h1037 43 9 7 (.ref (52 + x)) := cw_trF ho1037 (by decide) f1036
  have a1040 : cw_A h1037 31 0 2500 (.inl f) := cw_trA ho1037 (by decide) a1034
  have a1041 : cw_A h1037 34 0 2500 (.inl g) := cw_trA ho1037 (by decide) a1035
  obtain rfl := cw_rN hRu1037
  show cw_W _ _ _ _ _ _ _ _ _ _ 12 [(0, .ref (52 + 43)), (1, .ref (52 + x))] []
  refine cw_n aj_d97 rfl rfl ?_
  refine cw_n aj_d97 rfl rfl ?_
  obtain ⟨v1042, f1042, g1042⟩ := cw_tyF (i := 43) (t := 61) (c := 9) (k := 4) (y := (.inl ((-3000), 3000))) hT1037 (cw_s0 hB rfl) rfl rfl rfl
  obtain ⟨x1042, rfl, b1042⟩ := ak_gi g1042
  dsimp only [ak_win] at b1042
  obtain ⟨I3, k3⟩ := cw_I_w9T (T := ak_CW) (w := .int (Int32.ofInt 0)) rfl rfl hT1037 (cw_I_eq (ho1037.trans rfl) I1) (Or.inl rfl) f1042
  refine cw_p (i := 43) (t := 61) (c := 9) (k := 4) (v := .int (Int32.ofInt 0)) (y := (.inl ((-3000), 3000))) htb aj_d97 rfl rfl hT1037 (cw_s0 hB rfl) rfl rfl rfl (cw_gw (a := (0 : Int)) rfl (by omega) (by omega)) (by decide) rfl rfl (fun hT1043 => ?_)
  have f1044 : cw_F (cw_sf h1037 43 4 (.int (Int32.ofInt 0))) 30 4 4 (.int n) := cw_sf_ne f1038 (Or.inl (by decide))
  have f1045 : cw_F (cw_sf h1037 43 4 (.int (Int32.ofInt 0))) 43 9 7 (.ref (52 + x)) := cw_sf_ne f1039 (Or.inr (by decide))
  have a1046 : cw_A (cw_sf h1037 43 4 (.int (Int32.ofInt 0))) 31 0 2500 (.inl f) := cw_sf_A a1040
  have a1047 : cw_A (cw_sf h1037 43 4 (.int (Int32.ofInt 0))) 34 0 2500 (.inl g) := cw_sf_A a1041
  have f1048 : cw_F (cw_sf h1037 43 4 (.int (Int32.ofInt 0))) 43 9 4 (.int (Int32.ofInt 0)) := cw_sf_same f1042
  refine cw_n aj_d97 rfl rfl ?_
  refine cw_n aj_d97 rfl rfl ?_
  show cw_W _ _ _ _ _ _ _ _ _ _ 19 [(2, .int (Int32.ofInt 0)), (0, .ref (52 + 43)), (1, .ref (52 + x))] []
  have hZ3 : cw_Z False x nt 30 (cw_o (cw_sf h1037 43 4 (.int (Int32.ofInt 0)))) := cw_Z_kp k3 (fun z => absurd z.2.1 (by decide)) (fun z => absurd z.2.1 (by decide)) (fun _ _ => id) (cw_sy_n k3 (fun _ _ z => absurd z.2.1 (by decide))) (cw_Z_eq (ho1037.trans rfl) (cw_Z_kp k1 (fun z => absurd z.2.1 (by decide)) (fun z => absurd z.2.1 (by decide)) (fun _ _ => id) (cw_sy_n k1 (fun _ _ z => absurd z.2.1 (by decide))) hZ))
  exact cw_work_l (iv := Int32.ofInt 0) (by omega) htb hx hn hG 2500 hT1043 ⟨I3, qx, f1045, a1046, a1047, f1044, f1048, rfl, (by rw [show (30 : Int) + 8 * (Int32.ofInt 0).toInt = 30 from by decide]; exact hZ3), fun l hl => absurd hl (Nat.not_lt_zero _), rfl⟩ rfl rfl rfl (by decide) (by decide)
end CW81
