/-! ROWS TOLD (printed by wip/p2/ref/r16.py) -/
section ARA16
variable {tb : aj_T} {s : List Nat} {h : aj_H} {S S' S1 S2 : aj_S} {d n : Nat} {g g' : aw_gh} {F A : List Nat} {G : aj_S → Prop} {nm : Int64 → Prop} {fl : Bool} {la ho hu ht q t p : Nat}
theorem aw_findT_res (hG : aw_G (nm, false, la, ho, 0, 0) S) (hJ : aw_tJ S = q + 1) (h1 : ¬ aw_is (aw_tT S) q 4 1 ∧ ¬ aw_is (aw_tT S) q 4 5) {b : Int32} (hf : aw_find231 S (aw_h S) (aw_nm (aw_tF S) (aw_tT S) (q + 1)) b) (hb : 0 ≤ b.toInt) : aw_resT (aw_tF S) (aw_tT S) q := by
  rcases hf with ⟨i, e1, e2, e3⟩ | ⟨e1, -⟩
  · obtain ⟨-, u1, u2⟩ := hG.2.2.2.1.2.1 rfl
    have u1 : (S.2.2.1 7 (aw_h S)).toInt = (aw_tl (aw_tT S) 0 (aw_tJ S)).length := u1
    have e : aw_tl (aw_tT S) 0 (aw_tJ S) = aw_tl (aw_tT S) 0 q := by rw [hJ, aw_tl_1 h1]
    obtain ⟨p, hp⟩ : ∃ p, (aw_tl (aw_tT S) 0 (aw_tJ S))[i]? = some p := ⟨_, List.getElem?_eq_getElem (by omega)⟩
    have u3 := u2 i p hp
    rw [e3] at u3
    refine ⟨p, ?_, u3.symm⟩
    rw [← e]
    exact List.mem_of_getElem? hp
  · omega
theorem aw_resT_find (hG : aw_G (nm, false, la, ho, 0, 0) S) (hJ : aw_tJ S = q + 1) (h1 : ¬ aw_is (aw_tT S) q 4 1 ∧ ¬ aw_is (aw_tT S) q 4 5) {b : Int32} (hf : aw_find231 S (aw_h S) (aw_nm (aw_tF S) (aw_tT S) (q + 1)) b) (hr : aw_resT (aw_tF S) (aw_tT S) q) : 0 ≤ b.toInt := by
  rcases hf with ⟨i, e1, e2, e3⟩ | ⟨e1, e2⟩
  · omega
  · exfalso
    obtain ⟨p, p1, p2⟩ := hr
    obtain ⟨-, u1, u2⟩ := hG.2.2.2.1.2.1 rfl
    have u1 : (S.2.2.1 7 (aw_h S)).toInt = (aw_tl (aw_tT S) 0 (aw_tJ S)).length := u1
    have e : aw_tl (aw_tT S) 0 (aw_tJ S) = aw_tl (aw_tT S) 0 q := by rw [hJ, aw_tl_1 h1]
    rw [← e] at p1
    obtain ⟨i, hi, rfl⟩ := List.getElem_of_mem p1
    refine e2 i (by omega) ?_
    rw [u2 i _ (List.getElem?_eq_getElem hi), p2]
theorem aw_GC_resT (hG : aw_G (nm, fl, la, ho, hu, ht) S) (h32 : (S.1 32).toInt = 1) (hk : (S.1 26).toInt = 4) (hm : (S.1 29).toInt = 2) : aw_resT (aw_tF S) (aw_tT S) (aw_tJ S) := by
  obtain ⟨c1, c2, c3, -⟩ := hG.2.2.1 h32
  have tk := hG.1.2.1
  have c1 : aw_tJ S ≤ la := c1
  have ne : aw_tJ S ≠ la := by
    intro z
    have c2 : ((aw_tT S) la).1 = 0 := c2
    rw [← z, ← tk.1] at c2
    omega
  exact (c3 (aw_tJ S) hG.1.1 (show aw_tJ S < la by omega)).2 ⟨tk.1.symm.trans hk, tk.2.2.2.symm.trans hm⟩
theorem ar_bool01 {x : Int32} (hx : 0 ≤ x.toInt ∧ x.toInt ≤ 1) : x = 0 ∨ x = 1 := by
  rcases (show x.toInt = 0 ∨ x.toInt = 1 by omega) with e | e
  · exact Or.inl (Int32.toInt_inj.mp (by rw [e]; rfl))
  · exact Or.inr (Int32.toInt_inj.mp (by rw [e]; rfl))
theorem ar_row_L353_152 (hU : aw_U tb s h) (hd : 9 ≤ d + 1) (S12 : aj_S) (N150 : Nat) (S34 : aj_S) (x36 : Int32) (x37 : Int32) (x38 : Int32) (x39 : Int32) (ihL150_32 : ∀ (S34 : aj_S) (lv35 : aj_V) (x36 : Int32) (x37 : Int32) (x38 : Int32) (x39 : Int32), (aj_lv lv35 0 = some (.ref 117)) → (aj_lv lv35 1 = some (.int x36)) → (aj_lv lv35 2 = some (.int x37)) → (aj_lv lv35 3 = some (.int x38)) → (aj_lv lv35 4 = some (.int x39)) → (aw_I s h (aw_G (nm, false, la, 0, 0, 0)) S34) → (aw_fr [24, 25, 26, 27, 28, 29, 30, 31, 33, 34, 35, 36, 38, 39, 40, 41, 43, 44] [14, 17, 18, 19, 20, 22] S S34) → ((-1) ≤ x36.toInt ∧ x36.toInt ≤ 9) → ((-1) ≤ x37.toInt ∧ x37.toInt ≤ 19) → (0 ≤ x39.toInt ∧ x39.toInt ≤ 1001) → ((S.1 30).toInt + 1 ≤ (S34.1 30).toInt) → (x37.toInt = (S34.1 37).toInt * 10 + x36.toInt) → (ar_hd ((S34.1 32).toInt = 1 → 0 ≤ x36.toInt)) → (ar_hd (0 ≤ x36.toInt → (S34.2.2.1 9 (x37.toInt).toNat).toInt = 0 → (S34.2.2.1 14 (x37.toInt).toNat).toInt ≤ 29)) → (x39.toInt ≤ (S34.1 30).toInt) → (1001 - (S34.1 30).toInt).toNat < N150 → aw_W tb h d aj_m234 150 lv35 [] S34 ((ar_QB s h [24, 25, 26, 27, 28, 29, 30, 31, 33, 34, 35, 36, 38, 39, 40, 41, 43, 44] [14, 17, 18, 19, 20, 22] S aw_B (fun S' => aw_G (nm, false, la, 0, 0, 0) S' ∧ (S.1 30).toInt + 1 ≤ (S'.1 30).toInt)))) (hm150 : (1001 - (S34.1 30).toInt).toNat < N150 + 1) (S47 : aj_S) (S67 : aj_S) (S103 : aj_S) (S123 : aj_S) (S134 : aj_S) : ∀ (N : Nat) (S154 : aj_S) (lv155 : aj_V) (x156 : Int32) (x157 : Int32) (x158 : Int32) (x159 : Int32), (aj_lv lv155 0 = some (.ref 117)) → (aj_lv lv155 1 = some (.int x156)) → (aj_lv lv155 2 = some (.int x157)) → (aj_lv lv155 6 = some (.int x158)) → (aj_lv lv155 7 = some (.int x159)) → (aw_I s h (aw_G (nm, false, la, 0, 0, 0)) S154) → (aw_fr [24, 25, 26, 27, 28, 29, 30, 31, 33, 34, 35, 36, 38, 39, 40, 41, 43, 44] [14, 17, 18, 19, 20, 22] S S154) → ((-1) ≤ x156.toInt ∧ x156.toInt ≤ 9) → ((-1) ≤ x157.toInt ∧ x157.toInt ≤ 19) → (0 ≤ x158.toInt ∧ x158.toInt ≤ 1) → (0 ≤ x159.toInt ∧ x159.toInt ≤ 1024) → ((S.1 30).toInt + 1 ≤ (S154.1 30).toInt) → (x157.toInt = (S154.1 37).toInt * 10 + x156.toInt) → (ar_hd ((S154.1 32).toInt = 1 → 0 ≤ x156.toInt)) → (ar_hd (0 ≤ x156.toInt → (S154.2.2.1 9 (x157.toInt).toNat).toInt = 0 → (S154.2.2.1 14 (x157.toInt).toNat).toInt ≤ 29)) → (1024 - x159.toInt).toNat < N → aw_W tb h d aj_m234 353 lv155 [] S154 ((ar_QB s h [24, 25, 26, 27, 28, 29, 30, 31, 33, 34, 35, 36, 38, 39, 40, 41, 43, 44] [14, 17, 18, 19, 20, 22] S aw_B (fun S' => aw_G (nm, false, la, 0, 0, 0) S' ∧ (S.1 30).toInt + 1 ≤ (S'.1 30).toInt))) := by
  have hs : aw_sT s := aw_hy_sT hU.2.2
  intro N353
  induction N353 with
  | zero =>
    intro S154 lv155 x156 x157 x158 x159 hlv155_0 hlv155_1 hlv155_2 hlv155_6 hlv155_7 hI160 fr161 bx156 bx157 bx158 bx159 ck353 sl353 wk353 rw353 hm353
    omega
  | succ N353 ihL353_152 =>
    intro S154 lv155 x156 x157 x158 x159 hlv155_0 hlv155_1 hlv155_2 hlv155_6 hlv155_7 hI160 fr161 bx156 bx157 bx158 bx159 ck353 sl353 wk353 rw353 hm353
    have hI162 : aw_I s h (aw_sm S154) S154 := ⟨hI160.1, aw_sm_rf⟩
    have b163 : 0 ≤ (S154.1 30).toInt ∧ (S154.1 30).toInt ≤ 1001 := aw_bd_f hs (hI162).1 (by decide) rfl
    have b164 : 0 ≤ (S154.1 37).toInt ∧ (S154.1 37).toInt ≤ 1 := aw_bd_f hs (hI162).1 (by decide) rfl
    have b165 : 0 ≤ (S154.1 32).toInt ∧ (S154.1 32).toInt ≤ 1 := aw_bd_f hs (hI162).1 (by decide) rfl
    refine aw_l2 aj_d234 rfl rfl hlv155_0 ?_
    refine aw_g hU.1 aj_d234 rfl rfl (by decide) (v := .int (S154.1 32)) rfl ?_
    refine aw_z (tgt := 423) aj_d234 rfl rfl (fun q166 => ?_) (fun q166 => ?_)
    · have q166 : (S154.1 32).toInt = (0 : Int) := aw_t_eq (a := (S154.1 32).toInt) (b := (0 : Int)) rfl rfl q166
      refine aw_l0 aj_d234 rfl rfl hlv155_1 ?_
      refine aw_z (tgt := 446) aj_d234 rfl rfl (fun q167 => ?_) (fun q167 => ?_)
      · have q167 : x156.toInt < (0 : Int) := aw_t_lt (a := x156.toInt) (b := (0 : Int)) rfl rfl q167
        refine aw_n aj_d234 rfl rfl ?_
        refine aw_e aj_d234 rfl rfl ?_
        exact ⟨(hI162).1, fr161, Or.inr ⟨_, rfl, rfl, hI160.2, (show _ + 1 ≤ ((S154.1 30)).toInt by omega)⟩⟩
      · have q167 : x156.toInt ≥ (0 : Int) := aw_t_lt (a := x156.toInt) (b := (0 : Int)) rfl rfl q167
        refine aw_l2 aj_d234 rfl rfl hlv155_0 ?_
        refine aw_g hU.1 aj_d234 rfl rfl (by decide) (v := .ref 126) rfl ?_
        refine aw_l0 aj_d234 rfl rfl hlv155_2 ?_
        refine aw_ld (k := 9) hU.1 aj_d234 (Or.inr (Or.inr (Or.inl ⟨rfl, rfl⟩))) rfl (by decide) (by decide) rfl (a := x157.toInt) rfl (by omega) (by omega) (fun x168 ex168 => ?_)
        have bx168 : 0 ≤ x168.toInt ∧ x168.toInt ≤ 1 := by
          rw [ex168]
          exact aw_bd_a hs (hI162).1 (k := 9) (by decide) (by decide) rfl (by decide) rfl (by omega)
        have ftx168 : x168.toInt = (S154.2.2.1 9 (x157.toInt).toNat).toInt := congrArg Int32.toInt (ex168.trans (congrFun rfl _))
        refine aw_z (tgt := 446) aj_d234 rfl rfl (fun q169 => ?_) (fun q169 => ?_)
        · have q169 : x168.toInt ≠ (0 : Int) := aw_t_ne (a := x168.toInt) (b := (0 : Int)) rfl rfl q169
          refine aw_n aj_d234 rfl rfl ?_
          refine aw_e aj_d234 rfl rfl ?_
          exact ⟨(hI162).1, fr161, Or.inr ⟨_, rfl, rfl, hI160.2, (show _ + 1 ≤ ((S154.1 30)).toInt by omega)⟩⟩
        · have q169 : x168.toInt = (0 : Int) := aw_t_ne (a := x168.toInt) (b := (0 : Int)) rfl rfl q169
          refine aw_l2 aj_d234 rfl rfl hlv155_0 ?_
          refine aw_g hU.1 aj_d234 rfl rfl (by decide) (v := .ref 131) rfl ?_
          refine aw_l0 aj_d234 rfl rfl hlv155_2 ?_
          refine aw_n aj_d234 rfl rfl ?_
          refine aw_ld (k := 14) hU.1 aj_d234 (Or.inl ⟨rfl, rfl⟩) rfl (by decide) (by decide) rfl (a := x157.toInt) rfl (by omega) (by omega) (fun x170 ex170 => ?_)
          have bx170 : 0 ≤ x170.toInt ∧ x170.toInt ≤ 30 := by
            rw [ex170]
            exact aw_bd_a hs (hI162).1 (k := 14) (by decide) (by decide) rfl (by decide) rfl (by omega)
          have ftx170 : x170.toInt = (S154.2.2.1 14 (x157.toInt).toNat).toInt := congrArg Int32.toInt (ex170.trans (congrFun rfl _))
          have ur := ar_un rw353 (by omega) (by omega)
          refine aw_n aj_d234 rfl rfl ?_
          refine aw_add aj_d234 rfl (a := x170.toInt) (b := (1 : Int)) rfl rfl (by omega) (by omega) (fun x171 ex171 => ?_)
          refine aw_st (k := 14) hU.1 aj_d234 (Or.inl ⟨rfl, rfl⟩) rfl (by decide) (by decide) rfl (a := x157.toInt) rfl (by omega) (by omega) ?_
          have hI172 := aw_I_a (aw_UV hU aw_Gs_sm) (k := 14) (j := (x157.toInt).toNat) (v := aj_nar 0 x171) hI162 (by decide) (by decide) (by decide) rfl (by decide) (by decide) rfl (aw_bp (a := x171.toInt) rfl (by omega) (by omega))
          have fr173 := aw_fr_a (k := 14) (j := (x157.toInt).toNat) (v := aj_nar 0 x171) (by decide) fr161
          refine aw_n aj_d234 rfl rfl ?_
          refine aw_e aj_d234 rfl rfl ?_
          exact ⟨(hI172).1, fr173, Or.inr ⟨_, rfl, rfl, (aw_G_sm hI172.2 hI160.2), (show _ + 1 ≤ ((S154.1 30)).toInt by omega)⟩⟩
    · have q166 : (S154.1 32).toInt ≠ (0 : Int) := aw_t_eq (a := (S154.1 32).toInt) (b := (0 : Int)) rfl rfl q166
      refine aw_l0 aj_d234 rfl rfl hlv155_7 ?_
      refine aw_l2 aj_d234 rfl rfl hlv155_0 ?_
      refine aw_g hU.1 aj_d234 rfl rfl (by decide) (v := .ref 122) rfl ?_
      refine aw_l2 aj_d234 rfl rfl hlv155_0 ?_
      refine aw_g hU.1 aj_d234 rfl rfl (by decide) (v := .int (S154.1 37)) rfl ?_
      refine aw_ld (k := 5) hU.1 aj_d234 (Or.inl ⟨rfl, rfl⟩) rfl (by decide) (by decide) rfl (a := (S154.1 37).toInt) rfl (by omega) (by omega) (fun x174 ex174 => ?_)
      have bx174 : 0 ≤ x174.toInt ∧ x174.toInt ≤ 1024 := by
        rw [ex174]
        exact aw_bd_a hs (hI162).1 (k := 5) (by decide) (by decide) rfl (by decide) rfl (by omega)
      refine aw_c (tgt := 423) aj_d234 rfl rfl (fun q175 => ?_) (fun q175 => ?_)
      · have q175 : x159.toInt ≥ x174.toInt := aw_t_ge (a := x159.toInt) (b := x174.toInt) rfl rfl q175
        refine aw_l0 aj_d234 rfl rfl hlv155_1 ?_
        refine aw_z (tgt := 446) aj_d234 rfl rfl (fun q176 => ?_) (fun q176 => ?_)
        · have q176 : x156.toInt < (0 : Int) := aw_t_lt (a := x156.toInt) (b := (0 : Int)) rfl rfl q176
          refine aw_n aj_d234 rfl rfl ?_
          refine aw_e aj_d234 rfl rfl ?_
          exact ⟨(hI162).1, fr161, Or.inr ⟨_, rfl, rfl, hI160.2, (show _ + 1 ≤ ((S154.1 30)).toInt by omega)⟩⟩
        · have q176 : x156.toInt ≥ (0 : Int) := aw_t_lt (a := x156.toInt) (b := (0 : Int)) rfl rfl q176
          refine aw_l2 aj_d234 rfl rfl hlv155_0 ?_
          refine aw_g hU.1 aj_d234 rfl rfl (by decide) (v := .ref 126) rfl ?_
          refine aw_l0 aj_d234 rfl rfl hlv155_2 ?_
          refine aw_ld (k := 9) hU.1 aj_d234 (Or.inr (Or.inr (Or.inl ⟨rfl, rfl⟩))) rfl (by decide) (by decide) rfl (a := x157.toInt) rfl (by omega) (by omega) (fun x177 ex177 => ?_)
          have bx177 : 0 ≤ x177.toInt ∧ x177.toInt ≤ 1 := by
            rw [ex177]
            exact aw_bd_a hs (hI162).1 (k := 9) (by decide) (by decide) rfl (by decide) rfl (by omega)
          have ftx177 : x177.toInt = (S154.2.2.1 9 (x157.toInt).toNat).toInt := congrArg Int32.toInt (ex177.trans (congrFun rfl _))
          refine aw_z (tgt := 446) aj_d234 rfl rfl (fun q178 => ?_) (fun q178 => ?_)
          · have q178 : x177.toInt ≠ (0 : Int) := aw_t_ne (a := x177.toInt) (b := (0 : Int)) rfl rfl q178
            refine aw_n aj_d234 rfl rfl ?_
            refine aw_e aj_d234 rfl rfl ?_
            exact ⟨(hI162).1, fr161, Or.inr ⟨_, rfl, rfl, hI160.2, (show _ + 1 ≤ ((S154.1 30)).toInt by omega)⟩⟩
          · have q178 : x177.toInt = (0 : Int) := aw_t_ne (a := x177.toInt) (b := (0 : Int)) rfl rfl q178
            refine aw_l2 aj_d234 rfl rfl hlv155_0 ?_
            refine aw_g hU.1 aj_d234 rfl rfl (by decide) (v := .ref 131) rfl ?_
            refine aw_l0 aj_d234 rfl rfl hlv155_2 ?_
            refine aw_n aj_d234 rfl rfl ?_
            refine aw_ld (k := 14) hU.1 aj_d234 (Or.inl ⟨rfl, rfl⟩) rfl (by decide) (by decide) rfl (a := x157.toInt) rfl (by omega) (by omega) (fun x179 ex179 => ?_)
            have bx179 : 0 ≤ x179.toInt ∧ x179.toInt ≤ 30 := by
              rw [ex179]
              exact aw_bd_a hs (hI162).1 (k := 14) (by decide) (by decide) rfl (by decide) rfl (by omega)
            have ftx179 : x179.toInt = (S154.2.2.1 14 (x157.toInt).toNat).toInt := congrArg Int32.toInt (ex179.trans (congrFun rfl _))
            have ur := ar_un rw353 (by omega) (by omega)
            refine aw_n aj_d234 rfl rfl ?_
            refine aw_add aj_d234 rfl (a := x179.toInt) (b := (1 : Int)) rfl rfl (by omega) (by omega) (fun x180 ex180 => ?_)
            refine aw_st (k := 14) hU.1 aj_d234 (Or.inl ⟨rfl, rfl⟩) rfl (by decide) (by decide) rfl (a := x157.toInt) rfl (by omega) (by omega) ?_
            have hI181 := aw_I_a (aw_UV hU aw_Gs_sm) (k := 14) (j := (x157.toInt).toNat) (v := aj_nar 0 x180) hI162 (by decide) (by decide) (by decide) rfl (by decide) (by decide) rfl (aw_bp (a := x180.toInt) rfl (by omega) (by omega))
            have fr182 := aw_fr_a (k := 14) (j := (x157.toInt).toNat) (v := aj_nar 0 x180) (by decide) fr161
            refine aw_n aj_d234 rfl rfl ?_
            refine aw_e aj_d234 rfl rfl ?_
            exact ⟨(hI181).1, fr182, Or.inr ⟨_, rfl, rfl, (aw_G_sm hI181.2 hI160.2), (show _ + 1 ≤ ((S154.1 30)).toInt by omega)⟩⟩
      · have q175 : x159.toInt < x174.toInt := aw_t_ge (a := x159.toInt) (b := x174.toInt) rfl rfl q175
        have uw := ar_un wk353 (show ((S154.1 32)).toInt = 1 by omega)
        refine aw_l2 aj_d234 rfl rfl hlv155_0 ?_
        refine aw_g hU.1 aj_d234 rfl rfl (by decide) (v := .ref 136) rfl ?_
        refine aw_l2 aj_d234 rfl rfl hlv155_0 ?_
        refine aw_l0 aj_d234 rfl rfl hlv155_2 ?_
        refine aw_l2 aj_d234 rfl rfl hlv155_0 ?_
        refine aw_g hU.1 aj_d234 rfl rfl (by decide) (v := .ref 131) rfl ?_
        refine aw_l0 aj_d234 rfl rfl hlv155_2 ?_
        refine aw_ld (k := 14) hU.1 aj_d234 (Or.inl ⟨rfl, rfl⟩) rfl (by decide) (by decide) rfl (a := x157.toInt) rfl (by omega) (by omega) (fun x183 ex183 => ?_)
        have bx183 : 0 ≤ x183.toInt ∧ x183.toInt ≤ 30 := by
          rw [ex183]
          exact aw_bd_a hs (hI162).1 (k := 14) (by decide) (by decide) rfl (by decide) rfl (by omega)
        have ftx183 : x183.toInt = (S154.2.2.1 14 (x157.toInt).toNat).toInt := congrArg Int32.toInt (ex183.trans (congrFun rfl _))
        refine aw_k hU.1 aj_d234 rfl rfl [_, _] rfl rfl rfl (Nat.le_of_ble_eq_true rfl) (ar_at (by omega) (a := x157.toInt) (b := x183.toInt) rfl rfl (by omega) (by omega)) ?_
        rintro _ zx184 ⟨fx184, x184, rfl, ex184⟩
        rw [fx184]
        show aw_W _ _ _ _ 389 lv155 [.int x184, .ref 136] _ _
        refine aw_l0 aj_d234 rfl rfl hlv155_7 ?_
        refine aw_l0 aj_d234 rfl rfl hlv155_6 ?_
        refine aw_z (tgt := 409) aj_d234 rfl rfl (fun q185 => ?_) (fun q185 => ?_)
        · have q185 : x158.toInt = (0 : Int) := aw_t_eq (a := x158.toInt) (b := (0 : Int)) rfl rfl q185
          refine aw_n aj_d234 rfl rfl ?_
          refine aw_n aj_d234 rfl rfl ?_
          refine aw_ks aj_d234 rfl rfl rfl [_, _, _, _] rfl rfl (Nat.le_of_ble_eq_true rfl) (ar_put hU (hI162).1 (by omega) (k := 19) (n := 48000) (by decide) (by decide) rfl rfl (a := ((x157.toInt * 30 + x183.toInt) * 32)) (b := x159.toInt) ex184 rfl (by omega) (by omega) (by omega) (by decide)) ?_
          rintro _ S186 ⟨hT186, fc186, rfl, pe186⟩
          have fr187 := aw_fr_tr fr161 (aw_fr_sub (F := []) (A := [19]) (by decide) (by decide) fc186)
          have hI188 : aw_I s h (aw_sm S154) S186 := ⟨hT186, aw_sm_tr hI162.2 (aw_fr_sm (by decide) (by decide) (by decide) (F := []) (A := [19]) fc186)⟩
          show aw_W _ _ _ _ 417 lv155 [] _ _
          refine aw_inc aj_d234 rfl hlv155_7 (a := x159.toInt) rfl (by omega) (by omega) (by decide) (by decide) (fun x189 ex189 => ?_)
          obtain ⟨lv190, elv190⟩ : ∃ l, l = aj_set1 lv155 7 (.int x189) := ⟨_, rfl⟩
          rw [← elv190]
          have hlv190_0 : aj_lv lv190 0 = some (.ref 117) := cw_e1 elv190 hlv155_0 (by decide) (Or.inl (by decide))
          have hlv190_1 : aj_lv lv190 1 = some (.int x156) := cw_e1 elv190 hlv155_1 (by decide) (Or.inl (by decide))
          have hlv190_2 : aj_lv lv190 2 = some (.int x157) := cw_e1 elv190 hlv155_2 (by decide) (Or.inl (by decide))
          have hlv190_6 : aj_lv lv190 6 = some (.int x158) := cw_e1 elv190 hlv155_6 (by decide) (Or.inr rfl)
          have hlv190_7 : aj_lv lv190 7 = some (.int x189) := by rw [elv190]; exact ak_set1_eq _ _ _
          show aw_W _ _ _ _ 420 lv190 [] _ _
          refine aw_n aj_d234 rfl rfl ?_
          have c191 : (S186.1 30).toInt = (S154.1 30).toInt := (congrArg Int32.toInt (fc186.1 30 (by decide)).1).trans rfl
          have b192 : 0 ≤ (S186.1 30).toInt ∧ (S186.1 30).toInt ≤ 1001 := aw_bd_f hs (hI188).1 (by decide) rfl
          have c193 : (S186.1 37).toInt = (S154.1 37).toInt := (congrArg Int32.toInt (fc186.1 37 (by decide)).1).trans rfl
          have b194 : 0 ≤ (S186.1 37).toInt ∧ (S186.1 37).toInt ≤ 1 := aw_bd_f hs (hI188).1 (by decide) rfl
          have c195 : (S186.1 32).toInt = (S154.1 32).toInt := (congrArg Int32.toInt (fc186.1 32 (by decide)).1).trans rfl
          have b196 : 0 ≤ (S186.1 32).toInt ∧ (S186.1 32).toInt ≤ 1 := aw_bd_f hs (hI188).1 (by decide) rfl
          exact ihL353_152 S186 lv190 (x156) (x157) (x158) (x189) hlv190_0 hlv190_1 hlv190_2 hlv190_6 hlv190_7 ⟨(hI188).1, (aw_G_sm hI188.2 hI160.2)⟩ fr187 (by omega) (by omega) (by omega) (by omega) (show _ ≤ ((S186.1 30)).toInt by omega) (show _ = ((S186.1 37)).toInt * 10 + _ by omega) (ar_mk (fun z => ar_un wk353 (by have z : ((S186.1 32)).toInt = 1 := z; show ((S154.1 32)).toInt = 1; omega))) (ar_mk (fun z0 z1 => by rw [show (S186.2.2.1 14) = S154.2.2.1 14 from ((fc186.2 14 (by decide)).1.trans rfl)]; rw [show (S186.2.2.1 9) = S154.2.2.1 9 from ((fc186.2 9 (by decide)).1.trans rfl)] at z1; exact ar_un rw353 z0 z1)) (by omega)
        · have q185 : x158.toInt ≠ (0 : Int) := aw_t_eq (a := x158.toInt) (b := (0 : Int)) rfl rfl q185
          refine aw_l2 aj_d234 rfl rfl hlv155_0 ?_
          refine aw_g hU.1 aj_d234 rfl rfl (by decide) (v := .ref 137) rfl ?_
          refine aw_n aj_d234 rfl rfl ?_
          refine aw_l0 aj_d234 rfl rfl hlv155_7 ?_
          refine aw_ks aj_d234 rfl rfl rfl [_, _, _] rfl rfl (Nat.le_of_ble_eq_true rfl) (ar_bit hU (by omega) (k := 20) (n := 1024) (by decide) (by decide) rfl (a := (0 : Int)) (b := x159.toInt) rfl rfl (by omega) (by omega) (by omega) (by decide)) ?_
          rintro _ zx197 ⟨fx197, x197, rfl, hx197, ex197⟩
          rw [fx197]
          show aw_W _ _ _ _ 406 lv155 [.int x197, .int x159, .int x184, .ref 136] _ _
          refine aw_z (tgt := 413) aj_d234 rfl rfl (fun q198 => ?_) (fun q198 => ?_)
          · have q198 : x197.toInt = (0 : Int) := aw_t_eq (a := x197.toInt) (b := (0 : Int)) rfl rfl q198
            refine aw_n aj_d234 rfl rfl ?_
            refine aw_ks aj_d234 rfl rfl rfl [_, _, _, _] rfl rfl (Nat.le_of_ble_eq_true rfl) (ar_put hU (hI162).1 (by omega) (k := 19) (n := 48000) (by decide) (by decide) rfl rfl (a := ((x157.toInt * 30 + x183.toInt) * 32)) (b := x159.toInt) ex184 rfl (by omega) (by omega) (by omega) (by decide)) ?_
            rintro _ S199 ⟨hT199, fc199, rfl, pe199⟩
            have fr200 := aw_fr_tr fr161 (aw_fr_sub (F := []) (A := [19]) (by decide) (by decide) fc199)
            have hI201 : aw_I s h (aw_sm S154) S199 := ⟨hT199, aw_sm_tr hI162.2 (aw_fr_sm (by decide) (by decide) (by decide) (F := []) (A := [19]) fc199)⟩
            show aw_W _ _ _ _ 417 lv155 [] _ _
            refine aw_inc aj_d234 rfl hlv155_7 (a := x159.toInt) rfl (by omega) (by omega) (by decide) (by decide) (fun x202 ex202 => ?_)
            obtain ⟨lv203, elv203⟩ : ∃ l, l = aj_set1 lv155 7 (.int x202) := ⟨_, rfl⟩
            rw [← elv203]
            have hlv203_0 : aj_lv lv203 0 = some (.ref 117) := cw_e1 elv203 hlv155_0 (by decide) (Or.inl (by decide))
            have hlv203_1 : aj_lv lv203 1 = some (.int x156) := cw_e1 elv203 hlv155_1 (by decide) (Or.inl (by decide))
            have hlv203_2 : aj_lv lv203 2 = some (.int x157) := cw_e1 elv203 hlv155_2 (by decide) (Or.inl (by decide))
            have hlv203_6 : aj_lv lv203 6 = some (.int x158) := cw_e1 elv203 hlv155_6 (by decide) (Or.inr rfl)
            have hlv203_7 : aj_lv lv203 7 = some (.int x202) := by rw [elv203]; exact ak_set1_eq _ _ _
            show aw_W _ _ _ _ 420 lv203 [] _ _
            refine aw_n aj_d234 rfl rfl ?_
            have c204 : (S199.1 30).toInt = (S154.1 30).toInt := (congrArg Int32.toInt (fc199.1 30 (by decide)).1).trans rfl
            have b205 : 0 ≤ (S199.1 30).toInt ∧ (S199.1 30).toInt ≤ 1001 := aw_bd_f hs (hI201).1 (by decide) rfl
            have c206 : (S199.1 37).toInt = (S154.1 37).toInt := (congrArg Int32.toInt (fc199.1 37 (by decide)).1).trans rfl
            have b207 : 0 ≤ (S199.1 37).toInt ∧ (S199.1 37).toInt ≤ 1 := aw_bd_f hs (hI201).1 (by decide) rfl
            have c208 : (S199.1 32).toInt = (S154.1 32).toInt := (congrArg Int32.toInt (fc199.1 32 (by decide)).1).trans rfl
            have b209 : 0 ≤ (S199.1 32).toInt ∧ (S199.1 32).toInt ≤ 1 := aw_bd_f hs (hI201).1 (by decide) rfl
            exact ihL353_152 S199 lv203 (x156) (x157) (x158) (x202) hlv203_0 hlv203_1 hlv203_2 hlv203_6 hlv203_7 ⟨(hI201).1, (aw_G_sm hI201.2 hI160.2)⟩ fr200 (by omega) (by omega) (by omega) (by omega) (show _ ≤ ((S199.1 30)).toInt by omega) (show _ = ((S199.1 37)).toInt * 10 + _ by omega) (ar_mk (fun z => ar_un wk353 (by have z : ((S199.1 32)).toInt = 1 := z; show ((S154.1 32)).toInt = 1; omega))) (ar_mk (fun z0 z1 => by rw [show (S199.2.2.1 14) = S154.2.2.1 14 from ((fc199.2 14 (by decide)).1.trans rfl)]; rw [show (S199.2.2.1 9) = S154.2.2.1 9 from ((fc199.2 9 (by decide)).1.trans rfl)] at z1; exact ar_un rw353 z0 z1)) (by omega)
          · have q198 : x197.toInt ≠ (0 : Int) := aw_t_eq (a := x197.toInt) (b := (0 : Int)) rfl rfl q198
            refine aw_n aj_d234 rfl rfl ?_
            refine aw_n aj_d234 rfl rfl ?_
            refine aw_ks aj_d234 rfl rfl rfl [_, _, _, _] rfl rfl (Nat.le_of_ble_eq_true rfl) (ar_put hU (hI162).1 (by omega) (k := 19) (n := 48000) (by decide) (by decide) rfl rfl (a := ((x157.toInt * 30 + x183.toInt) * 32)) (b := x159.toInt) ex184 rfl (by omega) (by omega) (by omega) (by decide)) ?_
            rintro _ S210 ⟨hT210, fc210, rfl, pe210⟩
            have fr211 := aw_fr_tr fr161 (aw_fr_sub (F := []) (A := [19]) (by decide) (by decide) fc210)
            have hI212 : aw_I s h (aw_sm S154) S210 := ⟨hT210, aw_sm_tr hI162.2 (aw_fr_sm (by decide) (by decide) (by decide) (F := []) (A := [19]) fc210)⟩
            show aw_W _ _ _ _ 417 lv155 [] _ _
            refine aw_inc aj_d234 rfl hlv155_7 (a := x159.toInt) rfl (by omega) (by omega) (by decide) (by decide) (fun x213 ex213 => ?_)
            obtain ⟨lv214, elv214⟩ : ∃ l, l = aj_set1 lv155 7 (.int x213) := ⟨_, rfl⟩
            rw [← elv214]
            have hlv214_0 : aj_lv lv214 0 = some (.ref 117) := cw_e1 elv214 hlv155_0 (by decide) (Or.inl (by decide))
            have hlv214_1 : aj_lv lv214 1 = some (.int x156) := cw_e1 elv214 hlv155_1 (by decide) (Or.inl (by decide))
            have hlv214_2 : aj_lv lv214 2 = some (.int x157) := cw_e1 elv214 hlv155_2 (by decide) (Or.inl (by decide))
            have hlv214_6 : aj_lv lv214 6 = some (.int x158) := cw_e1 elv214 hlv155_6 (by decide) (Or.inr rfl)
            have hlv214_7 : aj_lv lv214 7 = some (.int x213) := by rw [elv214]; exact ak_set1_eq _ _ _
            show aw_W _ _ _ _ 420 lv214 [] _ _
            refine aw_n aj_d234 rfl rfl ?_
            have c215 : (S210.1 30).toInt = (S154.1 30).toInt := (congrArg Int32.toInt (fc210.1 30 (by decide)).1).trans rfl
            have b216 : 0 ≤ (S210.1 30).toInt ∧ (S210.1 30).toInt ≤ 1001 := aw_bd_f hs (hI212).1 (by decide) rfl
            have c217 : (S210.1 37).toInt = (S154.1 37).toInt := (congrArg Int32.toInt (fc210.1 37 (by decide)).1).trans rfl
            have b218 : 0 ≤ (S210.1 37).toInt ∧ (S210.1 37).toInt ≤ 1 := aw_bd_f hs (hI212).1 (by decide) rfl
            have c219 : (S210.1 32).toInt = (S154.1 32).toInt := (congrArg Int32.toInt (fc210.1 32 (by decide)).1).trans rfl
            have b220 : 0 ≤ (S210.1 32).toInt ∧ (S210.1 32).toInt ≤ 1 := aw_bd_f hs (hI212).1 (by decide) rfl
            exact ihL353_152 S210 lv214 (x156) (x157) (x158) (x213) hlv214_0 hlv214_1 hlv214_2 hlv214_6 hlv214_7 ⟨(hI212).1, (aw_G_sm hI212.2 hI160.2)⟩ fr211 (by omega) (by omega) (by omega) (by omega) (show _ ≤ ((S210.1 30)).toInt by omega) (show _ = ((S210.1 37)).toInt * 10 + _ by omega) (ar_mk (fun z => ar_un wk353 (by have z : ((S210.1 32)).toInt = 1 := z; show ((S154.1 32)).toInt = 1; omega))) (ar_mk (fun z0 z1 => by rw [show (S210.2.2.1 14) = S154.2.2.1 14 from ((fc210.2 14 (by decide)).1.trans rfl)]; rw [show (S210.2.2.1 9) = S154.2.2.1 9 from ((fc210.2 9 (by decide)).1.trans rfl)] at z1; exact ar_un rw353 z0 z1)) (by omega)
theorem ar_row_L339_132 (hU : aw_U tb s h) (hd : 9 ≤ d + 1) (S12 : aj_S) (N150 : Nat) (S34 : aj_S) (x36 : Int32) (x37 : Int32) (x38 : Int32) (x39 : Int32) (ihL150_32 : ∀ (S34 : aj_S) (lv35 : aj_V) (x36 : Int32) (x37 : Int32) (x38 : Int32) (x39 : Int32), (aj_lv lv35 0 = some (.ref 117)) → (aj_lv lv35 1 = some (.int x36)) → (aj_lv lv35 2 = some (.int x37)) → (aj_lv lv35 3 = some (.int x38)) → (aj_lv lv35 4 = some (.int x39)) → (aw_I s h (aw_G (nm, false, la, 0, 0, 0)) S34) → (aw_fr [24, 25, 26, 27, 28, 29, 30, 31, 33, 34, 35, 36, 38, 39, 40, 41, 43, 44] [14, 17, 18, 19, 20, 22] S S34) → ((-1) ≤ x36.toInt ∧ x36.toInt ≤ 9) → ((-1) ≤ x37.toInt ∧ x37.toInt ≤ 19) → (0 ≤ x39.toInt ∧ x39.toInt ≤ 1001) → ((S.1 30).toInt + 1 ≤ (S34.1 30).toInt) → (x37.toInt = (S34.1 37).toInt * 10 + x36.toInt) → (ar_hd ((S34.1 32).toInt = 1 → 0 ≤ x36.toInt)) → (ar_hd (0 ≤ x36.toInt → (S34.2.2.1 9 (x37.toInt).toNat).toInt = 0 → (S34.2.2.1 14 (x37.toInt).toNat).toInt ≤ 29)) → (x39.toInt ≤ (S34.1 30).toInt) → (1001 - (S34.1 30).toInt).toNat < N150 → aw_W tb h d aj_m234 150 lv35 [] S34 ((ar_QB s h [24, 25, 26, 27, 28, 29, 30, 31, 33, 34, 35, 36, 38, 39, 40, 41, 43, 44] [14, 17, 18, 19, 20, 22] S aw_B (fun S' => aw_G (nm, false, la, 0, 0, 0) S' ∧ (S.1 30).toInt + 1 ≤ (S'.1 30).toInt)))) (hm150 : (1001 - (S34.1 30).toInt).toNat < N150 + 1) (S47 : aj_S) (S67 : aj_S) (S103 : aj_S) (S123 : aj_S) : ∀ (S134 : aj_S) (lv135 : aj_V) (x136 : Int32) (x137 : Int32) (x138 : Int32), (aj_lv lv135 0 = some (.ref 117)) → (aj_lv lv135 1 = some (.int x136)) → (aj_lv lv135 2 = some (.int x137)) → (aj_lv lv135 6 = some (.int x138)) → (aw_I s h (aw_G (nm, false, la, 0, 0, 0)) S134) → (aw_fr [24, 25, 26, 27, 28, 29, 30, 31, 33, 34, 35, 36, 38, 39, 40, 41, 43, 44] [14, 17, 18, 19, 20, 22] S S134) → ((-1) ≤ x136.toInt ∧ x136.toInt ≤ 9) → ((-1) ≤ x137.toInt ∧ x137.toInt ≤ 19) → (0 ≤ x138.toInt ∧ x138.toInt ≤ 1) → ((S.1 30).toInt + 1 ≤ (S134.1 30).toInt) → (x137.toInt = (S134.1 37).toInt * 10 + x136.toInt) → (ar_hd ((S134.1 32).toInt = 1 → 0 ≤ x136.toInt)) → (ar_hd (0 ≤ x136.toInt → (S134.2.2.1 9 (x137.toInt).toNat).toInt = 0 → (S134.2.2.1 14 (x137.toInt).toNat).toInt ≤ 29)) → aw_W tb h d aj_m234 339 lv135 [] S134 ((ar_QB s h [24, 25, 26, 27, 28, 29, 30, 31, 33, 34, 35, 36, 38, 39, 40, 41, 43, 44] [14, 17, 18, 19, 20, 22] S aw_B (fun S' => aw_G (nm, false, la, 0, 0, 0) S' ∧ (S.1 30).toInt + 1 ≤ (S'.1 30).toInt))) := by
  have hs : aw_sT s := aw_hy_sT hU.2.2
  intro S134 lv135 x136 x137 x138 hlv135_0 hlv135_1 hlv135_2 hlv135_6 hI139 fr140 bx136 bx137 bx138 ck339 sl339 wk339 rw339
  have hI141 : aw_I s h (aw_sm S134) S134 := ⟨hI139.1, aw_sm_rf⟩
  have b142 : 0 ≤ (S134.1 30).toInt ∧ (S134.1 30).toInt ≤ 1001 := aw_bd_f hs (hI141).1 (by decide) rfl
  have b143 : 0 ≤ (S134.1 37).toInt ∧ (S134.1 37).toInt ≤ 1 := aw_bd_f hs (hI141).1 (by decide) rfl
  have b144 : 0 ≤ (S134.1 32).toInt ∧ (S134.1 32).toInt ≤ 1 := aw_bd_f hs (hI141).1 (by decide) rfl
  refine aw_l2 aj_d234 rfl rfl hlv135_0 ?_
  refine aw_n aj_d234 rfl rfl ?_
  refine aw_k hU.1 aj_d234 rfl rfl [_] rfl rfl rfl (Nat.le_of_ble_eq_true rfl) (aw_toK hU aw_Gs_G (con := ac_c219_59) (by omega) (ar_219_59 hU.2.1 (aw_SPc hU.2.2 aw_Gs_G) aw_kpc (arc_214b hU) (arc_215 hU)) ⟨(hI141).1, hI139.2⟩ ⟨(aw_g117 hU.2.2), (cw_gw (a := (59 : Int)) rfl (by omega) (by omega)), trivial⟩ (fun e he => nomatch he)) ?_
  rintro r145 S145 ⟨hr145, hJ145, fc145, po145, -⟩
  have hT145 := hJ145.1
  replace fc145 := aw_fr_sub (F' := [24, 25, 26, 27, 28, 29, 30, 31]) (A' := []) (by decide) (by decide) fc145
  rcases ar_bool hU (hI141).1 hT145 hr145 po145 with ⟨b145, rfl, hb145, cf145⟩ | ⟨b145, rfl, hb145, ck145, gq145⟩
  · skip
    have cf145 : (S134.1 30).toInt + 0 ≤ (S145.1 30).toInt := cf145
    have fr146 := aw_fr_tr fr140 (aw_fr_sub (F := [24, 25, 26, 27, 28, 29, 30, 31]) (A := []) (by decide) (by decide) fc145)
    have hI147 : aw_I s h (aw_sm S145) S145 := ⟨hT145, aw_sm_rf⟩
    show aw_W _ _ _ _ 345 lv135 [.int b145] _ _
    refine aw_z (tgt := 350) aj_d234 rfl rfl (fun q148 => ?_) (fun q148 => ?_)
    · have q148 : (0 : Int) ≠ (0 : Int) := aw_t_ne (a := (0 : Int)) (b := (0 : Int)) hb145 rfl q148
      exfalso
      omega
    · have q148 : (0 : Int) = (0 : Int) := aw_t_ne (a := (0 : Int)) (b := (0 : Int)) hb145 rfl q148
      refine aw_n aj_d234 rfl rfl ?_
      refine aw_e aj_d234 rfl rfl ?_
      exact ⟨(hI147).1, fr146, Or.inl ⟨_, rfl, rfl, aw_G_B hJ145.2⟩⟩
  · skip
    have ck145 : (S134.1 30).toInt + 1 ≤ (S145.1 30).toInt := ck145
    have fr149 := aw_fr_tr fr140 (aw_fr_sub (F := [24, 25, 26, 27, 28, 29, 30, 31]) (A := []) (by decide) (by decide) fc145)
    have hI150 : aw_I s h (aw_sm S145) S145 := ⟨hT145, aw_sm_rf⟩
    show aw_W _ _ _ _ 345 lv135 [.int b145] _ _
    refine aw_z (tgt := 350) aj_d234 rfl rfl (fun q151 => ?_) (fun q151 => ?_)
    · have q151 : (1 : Int) ≠ (0 : Int) := aw_t_ne (a := (1 : Int)) (b := (0 : Int)) hb145 rfl q151
      refine aw_n aj_d234 rfl rfl ?_
      refine aw_t0 (j := 7) aj_d234 rfl (by decide) rfl ?_
      obtain ⟨lv152, elv152⟩ : ∃ l, l = aj_set1 lv135 7 (.int (Int32.ofInt 0)) := ⟨_, rfl⟩
      rw [← elv152]
      have hlv152_0 : aj_lv lv152 0 = some (.ref 117) := cw_e1 elv152 hlv135_0 (by decide) (Or.inl (by decide))
      have hlv152_1 : aj_lv lv152 1 = some (.int x136) := cw_e1 elv152 hlv135_1 (by decide) (Or.inl (by decide))
      have hlv152_2 : aj_lv lv152 2 = some (.int x137) := cw_e1 elv152 hlv135_2 (by decide) (Or.inl (by decide))
      have hlv152_6 : aj_lv lv152 6 = some (.int x138) := cw_e1 elv152 hlv135_6 (by decide) (Or.inr rfl)
      have hlv152_7 : aj_lv lv152 7 = some (.int (Int32.ofInt 0)) := by rw [elv152]; exact ak_set1_eq _ _ _
      show aw_W _ _ _ _ 353 lv152 [] _ _
      have b221 : 0 ≤ (S145.1 30).toInt ∧ (S145.1 30).toInt ≤ 1001 := aw_bd_f hs (hI150).1 (by decide) rfl
      have c222 : (S145.1 37).toInt = (S134.1 37).toInt := (congrArg Int32.toInt (fc145.1 37 (by decide)).1).trans rfl
      have b223 : 0 ≤ (S145.1 37).toInt ∧ (S145.1 37).toInt ≤ 1 := aw_bd_f hs (hI150).1 (by decide) rfl
      have c224 : (S145.1 32).toInt = (S134.1 32).toInt := (congrArg Int32.toInt (fc145.1 32 (by decide)).1).trans rfl
      have b225 : 0 ≤ (S145.1 32).toInt ∧ (S145.1 32).toInt ≤ 1 := aw_bd_f hs (hI150).1 (by decide) rfl
      exact (ar_row_L353_152 hU hd S12 N150 S34 x36 x37 x38 x39 ihL150_32 hm150 S47 S67 S103 S123 S134) _ S145 lv152 (x136) (x137) (x138) ((Int32.ofInt 0)) hlv152_0 hlv152_1 hlv152_2 hlv152_6 hlv152_7 ⟨(hI150).1, hJ145.2⟩ fr149 (by omega) (by omega) (by omega) (by first | omega | decide) (show _ ≤ ((S145.1 30)).toInt by omega) (show _ = ((S145.1 37)).toInt * 10 + _ by omega) (ar_mk (fun z => ar_un wk339 (by have z : ((S145.1 32)).toInt = 1 := z; show ((S134.1 32)).toInt = 1; omega))) (ar_mk (fun z0 z1 => by rw [show (S145.2.2.1 14) = S134.2.2.1 14 from ((fc145.2 14 (by decide)).1.trans rfl)]; rw [show (S145.2.2.1 9) = S134.2.2.1 9 from ((fc145.2 9 (by decide)).1.trans rfl)] at z1; exact ar_un rw339 z0 z1)) (Nat.lt_succ_self _)
    · have q151 : (1 : Int) = (0 : Int) := aw_t_ne (a := (1 : Int)) (b := (0 : Int)) hb145 rfl q151
      exfalso
      omega
theorem ar_row_L311_121 (hU : aw_U tb s h) (hd : 9 ≤ d + 1) (S12 : aj_S) (N150 : Nat) (S34 : aj_S) (x36 : Int32) (x37 : Int32) (x38 : Int32) (x39 : Int32) (ihL150_32 : ∀ (S34 : aj_S) (lv35 : aj_V) (x36 : Int32) (x37 : Int32) (x38 : Int32) (x39 : Int32), (aj_lv lv35 0 = some (.ref 117)) → (aj_lv lv35 1 = some (.int x36)) → (aj_lv lv35 2 = some (.int x37)) → (aj_lv lv35 3 = some (.int x38)) → (aj_lv lv35 4 = some (.int x39)) → (aw_I s h (aw_G (nm, false, la, 0, 0, 0)) S34) → (aw_fr [24, 25, 26, 27, 28, 29, 30, 31, 33, 34, 35, 36, 38, 39, 40, 41, 43, 44] [14, 17, 18, 19, 20, 22] S S34) → ((-1) ≤ x36.toInt ∧ x36.toInt ≤ 9) → ((-1) ≤ x37.toInt ∧ x37.toInt ≤ 19) → (0 ≤ x39.toInt ∧ x39.toInt ≤ 1001) → ((S.1 30).toInt + 1 ≤ (S34.1 30).toInt) → (x37.toInt = (S34.1 37).toInt * 10 + x36.toInt) → (ar_hd ((S34.1 32).toInt = 1 → 0 ≤ x36.toInt)) → (ar_hd (0 ≤ x36.toInt → (S34.2.2.1 9 (x37.toInt).toNat).toInt = 0 → (S34.2.2.1 14 (x37.toInt).toNat).toInt ≤ 29)) → (x39.toInt ≤ (S34.1 30).toInt) → (1001 - (S34.1 30).toInt).toNat < N150 → aw_W tb h d aj_m234 150 lv35 [] S34 ((ar_QB s h [24, 25, 26, 27, 28, 29, 30, 31, 33, 34, 35, 36, 38, 39, 40, 41, 43, 44] [14, 17, 18, 19, 20, 22] S aw_B (fun S' => aw_G (nm, false, la, 0, 0, 0) S' ∧ (S.1 30).toInt + 1 ≤ (S'.1 30).toInt)))) (hm150 : (1001 - (S34.1 30).toInt).toNat < N150 + 1) (S47 : aj_S) (S67 : aj_S) (S103 : aj_S) : ∀ (S123 : aj_S) (lv124 : aj_V) (x125 : Int32) (x126 : Int32), (aj_lv lv124 0 = some (.ref 117)) → (aj_lv lv124 1 = some (.int x125)) → (aj_lv lv124 2 = some (.int x126)) → (aw_I s h (aw_G (nm, false, la, 0, 0, 0)) S123) → (aw_fr [24, 25, 26, 27, 28, 29, 30, 31, 33, 34, 35, 36, 38, 39, 40, 41, 43, 44] [14, 17, 18, 19, 20, 22] S S123) → ((-1) ≤ x125.toInt ∧ x125.toInt ≤ 9) → ((-1) ≤ x126.toInt ∧ x126.toInt ≤ 19) → ((S.1 30).toInt + 1 ≤ (S123.1 30).toInt) → (x126.toInt = (S123.1 37).toInt * 10 + x125.toInt) → (ar_hd ((S123.1 32).toInt = 1 → 0 ≤ x125.toInt)) → (ar_hd (0 ≤ x125.toInt → (S123.2.2.1 9 (x126.toInt).toNat).toInt = 0 → (S123.2.2.1 14 (x126.toInt).toNat).toInt ≤ 29)) → aw_W tb h d aj_m234 311 lv124 [] S123 ((ar_QB s h [24, 25, 26, 27, 28, 29, 30, 31, 33, 34, 35, 36, 38, 39, 40, 41, 43, 44] [14, 17, 18, 19, 20, 22] S aw_B (fun S' => aw_G (nm, false, la, 0, 0, 0) S' ∧ (S.1 30).toInt + 1 ≤ (S'.1 30).toInt))) := by
  have hs : aw_sT s := aw_hy_sT hU.2.2
  intro S123 lv124 x125 x126 hlv124_0 hlv124_1 hlv124_2 hI127 fr128 bx125 bx126 ck311 sl311 wk311 rw311
  have hI129 : aw_I s h (aw_sm S123) S123 := ⟨hI127.1, aw_sm_rf⟩
  have b130 : 0 ≤ (S123.1 30).toInt ∧ (S123.1 30).toInt ≤ 1001 := aw_bd_f hs (hI129).1 (by decide) rfl
  have b131 : 0 ≤ (S123.1 37).toInt ∧ (S123.1 37).toInt ≤ 1 := aw_bd_f hs (hI129).1 (by decide) rfl
  have b132 : 0 ≤ (S123.1 32).toInt ∧ (S123.1 32).toInt ≤ 1 := aw_bd_f hs (hI129).1 (by decide) rfl
  refine aw_l2 aj_d234 rfl rfl hlv124_0 ?_
  refine aw_n aj_d234 rfl rfl ?_
  refine aw_k hU.1 aj_d234 rfl rfl [_] rfl rfl rfl (Nat.le_of_ble_eq_true rfl) (ar_isWord hU (by omega) (b := (3 : Int)) rfl) ?_
  have b228 : 0 ≤ (S123.1 26).toInt ∧ (S123.1 26).toInt ≤ 5 := aw_bd_f hs (hI129).1 (by decide) rfl
  rintro _ S227 ⟨eS227, b226, rfl, kb226⟩
  rw [eS227]
  rcases kb226 with ⟨hb226, pb226, qb226⟩ | ⟨hb226, pb226⟩
  · skip
    have pb226 : ((S123.1 26)).toInt = 4 := pb226
    have qb226 : ((S123.1 29)).toInt = (3 : Int) := qb226
    show aw_W _ _ _ _ 316 lv124 [.int b226] _ _
    refine aw_t0 (j := 6) aj_d234 rfl (by decide) rfl ?_
    obtain ⟨lv229, elv229⟩ : ∃ l, l = aj_set1 lv124 6 (.int b226) := ⟨_, rfl⟩
    rw [← elv229]
    have hlv229_0 : aj_lv lv229 0 = some (.ref 117) := cw_e1 elv229 hlv124_0 (by decide) (Or.inl (by decide))
    have hlv229_1 : aj_lv lv229 1 = some (.int x125) := cw_e1 elv229 hlv124_1 (by decide) (Or.inl (by decide))
    have hlv229_2 : aj_lv lv229 2 = some (.int x126) := cw_e1 elv229 hlv124_2 (by decide) (Or.inl (by decide))
    have hlv229_6 : aj_lv lv229 6 = some (.int b226) := by rw [elv229]; exact ak_set1_eq _ _ _
    show aw_W _ _ _ _ 318 lv229 [] _ _
    refine aw_l0 aj_d234 rfl rfl hlv229_6 ?_
    refine aw_z (tgt := 339) aj_d234 rfl rfl (fun q230 => ?_) (fun q230 => ?_)
    · have q230 : (1 : Int) = (0 : Int) := aw_t_eq (a := (1 : Int)) (b := (0 : Int)) hb226 rfl q230
      exfalso
      omega
    · have q230 : (1 : Int) ≠ (0 : Int) := aw_t_eq (a := (1 : Int)) (b := (0 : Int)) hb226 rfl q230
      refine aw_l2 aj_d234 rfl rfl hlv229_0 ?_
      refine aw_k hU.1 aj_d234 rfl rfl [] rfl rfl rfl (Nat.le_of_ble_eq_true rfl) (ar_pass hU (hI129).1 hI127.2 (by omega) (show ((S123.1 26)).toInt ≠ 0 by omega) (show ¬ (((S123.1 26)).toInt = 3 ∧ ((S123.1 29)).toInt = 63) by omega) (show ((S123.1 26)).toInt = 4 → ((S123.1 29)).toInt = 3 ∨ 6 ≤ ((S123.1 29)).toInt by omega)) ?_
      rintro _ S231 ⟨hT231, fc231, ⟨b231, rfl, hb231, hG231, fd231, hz231⟩ | ⟨b231, rfl, hb231, hG231, ck231, fd231, cj231⟩⟩
      · skip
        have fr232 := aw_fr_tr fr128 (aw_fr_sub (F := [24, 25, 31]) (A := []) (by decide) (by decide) fd231)
        have hI233 : aw_I s h (aw_sm S231) S231 := ⟨hT231, aw_sm_rf⟩
        show aw_W _ _ _ _ 327 lv229 [.int b231] _ _
        refine aw_z (tgt := 337) aj_d234 rfl rfl (fun q234 => ?_) (fun q234 => ?_)
        · have q234 : (0 : Int) = (0 : Int) := aw_t_eq (a := (0 : Int)) (b := (0 : Int)) hb231 rfl q234
          refine aw_n aj_d234 rfl rfl ?_
          refine aw_e aj_d234 rfl rfl ?_
          exact ⟨(hI233).1, fr232, Or.inl ⟨_, rfl, rfl, aw_G_B hG231⟩⟩
        · have q234 : (0 : Int) ≠ (0 : Int) := aw_t_eq (a := (0 : Int)) (b := (0 : Int)) hb231 rfl q234
          exfalso
          omega
      · skip
        have cj231 : (S231.1 30).toInt = ((S123.1 30)).toInt + 1 := cj231
        have fr235 := aw_fr_tr fr128 (aw_fr_sub (F := [26, 27, 28, 29, 30]) (A := []) (by decide) (by decide) fd231)
        have hI236 : aw_I s h (aw_sm S231) S231 := ⟨hT231, aw_sm_rf⟩
        show aw_W _ _ _ _ 327 lv229 [.int b231] _ _
        refine aw_z (tgt := 337) aj_d234 rfl rfl (fun q237 => ?_) (fun q237 => ?_)
        · have q237 : (1 : Int) = (0 : Int) := aw_t_eq (a := (1 : Int)) (b := (0 : Int)) hb231 rfl q237
          exfalso
          omega
        · have q237 : (1 : Int) ≠ (0 : Int) := aw_t_eq (a := (1 : Int)) (b := (0 : Int)) hb231 rfl q237
          refine aw_l2 aj_d234 rfl rfl hlv229_0 ?_
          have b239 : 0 ≤ (S231.1 30).toInt ∧ (S231.1 30).toInt ≤ 1001 := aw_bd_f hs (hI236).1 (by decide) rfl
          refine aw_k hU.1 aj_d234 rfl rfl [] rfl rfl rfl (Nat.le_of_ble_eq_true rfl) (ar_condition hU (hI236).1 hG231 (by omega)) ?_
          rintro _ S238 ⟨hT238, fc238, ⟨b238, rfl, hb238, hG238, ck238⟩ | ⟨b238, rfl, hb238, hG238, ck238, ex238⟩⟩
          · skip
            have ck238 : ((S231.1 30)).toInt ≤ (S238.1 30).toInt := ck238
            have fr240 := aw_fr_tr fr235 (aw_fr_sub (F := [24, 25, 26, 27, 28, 29, 30, 31, 33, 34, 35, 36, 38, 39, 40, 41, 43, 44]) (A := [20, 22]) (by decide) (by decide) fc238)
            have hI241 : aw_I s h (aw_sm S238) S238 := ⟨hT238, aw_sm_rf⟩
            show aw_W _ _ _ _ 334 lv229 [.int b238] _ _
            refine aw_z (tgt := 339) aj_d234 rfl rfl (fun q242 => ?_) (fun q242 => ?_)
            · have q242 : (0 : Int) ≠ (0 : Int) := aw_t_ne (a := (0 : Int)) (b := (0 : Int)) hb238 rfl q242
              exfalso
              omega
            · have q242 : (0 : Int) = (0 : Int) := aw_t_ne (a := (0 : Int)) (b := (0 : Int)) hb238 rfl q242
              refine aw_n aj_d234 rfl rfl ?_
              refine aw_e aj_d234 rfl rfl ?_
              exact ⟨(hI241).1, fr240, Or.inl ⟨_, rfl, rfl, aw_G_B hG238⟩⟩
          · skip
            have ck238 : ((S231.1 30)).toInt + 1 ≤ (S238.1 30).toInt := ck238
            have fr243 := aw_fr_tr fr235 (aw_fr_sub (F := [24, 25, 26, 27, 28, 29, 30, 31, 33, 34, 35, 36, 38, 39, 40, 41, 43, 44]) (A := [20, 22]) (by decide) (by decide) fc238)
            have hI244 : aw_I s h (aw_sm S238) S238 := ⟨hT238, aw_sm_rf⟩
            show aw_W _ _ _ _ 334 lv229 [.int b238] _ _
            refine aw_z (tgt := 339) aj_d234 rfl rfl (fun q245 => ?_) (fun q245 => ?_)
            · have q245 : (1 : Int) ≠ (0 : Int) := aw_t_ne (a := (1 : Int)) (b := (0 : Int)) hb238 rfl q245
              have b246 : 0 ≤ (S238.1 30).toInt ∧ (S238.1 30).toInt ≤ 1001 := aw_bd_f hs (hI244).1 (by decide) rfl
              have c247 : (S231.1 37).toInt = (S123.1 37).toInt := (congrArg Int32.toInt (fd231.1 37 (by decide)).1).trans rfl
              have b248 : 0 ≤ (S231.1 37).toInt ∧ (S231.1 37).toInt ≤ 1 := aw_bd_f hs (hI236).1 (by decide) rfl
              have c249 : (S238.1 37).toInt = (S123.1 37).toInt := (congrArg Int32.toInt (fc238.1 37 (by decide)).1).trans c247
              have b250 : 0 ≤ (S238.1 37).toInt ∧ (S238.1 37).toInt ≤ 1 := aw_bd_f hs (hI244).1 (by decide) rfl
              have c251 : (S231.1 32).toInt = (S123.1 32).toInt := (congrArg Int32.toInt (fd231.1 32 (by decide)).1).trans rfl
              have b252 : 0 ≤ (S231.1 32).toInt ∧ (S231.1 32).toInt ≤ 1 := aw_bd_f hs (hI236).1 (by decide) rfl
              have c253 : (S238.1 32).toInt = (S123.1 32).toInt := (congrArg Int32.toInt (fc238.1 32 (by decide)).1).trans c251
              have b254 : 0 ≤ (S238.1 32).toInt ∧ (S238.1 32).toInt ≤ 1 := aw_bd_f hs (hI244).1 (by decide) rfl
              exact (ar_row_L339_132 hU hd S12 N150 S34 x36 x37 x38 x39 ihL150_32 hm150 S47 S67 S103 S123) S238 lv229 (x125) (x126) (b226) hlv229_0 hlv229_1 hlv229_2 hlv229_6 ⟨(hI244).1, hG238⟩ fr243 (by omega) (by omega) (by have := hb226; omega) (show _ ≤ ((S238.1 30)).toInt by omega) (show _ = ((S238.1 37)).toInt * 10 + _ by omega) (ar_mk (fun z => ar_un wk311 (by have z : ((S238.1 32)).toInt = 1 := z; show ((S123.1 32)).toInt = 1; omega))) (ar_mk (fun z0 z1 => by rw [show (S238.2.2.1 14) = S123.2.2.1 14 from ((fc238.2 14 (by decide)).1.trans ((fd231.2 14 (by decide)).1.trans rfl))]; rw [show (S238.2.2.1 9) = S123.2.2.1 9 from ((fc238.2 9 (by decide)).1.trans ((fd231.2 9 (by decide)).1.trans rfl))] at z1; exact ar_un rw311 z0 z1))
            · have q245 : (1 : Int) = (0 : Int) := aw_t_ne (a := (1 : Int)) (b := (0 : Int)) hb238 rfl q245
              exfalso
              omega
  · skip
    clear pb226
    show aw_W _ _ _ _ 316 lv124 [.int b226] _ _
    refine aw_t0 (j := 6) aj_d234 rfl (by decide) rfl ?_
    obtain ⟨lv255, elv255⟩ : ∃ l, l = aj_set1 lv124 6 (.int b226) := ⟨_, rfl⟩
    rw [← elv255]
    have hlv255_0 : aj_lv lv255 0 = some (.ref 117) := cw_e1 elv255 hlv124_0 (by decide) (Or.inl (by decide))
    have hlv255_1 : aj_lv lv255 1 = some (.int x125) := cw_e1 elv255 hlv124_1 (by decide) (Or.inl (by decide))
    have hlv255_2 : aj_lv lv255 2 = some (.int x126) := cw_e1 elv255 hlv124_2 (by decide) (Or.inl (by decide))
    have hlv255_6 : aj_lv lv255 6 = some (.int b226) := by rw [elv255]; exact ak_set1_eq _ _ _
    show aw_W _ _ _ _ 318 lv255 [] _ _
    refine aw_l0 aj_d234 rfl rfl hlv255_6 ?_
    refine aw_z (tgt := 339) aj_d234 rfl rfl (fun q256 => ?_) (fun q256 => ?_)
    · have q256 : (0 : Int) = (0 : Int) := aw_t_eq (a := (0 : Int)) (b := (0 : Int)) hb226 rfl q256
      exact (ar_row_L339_132 hU hd S12 N150 S34 x36 x37 x38 x39 ihL150_32 hm150 S47 S67 S103 S123) S123 lv255 (x125) (x126) (b226) hlv255_0 hlv255_1 hlv255_2 hlv255_6 ⟨(hI129).1, hI127.2⟩ fr128 (by omega) (by omega) (by have := hb226; omega) (show _ ≤ ((S123.1 30)).toInt by omega) (show _ = ((S123.1 37)).toInt * 10 + _ by omega) (ar_mk (fun z => ar_un wk311 (by have z : ((S123.1 32)).toInt = 1 := z; show ((S123.1 32)).toInt = 1; omega))) (ar_mk (fun z0 z1 => by rw [show (S123.2.2.1 14) = S123.2.2.1 14 from rfl]; rw [show (S123.2.2.1 9) = S123.2.2.1 9 from rfl] at z1; exact ar_un rw311 z0 z1))
    · have q256 : (0 : Int) ≠ (0 : Int) := aw_t_eq (a := (0 : Int)) (b := (0 : Int)) hb226 rfl q256
      exfalso
      omega
theorem ar_row_L270_101 (hU : aw_U tb s h) (hd : 9 ≤ d + 1) (S12 : aj_S) (N150 : Nat) (S34 : aj_S) (x36 : Int32) (x37 : Int32) (x38 : Int32) (x39 : Int32) (ihL150_32 : ∀ (S34 : aj_S) (lv35 : aj_V) (x36 : Int32) (x37 : Int32) (x38 : Int32) (x39 : Int32), (aj_lv lv35 0 = some (.ref 117)) → (aj_lv lv35 1 = some (.int x36)) → (aj_lv lv35 2 = some (.int x37)) → (aj_lv lv35 3 = some (.int x38)) → (aj_lv lv35 4 = some (.int x39)) → (aw_I s h (aw_G (nm, false, la, 0, 0, 0)) S34) → (aw_fr [24, 25, 26, 27, 28, 29, 30, 31, 33, 34, 35, 36, 38, 39, 40, 41, 43, 44] [14, 17, 18, 19, 20, 22] S S34) → ((-1) ≤ x36.toInt ∧ x36.toInt ≤ 9) → ((-1) ≤ x37.toInt ∧ x37.toInt ≤ 19) → (0 ≤ x39.toInt ∧ x39.toInt ≤ 1001) → ((S.1 30).toInt + 1 ≤ (S34.1 30).toInt) → (x37.toInt = (S34.1 37).toInt * 10 + x36.toInt) → (ar_hd ((S34.1 32).toInt = 1 → 0 ≤ x36.toInt)) → (ar_hd (0 ≤ x36.toInt → (S34.2.2.1 9 (x37.toInt).toNat).toInt = 0 → (S34.2.2.1 14 (x37.toInt).toNat).toInt ≤ 29)) → (x39.toInt ≤ (S34.1 30).toInt) → (1001 - (S34.1 30).toInt).toNat < N150 → aw_W tb h d aj_m234 150 lv35 [] S34 ((ar_QB s h [24, 25, 26, 27, 28, 29, 30, 31, 33, 34, 35, 36, 38, 39, 40, 41, 43, 44] [14, 17, 18, 19, 20, 22] S aw_B (fun S' => aw_G (nm, false, la, 0, 0, 0) S' ∧ (S.1 30).toInt + 1 ≤ (S'.1 30).toInt)))) (hm150 : (1001 - (S34.1 30).toInt).toNat < N150 + 1) (S47 : aj_S) (S67 : aj_S) : ∀ (S103 : aj_S) (lv104 : aj_V) (x105 : Int32) (x106 : Int32) (x107 : Int32) (x108 : Int32), (aj_lv lv104 0 = some (.ref 117)) → (aj_lv lv104 1 = some (.int x105)) → (aj_lv lv104 2 = some (.int x106)) → (aj_lv lv104 3 = some (.int x107)) → (aj_lv lv104 4 = some (.int x108)) → (aw_I s h (aw_G (nm, false, la, 0, 0, 0)) S103) → (aw_fr [24, 25, 26, 27, 28, 29, 30, 31, 33, 34, 35, 36, 38, 39, 40, 41, 43, 44] [14, 17, 18, 19, 20, 22] S S103) → ((-1) ≤ x105.toInt ∧ x105.toInt ≤ 9) → ((-1) ≤ x106.toInt ∧ x106.toInt ≤ 19) → (0 ≤ x108.toInt ∧ x108.toInt ≤ 1002) → ((S.1 30).toInt + 1 ≤ (S103.1 30).toInt) → (x106.toInt = (S103.1 37).toInt * 10 + x105.toInt) → (ar_hd ((S103.1 32).toInt = 1 → 0 ≤ x105.toInt)) → (ar_hd (0 ≤ x105.toInt → (S103.2.2.1 9 (x106.toInt).toNat).toInt = 0 → (S103.2.2.1 14 (x106.toInt).toNat).toInt ≤ 29)) → (x108.toInt ≤ (S103.1 30).toInt) → aw_W tb h d aj_m234 270 lv104 [] S103 ((ar_QB s h [24, 25, 26, 27, 28, 29, 30, 31, 33, 34, 35, 36, 38, 39, 40, 41, 43, 44] [14, 17, 18, 19, 20, 22] S aw_B (fun S' => aw_G (nm, false, la, 0, 0, 0) S' ∧ (S.1 30).toInt + 1 ≤ (S'.1 30).toInt))) := by
  have hs : aw_sT s := aw_hy_sT hU.2.2
  intro S103 lv104 x105 x106 x107 x108 hlv104_0 hlv104_1 hlv104_2 hlv104_3 hlv104_4 hI109 fr110 bx105 bx106 bx108 ck270 sl270 wk270 rw270 n270
  have hI111 : aw_I s h (aw_sm S103) S103 := ⟨hI109.1, aw_sm_rf⟩
  have b112 : 0 ≤ (S103.1 30).toInt ∧ (S103.1 30).toInt ≤ 1001 := aw_bd_f hs (hI111).1 (by decide) rfl
  have b113 : 0 ≤ (S103.1 37).toInt ∧ (S103.1 37).toInt ≤ 1 := aw_bd_f hs (hI111).1 (by decide) rfl
  have b114 : 0 ≤ (S103.1 32).toInt ∧ (S103.1 32).toInt ≤ 1 := aw_bd_f hs (hI111).1 (by decide) rfl
  refine aw_l2 aj_d234 rfl rfl hlv104_0 ?_
  refine aw_n aj_d234 rfl rfl ?_
  refine aw_k hU.1 aj_d234 rfl rfl [_] rfl rfl rfl (Nat.le_of_ble_eq_true rfl) (aw_toK hU aw_Gs_G (con := ac_c219_41) (by omega) (ar_219_41 hU.2.1 (aw_SPc hU.2.2 aw_Gs_G) aw_kpc (arc_214b hU) (arc_215 hU)) ⟨(hI111).1, hI109.2⟩ ⟨(aw_g117 hU.2.2), (cw_gw (a := (41 : Int)) rfl (by omega) (by omega)), trivial⟩ (fun e he => nomatch he)) ?_
  rintro r115 S115 ⟨hr115, hJ115, fc115, po115, -⟩
  have hT115 := hJ115.1
  replace fc115 := aw_fr_sub (F' := [24, 25, 26, 27, 28, 29, 30, 31]) (A' := []) (by decide) (by decide) fc115
  rcases ar_bool hU (hI111).1 hT115 hr115 po115 with ⟨b115, rfl, hb115, cf115⟩ | ⟨b115, rfl, hb115, ck115, gq115⟩
  · skip
    have cf115 : (S103.1 30).toInt + 0 ≤ (S115.1 30).toInt := cf115
    have fr116 := aw_fr_tr fr110 (aw_fr_sub (F := [24, 25, 26, 27, 28, 29, 30, 31]) (A := []) (by decide) (by decide) fc115)
    have hI117 : aw_I s h (aw_sm S115) S115 := ⟨hT115, aw_sm_rf⟩
    show aw_W _ _ _ _ 276 lv104 [.int b115] _ _
    refine aw_z (tgt := 281) aj_d234 rfl rfl (fun q118 => ?_) (fun q118 => ?_)
    · have q118 : (0 : Int) ≠ (0 : Int) := aw_t_ne (a := (0 : Int)) (b := (0 : Int)) hb115 rfl q118
      exfalso
      omega
    · have q118 : (0 : Int) = (0 : Int) := aw_t_ne (a := (0 : Int)) (b := (0 : Int)) hb115 rfl q118
      refine aw_n aj_d234 rfl rfl ?_
      refine aw_e aj_d234 rfl rfl ?_
      exact ⟨(hI117).1, fr116, Or.inl ⟨_, rfl, rfl, aw_G_B hJ115.2⟩⟩
  · skip
    have ck115 : (S103.1 30).toInt + 1 ≤ (S115.1 30).toInt := ck115
    have fr119 := aw_fr_tr fr110 (aw_fr_sub (F := [24, 25, 26, 27, 28, 29, 30, 31]) (A := []) (by decide) (by decide) fc115)
    have hI120 : aw_I s h (aw_sm S115) S115 := ⟨hT115, aw_sm_rf⟩
    show aw_W _ _ _ _ 276 lv104 [.int b115] _ _
    refine aw_z (tgt := 281) aj_d234 rfl rfl (fun q121 => ?_) (fun q121 => ?_)
    · have q121 : (1 : Int) ≠ (0 : Int) := aw_t_ne (a := (1 : Int)) (b := (0 : Int)) hb115 rfl q121
      refine aw_l0 aj_d234 rfl rfl hlv104_1 ?_
      refine aw_z (tgt := 311) aj_d234 rfl rfl (fun q257 => ?_) (fun q257 => ?_)
      · have q257 : x105.toInt < (0 : Int) := aw_t_lt (a := x105.toInt) (b := (0 : Int)) rfl rfl q257
        have b258 : 0 ≤ (S115.1 30).toInt ∧ (S115.1 30).toInt ≤ 1001 := aw_bd_f hs (hI120).1 (by decide) rfl
        have c259 : (S115.1 37).toInt = (S103.1 37).toInt := (congrArg Int32.toInt (fc115.1 37 (by decide)).1).trans rfl
        have b260 : 0 ≤ (S115.1 37).toInt ∧ (S115.1 37).toInt ≤ 1 := aw_bd_f hs (hI120).1 (by decide) rfl
        have c261 : (S115.1 32).toInt = (S103.1 32).toInt := (congrArg Int32.toInt (fc115.1 32 (by decide)).1).trans rfl
        have b262 : 0 ≤ (S115.1 32).toInt ∧ (S115.1 32).toInt ≤ 1 := aw_bd_f hs (hI120).1 (by decide) rfl
        exact (ar_row_L311_121 hU hd S12 N150 S34 x36 x37 x38 x39 ihL150_32 hm150 S47 S67 S103) S115 lv104 (x105) (x106) hlv104_0 hlv104_1 hlv104_2 ⟨(hI120).1, hJ115.2⟩ fr119 (by omega) (by omega) (show _ ≤ ((S115.1 30)).toInt by omega) (show _ = ((S115.1 37)).toInt * 10 + _ by omega) (ar_mk (fun z => ar_un wk270 (by have z : ((S115.1 32)).toInt = 1 := z; show ((S103.1 32)).toInt = 1; omega))) (ar_mk (fun z0 z1 => by rw [show (S115.2.2.1 14) = S103.2.2.1 14 from ((fc115.2 14 (by decide)).1.trans rfl)]; rw [show (S115.2.2.1 9) = S103.2.2.1 9 from ((fc115.2 9 (by decide)).1.trans rfl)] at z1; exact ar_un rw270 z0 z1))
      · have q257 : x105.toInt ≥ (0 : Int) := aw_t_lt (a := x105.toInt) (b := (0 : Int)) rfl rfl q257
        refine aw_l2 aj_d234 rfl rfl hlv104_0 ?_
        refine aw_g hU.1 aj_d234 rfl rfl (by decide) (v := .ref 126) rfl ?_
        refine aw_l0 aj_d234 rfl rfl hlv104_2 ?_
        refine aw_ld (k := 9) hU.1 aj_d234 (Or.inr (Or.inr (Or.inl ⟨rfl, rfl⟩))) rfl (by decide) (by decide) rfl (a := x106.toInt) rfl (by omega) (by omega) (fun x263 ex263 => ?_)
        have bx263 : 0 ≤ x263.toInt ∧ x263.toInt ≤ 1 := by
          rw [ex263]
          exact aw_bd_a hs (hI120).1 (k := 9) (by decide) (by decide) rfl (by decide) rfl (by omega)
        have ftx263 : x263.toInt = (S103.2.2.1 9 (x106.toInt).toNat).toInt := congrArg Int32.toInt (ex263.trans (congrFun ((fc115.2 9 (by decide)).1.trans rfl) _))
        refine aw_z (tgt := 311) aj_d234 rfl rfl (fun q264 => ?_) (fun q264 => ?_)
        · have q264 : x263.toInt ≠ (0 : Int) := aw_t_ne (a := x263.toInt) (b := (0 : Int)) rfl rfl q264
          have b265 : 0 ≤ (S115.1 30).toInt ∧ (S115.1 30).toInt ≤ 1001 := aw_bd_f hs (hI120).1 (by decide) rfl
          have c266 : (S115.1 37).toInt = (S103.1 37).toInt := (congrArg Int32.toInt (fc115.1 37 (by decide)).1).trans rfl
          have b267 : 0 ≤ (S115.1 37).toInt ∧ (S115.1 37).toInt ≤ 1 := aw_bd_f hs (hI120).1 (by decide) rfl
          have c268 : (S115.1 32).toInt = (S103.1 32).toInt := (congrArg Int32.toInt (fc115.1 32 (by decide)).1).trans rfl
          have b269 : 0 ≤ (S115.1 32).toInt ∧ (S115.1 32).toInt ≤ 1 := aw_bd_f hs (hI120).1 (by decide) rfl
          exact (ar_row_L311_121 hU hd S12 N150 S34 x36 x37 x38 x39 ihL150_32 hm150 S47 S67 S103) S115 lv104 (x105) (x106) hlv104_0 hlv104_1 hlv104_2 ⟨(hI120).1, hJ115.2⟩ fr119 (by omega) (by omega) (show _ ≤ ((S115.1 30)).toInt by omega) (show _ = ((S115.1 37)).toInt * 10 + _ by omega) (ar_mk (fun z => ar_un wk270 (by have z : ((S115.1 32)).toInt = 1 := z; show ((S103.1 32)).toInt = 1; omega))) (ar_mk (fun z0 z1 => by rw [show (S115.2.2.1 14) = S103.2.2.1 14 from ((fc115.2 14 (by decide)).1.trans rfl)]; rw [show (S115.2.2.1 9) = S103.2.2.1 9 from ((fc115.2 9 (by decide)).1.trans rfl)] at z1; exact ar_un rw270 z0 z1))
        · have q264 : x263.toInt = (0 : Int) := aw_t_ne (a := x263.toInt) (b := (0 : Int)) rfl rfl q264
          refine aw_l0 aj_d234 rfl rfl hlv104_4 ?_
          refine aw_l2 aj_d234 rfl rfl hlv104_0 ?_
          refine aw_g hU.1 aj_d234 rfl rfl (by decide) (v := .ref 132) rfl ?_
          refine aw_l0 aj_d234 rfl rfl hlv104_2 ?_
          refine aw_ld (k := 15) hU.1 aj_d234 (Or.inl ⟨rfl, rfl⟩) rfl (by decide) (by decide) rfl (a := x106.toInt) rfl (by omega) (by omega) (fun x270 ex270 => ?_)
          have bx270 : (-1) ≤ x270.toInt ∧ x270.toInt ≤ 6 := by
            rw [ex270]
            exact aw_bd_a hs (hI120).1 (k := 15) (by decide) (by decide) rfl (by decide) rfl (by omega)
          have ftx270 : x270.toInt = (S103.2.2.1 15 (x106.toInt).toNat).toInt := congrArg Int32.toInt (ex270.trans (congrFun ((fc115.2 15 (by decide)).1.trans rfl) _))
          refine aw_c (tgt := 311) aj_d234 rfl rfl (fun q271 => ?_) (fun q271 => ?_)
          · have q271 : x108.toInt = x270.toInt := aw_t_eq (a := x108.toInt) (b := x270.toInt) rfl rfl q271
            have b272 : 0 ≤ (S115.1 30).toInt ∧ (S115.1 30).toInt ≤ 1001 := aw_bd_f hs (hI120).1 (by decide) rfl
            have c273 : (S115.1 37).toInt = (S103.1 37).toInt := (congrArg Int32.toInt (fc115.1 37 (by decide)).1).trans rfl
            have b274 : 0 ≤ (S115.1 37).toInt ∧ (S115.1 37).toInt ≤ 1 := aw_bd_f hs (hI120).1 (by decide) rfl
            have c275 : (S115.1 32).toInt = (S103.1 32).toInt := (congrArg Int32.toInt (fc115.1 32 (by decide)).1).trans rfl
            have b276 : 0 ≤ (S115.1 32).toInt ∧ (S115.1 32).toInt ≤ 1 := aw_bd_f hs (hI120).1 (by decide) rfl
            exact (ar_row_L311_121 hU hd S12 N150 S34 x36 x37 x38 x39 ihL150_32 hm150 S47 S67 S103) S115 lv104 (x105) (x106) hlv104_0 hlv104_1 hlv104_2 ⟨(hI120).1, hJ115.2⟩ fr119 (by omega) (by omega) (show _ ≤ ((S115.1 30)).toInt by omega) (show _ = ((S115.1 37)).toInt * 10 + _ by omega) (ar_mk (fun z => ar_un wk270 (by have z : ((S115.1 32)).toInt = 1 := z; show ((S103.1 32)).toInt = 1; omega))) (ar_mk (fun z0 z1 => by rw [show (S115.2.2.1 14) = S103.2.2.1 14 from ((fc115.2 14 (by decide)).1.trans rfl)]; rw [show (S115.2.2.1 9) = S103.2.2.1 9 from ((fc115.2 9 (by decide)).1.trans rfl)] at z1; exact ar_un rw270 z0 z1))
          · have q271 : x108.toInt ≠ x270.toInt := aw_t_eq (a := x108.toInt) (b := x270.toInt) rfl rfl q271
            refine aw_l2 aj_d234 rfl rfl hlv104_0 ?_
            refine aw_n aj_d234 rfl rfl ?_
            refine aw_l0 aj_d234 rfl rfl hlv104_3 ?_
            refine aw_k hU.1 aj_d234 rfl rfl [_, _] rfl rfl rfl (Nat.le_of_ble_eq_true rfl) (ar_tell hU (hI120).1 (by omega) (a := (5 : Int)) rfl (by omega)) ?_
            rintro _ S277 ⟨hT277, fc277, rfl, hz277, hw277⟩
            have hG277 := aw_G_tell hJ115.2 fc277 hz277
            have c278 : (S115.1 32).toInt = (S103.1 32).toInt := (congrArg Int32.toInt (fc115.1 32 (by decide)).1).trans rfl
            have b279 : 0 ≤ (S115.1 32).toInt ∧ (S115.1 32).toInt ≤ 1 := aw_bd_f hs (hI120).1 (by decide) rfl
            have hz277 : ((S115.1 32)).toInt = 0 → (S277.1 24).toInt ≠ 0 := hz277
            have fr280 := aw_fr_tr fr119 (aw_fr_sub (F := [24, 25]) (A := []) (by decide) (by decide) fc277)
            have hI281 : aw_I s h (aw_sm S277) S277 := ⟨hT277, aw_sm_rf⟩
            show aw_W _ _ _ _ 311 lv104 [] _ _
            have b282 : 0 ≤ (S115.1 30).toInt ∧ (S115.1 30).toInt ≤ 1001 := aw_bd_f hs (hI120).1 (by decide) rfl
            have c283 : (S277.1 30).toInt = (S115.1 30).toInt := (congrArg Int32.toInt (fc277.1 30 (by decide)).1).trans rfl
            have b284 : 0 ≤ (S277.1 30).toInt ∧ (S277.1 30).toInt ≤ 1001 := aw_bd_f hs (hI281).1 (by decide) rfl
            have c285 : (S115.1 37).toInt = (S103.1 37).toInt := (congrArg Int32.toInt (fc115.1 37 (by decide)).1).trans rfl
            have b286 : 0 ≤ (S115.1 37).toInt ∧ (S115.1 37).toInt ≤ 1 := aw_bd_f hs (hI120).1 (by decide) rfl
            have c287 : (S277.1 37).toInt = (S103.1 37).toInt := (congrArg Int32.toInt (fc277.1 37 (by decide)).1).trans c285
            have b288 : 0 ≤ (S277.1 37).toInt ∧ (S277.1 37).toInt ≤ 1 := aw_bd_f hs (hI281).1 (by decide) rfl
            have c289 : (S277.1 32).toInt = (S103.1 32).toInt := (congrArg Int32.toInt (fc277.1 32 (by decide)).1).trans c278
            have b290 : 0 ≤ (S277.1 32).toInt ∧ (S277.1 32).toInt ≤ 1 := aw_bd_f hs (hI281).1 (by decide) rfl
            exact (ar_row_L311_121 hU hd S12 N150 S34 x36 x37 x38 x39 ihL150_32 hm150 S47 S67 S103) S277 lv104 (x105) (x106) hlv104_0 hlv104_1 hlv104_2 ⟨(hI281).1, hG277⟩ fr280 (by omega) (by omega) (show _ ≤ ((S277.1 30)).toInt by omega) (show _ = ((S277.1 37)).toInt * 10 + _ by omega) (ar_mk (fun z => ar_un wk270 (by have z : ((S277.1 32)).toInt = 1 := z; show ((S103.1 32)).toInt = 1; omega))) (ar_mk (fun z0 z1 => by rw [show (S277.2.2.1 14) = S103.2.2.1 14 from ((fc277.2 14 (by decide)).1.trans ((fc115.2 14 (by decide)).1.trans rfl))]; rw [show (S277.2.2.1 9) = S103.2.2.1 9 from ((fc277.2 9 (by decide)).1.trans ((fc115.2 9 (by decide)).1.trans rfl))] at z1; exact ar_un rw270 z0 z1))
    · have q121 : (1 : Int) = (0 : Int) := aw_t_ne (a := (1 : Int)) (b := (0 : Int)) hb115 rfl q121
      exfalso
      omega
theorem ar_row_L245_65 (hU : aw_U tb s h) (hd : 9 ≤ d + 1) (S12 : aj_S) (N150 : Nat) (S34 : aj_S) (x36 : Int32) (x37 : Int32) (x38 : Int32) (x39 : Int32) (ihL150_32 : ∀ (S34 : aj_S) (lv35 : aj_V) (x36 : Int32) (x37 : Int32) (x38 : Int32) (x39 : Int32), (aj_lv lv35 0 = some (.ref 117)) → (aj_lv lv35 1 = some (.int x36)) → (aj_lv lv35 2 = some (.int x37)) → (aj_lv lv35 3 = some (.int x38)) → (aj_lv lv35 4 = some (.int x39)) → (aw_I s h (aw_G (nm, false, la, 0, 0, 0)) S34) → (aw_fr [24, 25, 26, 27, 28, 29, 30, 31, 33, 34, 35, 36, 38, 39, 40, 41, 43, 44] [14, 17, 18, 19, 20, 22] S S34) → ((-1) ≤ x36.toInt ∧ x36.toInt ≤ 9) → ((-1) ≤ x37.toInt ∧ x37.toInt ≤ 19) → (0 ≤ x39.toInt ∧ x39.toInt ≤ 1001) → ((S.1 30).toInt + 1 ≤ (S34.1 30).toInt) → (x37.toInt = (S34.1 37).toInt * 10 + x36.toInt) → (ar_hd ((S34.1 32).toInt = 1 → 0 ≤ x36.toInt)) → (ar_hd (0 ≤ x36.toInt → (S34.2.2.1 9 (x37.toInt).toNat).toInt = 0 → (S34.2.2.1 14 (x37.toInt).toNat).toInt ≤ 29)) → (x39.toInt ≤ (S34.1 30).toInt) → (1001 - (S34.1 30).toInt).toNat < N150 → aw_W tb h d aj_m234 150 lv35 [] S34 ((ar_QB s h [24, 25, 26, 27, 28, 29, 30, 31, 33, 34, 35, 36, 38, 39, 40, 41, 43, 44] [14, 17, 18, 19, 20, 22] S aw_B (fun S' => aw_G (nm, false, la, 0, 0, 0) S' ∧ (S.1 30).toInt + 1 ≤ (S'.1 30).toInt)))) (hm150 : (1001 - (S34.1 30).toInt).toNat < N150 + 1) (S47 : aj_S) : ∀ (S67 : aj_S) (lv68 : aj_V) (x69 : Int32) (x70 : Int32) (x71 : Int32) (x72 : Int32), (aj_lv lv68 0 = some (.ref 117)) → (aj_lv lv68 1 = some (.int x69)) → (aj_lv lv68 2 = some (.int x70)) → (aj_lv lv68 3 = some (.int x71)) → (aj_lv lv68 4 = some (.int x72)) → (aw_I s h (aw_G (nm, false, la, 0, 0, 0)) S67) → (aw_fr [24, 25, 26, 27, 28, 29, 30, 31, 33, 34, 35, 36, 38, 39, 40, 41, 43, 44] [14, 17, 18, 19, 20, 22] S S67) → ((-1) ≤ x69.toInt ∧ x69.toInt ≤ 9) → ((-1) ≤ x70.toInt ∧ x70.toInt ≤ 19) → (0 ≤ x72.toInt ∧ x72.toInt ≤ 1001) → ((S.1 30).toInt + 1 ≤ (S67.1 30).toInt) → (x70.toInt = (S67.1 37).toInt * 10 + x69.toInt) → (ar_hd ((S67.1 32).toInt = 1 → 0 ≤ x69.toInt)) → (ar_hd (0 ≤ x69.toInt → (S67.2.2.1 9 (x70.toInt).toNat).toInt = 0 → (S67.2.2.1 14 (x70.toInt).toNat).toInt ≤ 29)) → (x72.toInt + 1 ≤ (S67.1 30).toInt) → ((S34.1 30).toInt + 1 ≤ (S67.1 30).toInt) → aw_W tb h d aj_m234 245 lv68 [] S67 ((ar_QB s h [24, 25, 26, 27, 28, 29, 30, 31, 33, 34, 35, 36, 38, 39, 40, 41, 43, 44] [14, 17, 18, 19, 20, 22] S aw_B (fun S' => aw_G (nm, false, la, 0, 0, 0) S' ∧ (S.1 30).toInt + 1 ≤ (S'.1 30).toInt))) := by
  have hs : aw_sT s := aw_hy_sT hU.2.2
  intro S67 lv68 x69 x70 x71 x72 hlv68_0 hlv68_1 hlv68_2 hlv68_3 hlv68_4 hI73 fr74 bx69 bx70 bx72 ck245 sl245 wk245 rw245 n245 cA245
  have hI75 : aw_I s h (aw_sm S67) S67 := ⟨hI73.1, aw_sm_rf⟩
  have b76 : 0 ≤ (S67.1 30).toInt ∧ (S67.1 30).toInt ≤ 1001 := aw_bd_f hs (hI75).1 (by decide) rfl
  have b77 : 0 ≤ (S67.1 37).toInt ∧ (S67.1 37).toInt ≤ 1 := aw_bd_f hs (hI75).1 (by decide) rfl
  have b78 : 0 ≤ (S67.1 32).toInt ∧ (S67.1 32).toInt ≤ 1 := aw_bd_f hs (hI75).1 (by decide) rfl
  refine aw_inc aj_d234 rfl hlv68_4 (a := x72.toInt) rfl (by omega) (by omega) (by decide) (by decide) (fun x79 ex79 => ?_)
  obtain ⟨lv80, elv80⟩ : ∃ l, l = aj_set1 lv68 4 (.int x79) := ⟨_, rfl⟩
  rw [← elv80]
  have hlv80_0 : aj_lv lv80 0 = some (.ref 117) := cw_e1 elv80 hlv68_0 (by decide) (Or.inl (by decide))
  have hlv80_1 : aj_lv lv80 1 = some (.int x69) := cw_e1 elv80 hlv68_1 (by decide) (Or.inl (by decide))
  have hlv80_2 : aj_lv lv80 2 = some (.int x70) := cw_e1 elv80 hlv68_2 (by decide) (Or.inl (by decide))
  have hlv80_3 : aj_lv lv80 3 = some (.int x71) := cw_e1 elv80 hlv68_3 (by decide) (Or.inr rfl)
  have hlv80_4 : aj_lv lv80 4 = some (.int x79) := by rw [elv80]; exact ak_set1_eq _ _ _
  show aw_W _ _ _ _ 248 lv80 [] _ _
  refine aw_l2 aj_d234 rfl rfl hlv80_0 ?_
  refine aw_n aj_d234 rfl rfl ?_
  refine aw_k hU.1 aj_d234 rfl rfl [_] rfl rfl rfl (Nat.le_of_ble_eq_true rfl) (ar_isSign hU (by omega) (b := (44 : Int)) rfl) ?_
  have b83 : 0 ≤ (S67.1 26).toInt ∧ (S67.1 26).toInt ≤ 5 := aw_bd_f hs (hI75).1 (by decide) rfl
  rintro _ S82 ⟨eS82, b81, rfl, kb81⟩
  rw [eS82]
  rcases kb81 with ⟨hb81, pb81, qb81⟩ | ⟨hb81, pb81⟩
  · skip
    have pb81 : ((S67.1 26)).toInt = 3 := pb81
    have qb81 : ((S67.1 29)).toInt = (44 : Int) := qb81
    show aw_W _ _ _ _ 254 lv80 [.int b81] _ _
    refine aw_t0 (j := 5) aj_d234 rfl (by decide) rfl ?_
    obtain ⟨lv84, elv84⟩ : ∃ l, l = aj_set1 lv80 5 (.int b81) := ⟨_, rfl⟩
    rw [← elv84]
    have hlv84_0 : aj_lv lv84 0 = some (.ref 117) := cw_e1 elv84 hlv80_0 (by decide) (Or.inl (by decide))
    have hlv84_1 : aj_lv lv84 1 = some (.int x69) := cw_e1 elv84 hlv80_1 (by decide) (Or.inl (by decide))
    have hlv84_2 : aj_lv lv84 2 = some (.int x70) := cw_e1 elv84 hlv80_2 (by decide) (Or.inl (by decide))
    have hlv84_3 : aj_lv lv84 3 = some (.int x71) := cw_e1 elv84 hlv80_3 (by decide) (Or.inl (by decide))
    have hlv84_4 : aj_lv lv84 4 = some (.int x79) := cw_e1 elv84 hlv80_4 (by decide) (Or.inr rfl)
    have hlv84_5 : aj_lv lv84 5 = some (.int b81) := by rw [elv84]; exact ak_set1_eq _ _ _
    show aw_W _ _ _ _ 256 lv84 [] _ _
    refine aw_l0 aj_d234 rfl rfl hlv84_5 ?_
    refine aw_z (tgt := 145) aj_d234 rfl rfl (fun q85 => ?_) (fun q85 => ?_)
    · have q85 : (1 : Int) = (0 : Int) := aw_t_eq (a := (1 : Int)) (b := (0 : Int)) hb81 rfl q85
      exfalso
      omega
    · have q85 : (1 : Int) ≠ (0 : Int) := aw_t_eq (a := (1 : Int)) (b := (0 : Int)) hb81 rfl q85
      refine aw_l2 aj_d234 rfl rfl hlv84_0 ?_
      refine aw_k hU.1 aj_d234 rfl rfl [] rfl rfl rfl (Nat.le_of_ble_eq_true rfl) (ar_pass hU (hI75).1 hI73.2 (by omega) (show ((S67.1 26)).toInt ≠ 0 by omega) (show ¬ (((S67.1 26)).toInt = 3 ∧ ((S67.1 29)).toInt = 63) by omega) (show ((S67.1 26)).toInt = 4 → ((S67.1 29)).toInt = 3 ∨ 6 ≤ ((S67.1 29)).toInt by omega)) ?_
      rintro _ S86 ⟨hT86, fc86, ⟨b86, rfl, hb86, hG86, fd86, hz86⟩ | ⟨b86, rfl, hb86, hG86, ck86, fd86, cj86⟩⟩
      · skip
        have fr87 := aw_fr_tr fr74 (aw_fr_sub (F := [24, 25, 31]) (A := []) (by decide) (by decide) fd86)
        have hI88 : aw_I s h (aw_sm S86) S86 := ⟨hT86, aw_sm_rf⟩
        show aw_W _ _ _ _ 265 lv84 [.int b86] _ _
        refine aw_z (tgt := 145) aj_d234 rfl rfl (fun q89 => ?_) (fun q89 => ?_)
        · have q89 : (0 : Int) ≠ (0 : Int) := aw_t_ne (a := (0 : Int)) (b := (0 : Int)) hb86 rfl q89
          exfalso
          omega
        · have q89 : (0 : Int) = (0 : Int) := aw_t_ne (a := (0 : Int)) (b := (0 : Int)) hb86 rfl q89
          refine aw_n aj_d234 rfl rfl ?_
          refine aw_e aj_d234 rfl rfl ?_
          exact ⟨(hI88).1, fr87, Or.inl ⟨_, rfl, rfl, aw_G_B hG86⟩⟩
      · skip
        have cj86 : (S86.1 30).toInt = ((S67.1 30)).toInt + 1 := cj86
        have fr90 := aw_fr_tr fr74 (aw_fr_sub (F := [26, 27, 28, 29, 30]) (A := []) (by decide) (by decide) fd86)
        have hI91 : aw_I s h (aw_sm S86) S86 := ⟨hT86, aw_sm_rf⟩
        show aw_W _ _ _ _ 265 lv84 [.int b86] _ _
        refine aw_z (tgt := 145) aj_d234 rfl rfl (fun q92 => ?_) (fun q92 => ?_)
        · have q92 : (1 : Int) ≠ (0 : Int) := aw_t_ne (a := (1 : Int)) (b := (0 : Int)) hb86 rfl q92
          refine aw_l0 aj_d234 rfl rfl hlv84_5 ?_
          refine aw_z (tgt := 270) aj_d234 rfl rfl (fun q93 => ?_) (fun q93 => ?_)
          · have q93 : (1 : Int) = (0 : Int) := aw_t_eq (a := (1 : Int)) (b := (0 : Int)) hb81 rfl q93
            exfalso
            omega
          · have q93 : (1 : Int) ≠ (0 : Int) := aw_t_eq (a := (1 : Int)) (b := (0 : Int)) hb81 rfl q93
            have b94 : 0 ≤ (S86.1 30).toInt ∧ (S86.1 30).toInt ≤ 1001 := aw_bd_f hs (hI91).1 (by decide) rfl
            have c95 : (S86.1 37).toInt = (S67.1 37).toInt := (congrArg Int32.toInt (fd86.1 37 (by decide)).1).trans rfl
            have b96 : 0 ≤ (S86.1 37).toInt ∧ (S86.1 37).toInt ≤ 1 := aw_bd_f hs (hI91).1 (by decide) rfl
            have c97 : (S86.1 32).toInt = (S67.1 32).toInt := (congrArg Int32.toInt (fd86.1 32 (by decide)).1).trans rfl
            have b98 : 0 ≤ (S86.1 32).toInt ∧ (S86.1 32).toInt ≤ 1 := aw_bd_f hs (hI91).1 (by decide) rfl
            exact ihL150_32 S86 lv84 (x69) (x70) (x71) (x79) hlv84_0 hlv84_1 hlv84_2 hlv84_3 hlv84_4 ⟨(hI91).1, hG86⟩ fr90 (by omega) (by omega) (by omega) (show _ ≤ ((S86.1 30)).toInt by omega) (show _ = ((S86.1 37)).toInt * 10 + _ by omega) (ar_mk (fun z => ar_un wk245 (by have z : ((S86.1 32)).toInt = 1 := z; show ((S67.1 32)).toInt = 1; omega))) (ar_mk (fun z0 z1 => by rw [show (S86.2.2.1 14) = S67.2.2.1 14 from ((fd86.2 14 (by decide)).1.trans rfl)]; rw [show (S86.2.2.1 9) = S67.2.2.1 9 from ((fd86.2 9 (by decide)).1.trans rfl)] at z1; exact ar_un rw245 z0 z1)) (show _ ≤ ((S86.1 30)).toInt by omega) (show (1001 - ((S86.1 30)).toInt).toNat < _ by omega)
        · have q92 : (1 : Int) = (0 : Int) := aw_t_ne (a := (1 : Int)) (b := (0 : Int)) hb86 rfl q92
          exfalso
          omega
  · skip
    clear pb81
    show aw_W _ _ _ _ 254 lv80 [.int b81] _ _
    refine aw_t0 (j := 5) aj_d234 rfl (by decide) rfl ?_
    obtain ⟨lv99, elv99⟩ : ∃ l, l = aj_set1 lv80 5 (.int b81) := ⟨_, rfl⟩
    rw [← elv99]
    have hlv99_0 : aj_lv lv99 0 = some (.ref 117) := cw_e1 elv99 hlv80_0 (by decide) (Or.inl (by decide))
    have hlv99_1 : aj_lv lv99 1 = some (.int x69) := cw_e1 elv99 hlv80_1 (by decide) (Or.inl (by decide))
    have hlv99_2 : aj_lv lv99 2 = some (.int x70) := cw_e1 elv99 hlv80_2 (by decide) (Or.inl (by decide))
    have hlv99_3 : aj_lv lv99 3 = some (.int x71) := cw_e1 elv99 hlv80_3 (by decide) (Or.inl (by decide))
    have hlv99_4 : aj_lv lv99 4 = some (.int x79) := cw_e1 elv99 hlv80_4 (by decide) (Or.inr rfl)
    have hlv99_5 : aj_lv lv99 5 = some (.int b81) := by rw [elv99]; exact ak_set1_eq _ _ _
    show aw_W _ _ _ _ 256 lv99 [] _ _
    refine aw_l0 aj_d234 rfl rfl hlv99_5 ?_
    refine aw_z (tgt := 145) aj_d234 rfl rfl (fun q100 => ?_) (fun q100 => ?_)
    · have q100 : (0 : Int) = (0 : Int) := aw_t_eq (a := (0 : Int)) (b := (0 : Int)) hb81 rfl q100
      refine aw_l0 aj_d234 rfl rfl hlv99_5 ?_
      refine aw_z (tgt := 270) aj_d234 rfl rfl (fun q101 => ?_) (fun q101 => ?_)
      · have q101 : (0 : Int) = (0 : Int) := aw_t_eq (a := (0 : Int)) (b := (0 : Int)) hb81 rfl q101
        exact (ar_row_L270_101 hU hd S12 N150 S34 x36 x37 x38 x39 ihL150_32 hm150 S47 S67) S67 lv99 (x69) (x70) (x71) (x79) hlv99_0 hlv99_1 hlv99_2 hlv99_3 hlv99_4 ⟨(hI75).1, hI73.2⟩ fr74 (by omega) (by omega) (by omega) (show _ ≤ ((S67.1 30)).toInt by omega) (show _ = ((S67.1 37)).toInt * 10 + _ by omega) (ar_mk (fun z => ar_un wk245 (by have z : ((S67.1 32)).toInt = 1 := z; show ((S67.1 32)).toInt = 1; omega))) (ar_mk (fun z0 z1 => by rw [show (S67.2.2.1 14) = S67.2.2.1 14 from rfl]; rw [show (S67.2.2.1 9) = S67.2.2.1 9 from rfl] at z1; exact ar_un rw245 z0 z1)) (show _ ≤ ((S67.1 30)).toInt by omega)
      · have q101 : (0 : Int) ≠ (0 : Int) := aw_t_eq (a := (0 : Int)) (b := (0 : Int)) hb81 rfl q101
        exfalso
        omega
    · have q100 : (0 : Int) ≠ (0 : Int) := aw_t_eq (a := (0 : Int)) (b := (0 : Int)) hb81 rfl q100
      exfalso
      omega
theorem ar_row_L186_45 (hU : aw_U tb s h) (hd : 9 ≤ d + 1) (S12 : aj_S) (N150 : Nat) (S34 : aj_S) (x36 : Int32) (x37 : Int32) (x38 : Int32) (x39 : Int32) (ihL150_32 : ∀ (S34 : aj_S) (lv35 : aj_V) (x36 : Int32) (x37 : Int32) (x38 : Int32) (x39 : Int32), (aj_lv lv35 0 = some (.ref 117)) → (aj_lv lv35 1 = some (.int x36)) → (aj_lv lv35 2 = some (.int x37)) → (aj_lv lv35 3 = some (.int x38)) → (aj_lv lv35 4 = some (.int x39)) → (aw_I s h (aw_G (nm, false, la, 0, 0, 0)) S34) → (aw_fr [24, 25, 26, 27, 28, 29, 30, 31, 33, 34, 35, 36, 38, 39, 40, 41, 43, 44] [14, 17, 18, 19, 20, 22] S S34) → ((-1) ≤ x36.toInt ∧ x36.toInt ≤ 9) → ((-1) ≤ x37.toInt ∧ x37.toInt ≤ 19) → (0 ≤ x39.toInt ∧ x39.toInt ≤ 1001) → ((S.1 30).toInt + 1 ≤ (S34.1 30).toInt) → (x37.toInt = (S34.1 37).toInt * 10 + x36.toInt) → (ar_hd ((S34.1 32).toInt = 1 → 0 ≤ x36.toInt)) → (ar_hd (0 ≤ x36.toInt → (S34.2.2.1 9 (x37.toInt).toNat).toInt = 0 → (S34.2.2.1 14 (x37.toInt).toNat).toInt ≤ 29)) → (x39.toInt ≤ (S34.1 30).toInt) → (1001 - (S34.1 30).toInt).toNat < N150 → aw_W tb h d aj_m234 150 lv35 [] S34 ((ar_QB s h [24, 25, 26, 27, 28, 29, 30, 31, 33, 34, 35, 36, 38, 39, 40, 41, 43, 44] [14, 17, 18, 19, 20, 22] S aw_B (fun S' => aw_G (nm, false, la, 0, 0, 0) S' ∧ (S.1 30).toInt + 1 ≤ (S'.1 30).toInt)))) (hm150 : (1001 - (S34.1 30).toInt).toNat < N150 + 1) : ∀ (S47 : aj_S) (lv48 : aj_V) (x49 : Int32) (x50 : Int32) (x51 : Int32) (x52 : Int32), (aj_lv lv48 0 = some (.ref 117)) → (aj_lv lv48 1 = some (.int x49)) → (aj_lv lv48 2 = some (.int x50)) → (aj_lv lv48 3 = some (.int x51)) → (aj_lv lv48 4 = some (.int x52)) → (aw_I s h (aw_G (nm, false, la, 0, 0, 0)) S47) → (aw_fr [24, 25, 26, 27, 28, 29, 30, 31, 33, 34, 35, 36, 38, 39, 40, 41, 43, 44] [14, 17, 18, 19, 20, 22] S S47) → ((-1) ≤ x49.toInt ∧ x49.toInt ≤ 9) → ((-1) ≤ x50.toInt ∧ x50.toInt ≤ 19) → (0 ≤ x52.toInt ∧ x52.toInt ≤ 1001) → ((S.1 30).toInt + 1 ≤ (S47.1 30).toInt) → (x50.toInt = (S47.1 37).toInt * 10 + x49.toInt) → (ar_hd ((S47.1 32).toInt = 1 → 0 ≤ x49.toInt)) → (ar_hd (0 ≤ x49.toInt → (S47.2.2.1 9 (x50.toInt).toNat).toInt = 0 → (S47.2.2.1 14 (x50.toInt).toNat).toInt ≤ 29)) → (x52.toInt ≤ (S47.1 30).toInt) → ((S34.1 30).toInt ≤ (S47.1 30).toInt) → aw_W tb h d aj_m234 186 lv48 [] S47 ((ar_QB s h [24, 25, 26, 27, 28, 29, 30, 31, 33, 34, 35, 36, 38, 39, 40, 41, 43, 44] [14, 17, 18, 19, 20, 22] S aw_B (fun S' => aw_G (nm, false, la, 0, 0, 0) S' ∧ (S.1 30).toInt + 1 ≤ (S'.1 30).toInt))) := by
  have hs : aw_sT s := aw_hy_sT hU.2.2
  intro S47 lv48 x49 x50 x51 x52 hlv48_0 hlv48_1 hlv48_2 hlv48_3 hlv48_4 hI53 fr54 bx49 bx50 bx52 ck186 sl186 wk186 rw186 n186 cA186
  have hI55 : aw_I s h (aw_sm S47) S47 := ⟨hI53.1, aw_sm_rf⟩
  have b56 : 0 ≤ (S47.1 30).toInt ∧ (S47.1 30).toInt ≤ 1001 := aw_bd_f hs (hI55).1 (by decide) rfl
  have b57 : 0 ≤ (S47.1 37).toInt ∧ (S47.1 37).toInt ≤ 1 := aw_bd_f hs (hI55).1 (by decide) rfl
  have b58 : 0 ≤ (S47.1 32).toInt ∧ (S47.1 32).toInt ≤ 1 := aw_bd_f hs (hI55).1 (by decide) rfl
  refine aw_l2 aj_d234 rfl rfl hlv48_0 ?_
  refine aw_k hU.1 aj_d234 rfl rfl [] rfl rfl rfl (Nat.le_of_ble_eq_true rfl) (ar_term hU (hI55).1 hI53.2 (by omega)) ?_
  rintro _ S59 ⟨hT59, fc59, ⟨b59, rfl, hb59, hG59, ck59⟩ | ⟨b59, rfl, hb59, hG59, ck59, tv59⟩⟩
  · skip
    have ck59 : ((S47.1 30)).toInt ≤ (S59.1 30).toInt := ck59
    have fr60 := aw_fr_tr fr54 (aw_fr_sub (F := [24, 25, 26, 27, 28, 29, 30, 31, 33, 34, 35, 36, 38, 39]) (A := []) (by decide) (by decide) fc59)
    have hI61 : aw_I s h (aw_sm S59) S59 := ⟨hT59, aw_sm_rf⟩
    show aw_W _ _ _ _ 190 lv48 [.int b59] _ _
    refine aw_z (tgt := 195) aj_d234 rfl rfl (fun q62 => ?_) (fun q62 => ?_)
    · have q62 : (0 : Int) ≠ (0 : Int) := aw_t_ne (a := (0 : Int)) (b := (0 : Int)) hb59 rfl q62
      exfalso
      omega
    · have q62 : (0 : Int) = (0 : Int) := aw_t_ne (a := (0 : Int)) (b := (0 : Int)) hb59 rfl q62
      refine aw_n aj_d234 rfl rfl ?_
      refine aw_e aj_d234 rfl rfl ?_
      exact ⟨(hI61).1, fr60, Or.inl ⟨_, rfl, rfl, aw_G_B hG59⟩⟩
  · skip
    have ck59 : ((S47.1 30)).toInt + 1 ≤ (S59.1 30).toInt := ck59
    have fr63 := aw_fr_tr fr54 (aw_fr_sub (F := [24, 25, 26, 27, 28, 29, 30, 31, 33, 34, 35, 36, 38, 39]) (A := []) (by decide) (by decide) fc59)
    have hI64 : aw_I s h (aw_sm S59) S59 := ⟨hT59, aw_sm_rf⟩
    show aw_W _ _ _ _ 190 lv48 [.int b59] _ _
    refine aw_z (tgt := 195) aj_d234 rfl rfl (fun q65 => ?_) (fun q65 => ?_)
    · have q65 : (1 : Int) ≠ (0 : Int) := aw_t_ne (a := (1 : Int)) (b := (0 : Int)) hb59 rfl q65
      refine aw_l2 aj_d234 rfl rfl hlv48_0 ?_
      have c291 : (S59.1 32).toInt = (S47.1 32).toInt := (congrArg Int32.toInt (fc59.1 32 (by decide)).1).trans rfl
      have b292 : 0 ≤ (S59.1 32).toInt ∧ (S59.1 32).toInt ≤ 1 := aw_bd_f hs (hI64).1 (by decide) rfl
      refine aw_g hU.1 aj_d234 rfl rfl (by decide) (v := .int (S59.1 32)) rfl ?_
      refine aw_z (tgt := 245) aj_d234 rfl rfl (fun q293 => ?_) (fun q293 => ?_)
      · have q293 : (S47.1 32).toInt = (0 : Int) := aw_t_eq (a := (S47.1 32).toInt) (b := (0 : Int)) c291 rfl q293
        have b294 : 0 ≤ (S59.1 30).toInt ∧ (S59.1 30).toInt ≤ 1001 := aw_bd_f hs (hI64).1 (by decide) rfl
        have c295 : (S59.1 37).toInt = (S47.1 37).toInt := (congrArg Int32.toInt (fc59.1 37 (by decide)).1).trans rfl
        have b296 : 0 ≤ (S59.1 37).toInt ∧ (S59.1 37).toInt ≤ 1 := aw_bd_f hs (hI64).1 (by decide) rfl
        exact (ar_row_L245_65 hU hd S12 N150 S34 x36 x37 x38 x39 ihL150_32 hm150 S47) S59 lv48 (x49) (x50) (x51) (x52) hlv48_0 hlv48_1 hlv48_2 hlv48_3 hlv48_4 ⟨(hI64).1, hG59⟩ fr63 (by omega) (by omega) (by omega) (show _ ≤ ((S59.1 30)).toInt by omega) (show _ = ((S59.1 37)).toInt * 10 + _ by omega) (ar_mk (fun z => ar_un wk186 (by have z : ((S59.1 32)).toInt = 1 := z; show ((S47.1 32)).toInt = 1; omega))) (ar_mk (fun z0 z1 => by rw [show (S59.2.2.1 14) = S47.2.2.1 14 from ((fc59.2 14 (by decide)).1.trans rfl)]; rw [show (S59.2.2.1 9) = S47.2.2.1 9 from ((fc59.2 9 (by decide)).1.trans rfl)] at z1; exact ar_un rw186 z0 z1)) (show _ ≤ ((S59.1 30)).toInt by omega) (show _ ≤ ((S59.1 30)).toInt by omega)
      · have q293 : (S47.1 32).toInt ≠ (0 : Int) := aw_t_eq (a := (S47.1 32).toInt) (b := (0 : Int)) c291 rfl q293
        have uw := ar_un wk186 (show ((S47.1 32)).toInt = 1 by omega)
        refine aw_l2 aj_d234 rfl rfl hlv48_0 ?_
        refine aw_g hU.1 aj_d234 rfl rfl (by decide) (v := .ref 134) rfl ?_
        refine aw_l0 aj_d234 rfl rfl hlv48_2 ?_
        refine aw_l2 aj_d234 rfl rfl hlv48_0 ?_
        refine aw_g hU.1 aj_d234 rfl rfl (by decide) (v := .ref 131) rfl ?_
        refine aw_l0 aj_d234 rfl rfl hlv48_2 ?_
        refine aw_ld (k := 14) hU.1 aj_d234 (Or.inl ⟨rfl, rfl⟩) rfl (by decide) (by decide) rfl (a := x50.toInt) rfl (by omega) (by omega) (fun x297 ex297 => ?_)
        have bx297 : 0 ≤ x297.toInt ∧ x297.toInt ≤ 30 := by
          rw [ex297]
          exact aw_bd_a hs (hI64).1 (k := 14) (by decide) (by decide) rfl (by decide) rfl (by omega)
        have ftx297 : x297.toInt = (S47.2.2.1 14 (x50.toInt).toNat).toInt := congrArg Int32.toInt (ex297.trans (congrFun ((fc59.2 14 (by decide)).1.trans rfl) _))
        refine aw_l0 aj_d234 rfl rfl hlv48_4 ?_
        refine aw_ks aj_d234 rfl rfl rfl [_, _, _] rfl rfl (Nat.le_of_ble_eq_true rfl) (ar_cellAt (by omega) (a := x50.toInt) (b := x297.toInt) (c := x52.toInt) rfl rfl rfl (by omega) (by omega) (by omega)) ?_
        rintro _ zx298 ⟨fx298, x298, rfl, ex298⟩
        rw [fx298]
        show aw_W _ _ _ _ 218 lv48 [.int x298, .ref 134] _ _
        refine aw_l2 aj_d234 rfl rfl hlv48_0 ?_
        have b299 : 0 ≤ (S59.1 38).toInt ∧ (S59.1 38).toInt ≤ 1 := aw_bd_f hs (hI64).1 (by decide) rfl
        refine aw_g hU.1 aj_d234 rfl rfl (by decide) (v := .int (S59.1 38)) rfl ?_
        refine aw_any aj_d234 rfl rfl (fun x300 ex300 => ?_)
        have zi : x300.toInt = ((S59.1 38)).toInt := by
          rw [ex300]
          rcases ar_bool01 (x := (S59.1 38)) (by omega) with y | y <;> rw [y] <;> rfl
        refine aw_st (k := 17) hU.1 aj_d234 (Or.inr (Or.inr (Or.inr ⟨rfl, rfl⟩))) rfl (by decide) (by decide) rfl (a := ((x50.toInt * 30 + x297.toInt) * 8 + x52.toInt)) ex298 (by omega) (by omega) ?_
        have hI301 : aw_I s h (aw_sm (aw_wa S59 17 (((x50.toInt * 30 + x297.toInt) * 8 + x52.toInt)).toNat (aj_nar 4 x300))) (aw_wa S59 17 (((x50.toInt * 30 + x297.toInt) * 8 + x52.toInt)).toNat (aj_nar 4 x300)) := ⟨aw_T_a hU.2.1 hs hU.1.1 (hI64).1 (by decide) (by decide) rfl (by decide) (by decide) rfl (aw_nar4 (aw_bp (a := x300.toInt) rfl (by omega) (by omega)) (by decide) (by decide)), aw_sm_rf⟩
        have fr302 := aw_fr_a (k := 17) (j := (((x50.toInt * 30 + x297.toInt) * 8 + x52.toInt)).toNat) (v := aj_nar 4 x300) (by decide) fr63
        refine aw_l2 aj_d234 rfl rfl hlv48_0 ?_
        refine aw_g hU.1 aj_d234 rfl rfl (by decide) (v := .ref 135) rfl ?_
        refine aw_l0 aj_d234 rfl rfl hlv48_2 ?_
        refine aw_l2 aj_d234 rfl rfl hlv48_0 ?_
        refine aw_g hU.1 aj_d234 rfl rfl (by decide) (v := .ref 131) rfl ?_
        refine aw_l0 aj_d234 rfl rfl hlv48_2 ?_
        refine aw_ld (k := 14) hU.1 aj_d234 (Or.inl ⟨rfl, rfl⟩) rfl (by decide) (by decide) rfl (a := x50.toInt) rfl (by omega) (by omega) (fun x303 ex303 => ?_)
        have bx303 : 0 ≤ x303.toInt ∧ x303.toInt ≤ 30 := by
          rw [ex303]
          exact aw_bd_a hs (hI301).1 (k := 14) (by decide) (by decide) rfl (by decide) rfl (by omega)
        have ftx303 : x303.toInt = (S47.2.2.1 14 (x50.toInt).toNat).toInt := congrArg Int32.toInt (ex303.trans (congrFun ((fc59.2 14 (by decide)).1.trans rfl) _))
        refine aw_l0 aj_d234 rfl rfl hlv48_4 ?_
        refine aw_ks aj_d234 rfl rfl rfl [_, _, _] rfl rfl (Nat.le_of_ble_eq_true rfl) (ar_cellAt (by omega) (a := x50.toInt) (b := x303.toInt) (c := x52.toInt) rfl rfl rfl (by omega) (by omega) (by omega)) ?_
        rintro _ zx304 ⟨fx304, x304, rfl, ex304⟩
        rw [fx304]
        show aw_W _ _ _ _ 240 lv48 [.int x304, .ref 135] _ _
        refine aw_l2 aj_d234 rfl rfl hlv48_0 ?_
        refine aw_g hU.1 aj_d234 rfl rfl (by decide) (v := .int (S59.1 39)) rfl ?_
        refine aw_st (k := 18) hU.1 aj_d234 (Or.inl ⟨rfl, rfl⟩) rfl (by decide) (by decide) rfl (a := ((x50.toInt * 30 + x303.toInt) * 8 + x52.toInt)) ex304 (by omega) (by omega) ?_
        have hI305 : aw_I s h (aw_sm (aw_wa (aw_wa S59 17 (((x50.toInt * 30 + x297.toInt) * 8 + x52.toInt)).toNat (aj_nar 4 x300)) 18 (((x50.toInt * 30 + x303.toInt) * 8 + x52.toInt)).toNat (aj_nar 0 (S59.1 39)))) (aw_wa (aw_wa S59 17 (((x50.toInt * 30 + x297.toInt) * 8 + x52.toInt)).toNat (aj_nar 4 x300)) 18 (((x50.toInt * 30 + x303.toInt) * 8 + x52.toInt)).toNat (aj_nar 0 (S59.1 39))) := ⟨aw_T_a hU.2.1 hs hU.1.1 (hI301).1 (by decide) (by decide) rfl (by decide) (by decide) rfl (aw_full _), aw_sm_rf⟩
        have fr306 := aw_fr_a (k := 18) (j := (((x50.toInt * 30 + x303.toInt) * 8 + x52.toInt)).toNat) (v := aj_nar 0 (S59.1 39)) (by decide) fr302
        have hG307 := aw_G_sk (S' := (aw_wa (aw_wa S59 17 (((x50.toInt * 30 + x297.toInt) * 8 + x52.toInt)).toNat (aj_nar 4 x300)) 18 (((x50.toInt * 30 + x303.toInt) * 8 + x52.toInt)).toNat (aj_nar 0 (S59.1 39)))) hG59 (aw_sk_2 aw_sk_rf) (aw_kv_2 (aw_G_B hG59).1 (by first | rfl | omega | (congr 1)) (by
            rw [aw_nar4_01 (by omega)]
            intro z
            have u := (show ((S59.1 32)).toInt ≠ 0 → ((S59.1 38)).toInt = 1 → 0 ≤ ((S59.1 39)).toInt ∧ ((S59.1 39)).toInt ≤ 7 from tv59) (by omega) (by omega)
            show 0 ≤ ((S59.1 39)).toInt ∧ ((S59.1 39)).toInt ≤ 7
            omega))
        have hI308 : aw_I s h (aw_sm (aw_wa (aw_wa S59 17 (((x50.toInt * 30 + x297.toInt) * 8 + x52.toInt)).toNat (aj_nar 4 x300)) 18 (((x50.toInt * 30 + x303.toInt) * 8 + x52.toInt)).toNat (aj_nar 0 (S59.1 39)))) (aw_wa (aw_wa S59 17 (((x50.toInt * 30 + x297.toInt) * 8 + x52.toInt)).toNat (aj_nar 4 x300)) 18 (((x50.toInt * 30 + x303.toInt) * 8 + x52.toInt)).toNat (aj_nar 0 (S59.1 39))) := ⟨(hI305).1, aw_sm_rf⟩
        have b309 : 0 ≤ (S59.1 30).toInt ∧ (S59.1 30).toInt ≤ 1001 := aw_bd_f hs (hI64).1 (by decide) rfl
        have c310 : (S59.1 37).toInt = (S47.1 37).toInt := (congrArg Int32.toInt (fc59.1 37 (by decide)).1).trans rfl
        have b311 : 0 ≤ (S59.1 37).toInt ∧ (S59.1 37).toInt ≤ 1 := aw_bd_f hs (hI64).1 (by decide) rfl
        exact (ar_row_L245_65 hU hd S12 N150 S34 x36 x37 x38 x39 ihL150_32 hm150 S47) (aw_wa (aw_wa S59 17 (((x50.toInt * 30 + x297.toInt) * 8 + x52.toInt)).toNat (aj_nar 4 x300)) 18 (((x50.toInt * 30 + x303.toInt) * 8 + x52.toInt)).toNat (aj_nar 0 (S59.1 39))) lv48 (x49) (x50) (x51) (x52) hlv48_0 hlv48_1 hlv48_2 hlv48_3 hlv48_4 ⟨(hI308).1, hG307⟩ fr306 (by omega) (by omega) (by omega) (show _ ≤ ((S59.1 30)).toInt by omega) (show _ = ((S59.1 37)).toInt * 10 + _ by omega) (ar_mk (fun z => ar_un wk186 (by have z : ((S59.1 32)).toInt = 1 := z; show ((S47.1 32)).toInt = 1; omega))) (ar_mk (fun z0 z1 => by rw [show ((aw_wa (aw_wa S59 17 (((x50.toInt * 30 + x297.toInt) * 8 + x52.toInt)).toNat (aj_nar 4 x300)) 18 (((x50.toInt * 30 + x303.toInt) * 8 + x52.toInt)).toNat (aj_nar 0 (S59.1 39))).2.2.1 14) = S47.2.2.1 14 from ((fc59.2 14 (by decide)).1.trans rfl)]; rw [show ((aw_wa (aw_wa S59 17 (((x50.toInt * 30 + x297.toInt) * 8 + x52.toInt)).toNat (aj_nar 4 x300)) 18 (((x50.toInt * 30 + x303.toInt) * 8 + x52.toInt)).toNat (aj_nar 0 (S59.1 39))).2.2.1 9) = S47.2.2.1 9 from ((fc59.2 9 (by decide)).1.trans rfl)] at z1; exact ar_un rw186 z0 z1)) (show _ ≤ ((S59.1 30)).toInt by omega) (show _ ≤ ((S59.1 30)).toInt by omega)
    · have q65 : (1 : Int) = (0 : Int) := aw_t_ne (a := (1 : Int)) (b := (0 : Int)) hb59 rfl q65
      exfalso
      omega
theorem ar_row_L353_362 (hU : aw_U tb s h) (hd : 9 ≤ d + 1) (S12 : aj_S) (N150 : Nat) (S34 : aj_S) (x36 : Int32) (x37 : Int32) (x38 : Int32) (x39 : Int32) (ihL150_32 : ∀ (S34 : aj_S) (lv35 : aj_V) (x36 : Int32) (x37 : Int32) (x38 : Int32) (x39 : Int32), (aj_lv lv35 0 = some (.ref 117)) → (aj_lv lv35 1 = some (.int x36)) → (aj_lv lv35 2 = some (.int x37)) → (aj_lv lv35 3 = some (.int x38)) → (aj_lv lv35 4 = some (.int x39)) → (aw_I s h (aw_G (nm, false, la, 0, 0, 0)) S34) → (aw_fr [24, 25, 26, 27, 28, 29, 30, 31, 33, 34, 35, 36, 38, 39, 40, 41, 43, 44] [14, 17, 18, 19, 20, 22] S S34) → ((-1) ≤ x36.toInt ∧ x36.toInt ≤ 9) → ((-1) ≤ x37.toInt ∧ x37.toInt ≤ 19) → (0 ≤ x39.toInt ∧ x39.toInt ≤ 1001) → ((S.1 30).toInt + 1 ≤ (S34.1 30).toInt) → (x37.toInt = (S34.1 37).toInt * 10 + x36.toInt) → (ar_hd ((S34.1 32).toInt = 1 → 0 ≤ x36.toInt)) → (ar_hd (0 ≤ x36.toInt → (S34.2.2.1 9 (x37.toInt).toNat).toInt = 0 → (S34.2.2.1 14 (x37.toInt).toNat).toInt ≤ 29)) → (x39.toInt ≤ (S34.1 30).toInt) → (1001 - (S34.1 30).toInt).toNat < N150 → aw_W tb h d aj_m234 150 lv35 [] S34 ((ar_QB s h [24, 25, 26, 27, 28, 29, 30, 31, 33, 34, 35, 36, 38, 39, 40, 41, 43, 44] [14, 17, 18, 19, 20, 22] S aw_B (fun S' => aw_G (nm, false, la, 0, 0, 0) S' ∧ (S.1 30).toInt + 1 ≤ (S'.1 30).toInt)))) (hm150 : (1001 - (S34.1 30).toInt).toNat < N150 + 1) (S313 : aj_S) (S333 : aj_S) (S344 : aj_S) : ∀ (N : Nat) (S364 : aj_S) (lv365 : aj_V) (x366 : Int32) (x367 : Int32) (x368 : Int32) (x369 : Int32), (aj_lv lv365 0 = some (.ref 117)) → (aj_lv lv365 1 = some (.int x366)) → (aj_lv lv365 2 = some (.int x367)) → (aj_lv lv365 6 = some (.int x368)) → (aj_lv lv365 7 = some (.int x369)) → (aw_I s h (aw_G (nm, false, la, 0, 0, 0)) S364) → (aw_fr [24, 25, 26, 27, 28, 29, 30, 31, 33, 34, 35, 36, 38, 39, 40, 41, 43, 44] [14, 17, 18, 19, 20, 22] S S364) → ((-1) ≤ x366.toInt ∧ x366.toInt ≤ 9) → ((-1) ≤ x367.toInt ∧ x367.toInt ≤ 19) → (0 ≤ x368.toInt ∧ x368.toInt ≤ 1) → (0 ≤ x369.toInt ∧ x369.toInt ≤ 1024) → ((S.1 30).toInt + 1 ≤ (S364.1 30).toInt) → (x367.toInt = (S364.1 37).toInt * 10 + x366.toInt) → (ar_hd ((S364.1 32).toInt = 1 → 0 ≤ x366.toInt)) → (ar_hd (0 ≤ x366.toInt → (S364.2.2.1 9 (x367.toInt).toNat).toInt = 0 → (S364.2.2.1 14 (x367.toInt).toNat).toInt ≤ 29)) → (1024 - x369.toInt).toNat < N → aw_W tb h d aj_m234 353 lv365 [] S364 ((ar_QB s h [24, 25, 26, 27, 28, 29, 30, 31, 33, 34, 35, 36, 38, 39, 40, 41, 43, 44] [14, 17, 18, 19, 20, 22] S aw_B (fun S' => aw_G (nm, false, la, 0, 0, 0) S' ∧ (S.1 30).toInt + 1 ≤ (S'.1 30).toInt))) := by
  have hs : aw_sT s := aw_hy_sT hU.2.2
  intro N353
  induction N353 with
  | zero =>
    intro S364 lv365 x366 x367 x368 x369 hlv365_0 hlv365_1 hlv365_2 hlv365_6 hlv365_7 hI370 fr371 bx366 bx367 bx368 bx369 ck353 sl353 wk353 rw353 hm353
    omega
  | succ N353 ihL353_362 =>
    intro S364 lv365 x366 x367 x368 x369 hlv365_0 hlv365_1 hlv365_2 hlv365_6 hlv365_7 hI370 fr371 bx366 bx367 bx368 bx369 ck353 sl353 wk353 rw353 hm353
    have hI372 : aw_I s h (aw_sm S364) S364 := ⟨hI370.1, aw_sm_rf⟩
    have b373 : 0 ≤ (S364.1 30).toInt ∧ (S364.1 30).toInt ≤ 1001 := aw_bd_f hs (hI372).1 (by decide) rfl
    have b374 : 0 ≤ (S364.1 37).toInt ∧ (S364.1 37).toInt ≤ 1 := aw_bd_f hs (hI372).1 (by decide) rfl
    have b375 : 0 ≤ (S364.1 32).toInt ∧ (S364.1 32).toInt ≤ 1 := aw_bd_f hs (hI372).1 (by decide) rfl
    refine aw_l2 aj_d234 rfl rfl hlv365_0 ?_
    refine aw_g hU.1 aj_d234 rfl rfl (by decide) (v := .int (S364.1 32)) rfl ?_
    refine aw_z (tgt := 423) aj_d234 rfl rfl (fun q376 => ?_) (fun q376 => ?_)
    · have q376 : (S364.1 32).toInt = (0 : Int) := aw_t_eq (a := (S364.1 32).toInt) (b := (0 : Int)) rfl rfl q376
      refine aw_l0 aj_d234 rfl rfl hlv365_1 ?_
      refine aw_z (tgt := 446) aj_d234 rfl rfl (fun q377 => ?_) (fun q377 => ?_)
      · have q377 : x366.toInt < (0 : Int) := aw_t_lt (a := x366.toInt) (b := (0 : Int)) rfl rfl q377
        refine aw_n aj_d234 rfl rfl ?_
        refine aw_e aj_d234 rfl rfl ?_
        exact ⟨(hI372).1, fr371, Or.inr ⟨_, rfl, rfl, hI370.2, (show _ + 1 ≤ ((S364.1 30)).toInt by omega)⟩⟩
      · have q377 : x366.toInt ≥ (0 : Int) := aw_t_lt (a := x366.toInt) (b := (0 : Int)) rfl rfl q377
        refine aw_l2 aj_d234 rfl rfl hlv365_0 ?_
        refine aw_g hU.1 aj_d234 rfl rfl (by decide) (v := .ref 126) rfl ?_
        refine aw_l0 aj_d234 rfl rfl hlv365_2 ?_
        refine aw_ld (k := 9) hU.1 aj_d234 (Or.inr (Or.inr (Or.inl ⟨rfl, rfl⟩))) rfl (by decide) (by decide) rfl (a := x367.toInt) rfl (by omega) (by omega) (fun x378 ex378 => ?_)
        have bx378 : 0 ≤ x378.toInt ∧ x378.toInt ≤ 1 := by
          rw [ex378]
          exact aw_bd_a hs (hI372).1 (k := 9) (by decide) (by decide) rfl (by decide) rfl (by omega)
        have ftx378 : x378.toInt = (S364.2.2.1 9 (x367.toInt).toNat).toInt := congrArg Int32.toInt (ex378.trans (congrFun rfl _))
        refine aw_z (tgt := 446) aj_d234 rfl rfl (fun q379 => ?_) (fun q379 => ?_)
        · have q379 : x378.toInt ≠ (0 : Int) := aw_t_ne (a := x378.toInt) (b := (0 : Int)) rfl rfl q379
          refine aw_n aj_d234 rfl rfl ?_
          refine aw_e aj_d234 rfl rfl ?_
          exact ⟨(hI372).1, fr371, Or.inr ⟨_, rfl, rfl, hI370.2, (show _ + 1 ≤ ((S364.1 30)).toInt by omega)⟩⟩
        · have q379 : x378.toInt = (0 : Int) := aw_t_ne (a := x378.toInt) (b := (0 : Int)) rfl rfl q379
          refine aw_l2 aj_d234 rfl rfl hlv365_0 ?_
          refine aw_g hU.1 aj_d234 rfl rfl (by decide) (v := .ref 131) rfl ?_
          refine aw_l0 aj_d234 rfl rfl hlv365_2 ?_
          refine aw_n aj_d234 rfl rfl ?_
          refine aw_ld (k := 14) hU.1 aj_d234 (Or.inl ⟨rfl, rfl⟩) rfl (by decide) (by decide) rfl (a := x367.toInt) rfl (by omega) (by omega) (fun x380 ex380 => ?_)
          have bx380 : 0 ≤ x380.toInt ∧ x380.toInt ≤ 30 := by
            rw [ex380]
            exact aw_bd_a hs (hI372).1 (k := 14) (by decide) (by decide) rfl (by decide) rfl (by omega)
          have ftx380 : x380.toInt = (S364.2.2.1 14 (x367.toInt).toNat).toInt := congrArg Int32.toInt (ex380.trans (congrFun rfl _))
          have ur := ar_un rw353 (by omega) (by omega)
          refine aw_n aj_d234 rfl rfl ?_
          refine aw_add aj_d234 rfl (a := x380.toInt) (b := (1 : Int)) rfl rfl (by omega) (by omega) (fun x381 ex381 => ?_)
          refine aw_st (k := 14) hU.1 aj_d234 (Or.inl ⟨rfl, rfl⟩) rfl (by decide) (by decide) rfl (a := x367.toInt) rfl (by omega) (by omega) ?_
          have hI382 := aw_I_a (aw_UV hU aw_Gs_sm) (k := 14) (j := (x367.toInt).toNat) (v := aj_nar 0 x381) hI372 (by decide) (by decide) (by decide) rfl (by decide) (by decide) rfl (aw_bp (a := x381.toInt) rfl (by omega) (by omega))
          have fr383 := aw_fr_a (k := 14) (j := (x367.toInt).toNat) (v := aj_nar 0 x381) (by decide) fr371
          refine aw_n aj_d234 rfl rfl ?_
          refine aw_e aj_d234 rfl rfl ?_
          exact ⟨(hI382).1, fr383, Or.inr ⟨_, rfl, rfl, (aw_G_sm hI382.2 hI370.2), (show _ + 1 ≤ ((S364.1 30)).toInt by omega)⟩⟩
    · have q376 : (S364.1 32).toInt ≠ (0 : Int) := aw_t_eq (a := (S364.1 32).toInt) (b := (0 : Int)) rfl rfl q376
      refine aw_l0 aj_d234 rfl rfl hlv365_7 ?_
      refine aw_l2 aj_d234 rfl rfl hlv365_0 ?_
      refine aw_g hU.1 aj_d234 rfl rfl (by decide) (v := .ref 122) rfl ?_
      refine aw_l2 aj_d234 rfl rfl hlv365_0 ?_
      refine aw_g hU.1 aj_d234 rfl rfl (by decide) (v := .int (S364.1 37)) rfl ?_
      refine aw_ld (k := 5) hU.1 aj_d234 (Or.inl ⟨rfl, rfl⟩) rfl (by decide) (by decide) rfl (a := (S364.1 37).toInt) rfl (by omega) (by omega) (fun x384 ex384 => ?_)
      have bx384 : 0 ≤ x384.toInt ∧ x384.toInt ≤ 1024 := by
        rw [ex384]
        exact aw_bd_a hs (hI372).1 (k := 5) (by decide) (by decide) rfl (by decide) rfl (by omega)
      refine aw_c (tgt := 423) aj_d234 rfl rfl (fun q385 => ?_) (fun q385 => ?_)
      · have q385 : x369.toInt ≥ x384.toInt := aw_t_ge (a := x369.toInt) (b := x384.toInt) rfl rfl q385
        refine aw_l0 aj_d234 rfl rfl hlv365_1 ?_
        refine aw_z (tgt := 446) aj_d234 rfl rfl (fun q386 => ?_) (fun q386 => ?_)
        · have q386 : x366.toInt < (0 : Int) := aw_t_lt (a := x366.toInt) (b := (0 : Int)) rfl rfl q386
          refine aw_n aj_d234 rfl rfl ?_
          refine aw_e aj_d234 rfl rfl ?_
          exact ⟨(hI372).1, fr371, Or.inr ⟨_, rfl, rfl, hI370.2, (show _ + 1 ≤ ((S364.1 30)).toInt by omega)⟩⟩
        · have q386 : x366.toInt ≥ (0 : Int) := aw_t_lt (a := x366.toInt) (b := (0 : Int)) rfl rfl q386
          refine aw_l2 aj_d234 rfl rfl hlv365_0 ?_
          refine aw_g hU.1 aj_d234 rfl rfl (by decide) (v := .ref 126) rfl ?_
          refine aw_l0 aj_d234 rfl rfl hlv365_2 ?_
          refine aw_ld (k := 9) hU.1 aj_d234 (Or.inr (Or.inr (Or.inl ⟨rfl, rfl⟩))) rfl (by decide) (by decide) rfl (a := x367.toInt) rfl (by omega) (by omega) (fun x387 ex387 => ?_)
          have bx387 : 0 ≤ x387.toInt ∧ x387.toInt ≤ 1 := by
            rw [ex387]
            exact aw_bd_a hs (hI372).1 (k := 9) (by decide) (by decide) rfl (by decide) rfl (by omega)
          have ftx387 : x387.toInt = (S364.2.2.1 9 (x367.toInt).toNat).toInt := congrArg Int32.toInt (ex387.trans (congrFun rfl _))
          refine aw_z (tgt := 446) aj_d234 rfl rfl (fun q388 => ?_) (fun q388 => ?_)
          · have q388 : x387.toInt ≠ (0 : Int) := aw_t_ne (a := x387.toInt) (b := (0 : Int)) rfl rfl q388
            refine aw_n aj_d234 rfl rfl ?_
            refine aw_e aj_d234 rfl rfl ?_
            exact ⟨(hI372).1, fr371, Or.inr ⟨_, rfl, rfl, hI370.2, (show _ + 1 ≤ ((S364.1 30)).toInt by omega)⟩⟩
          · have q388 : x387.toInt = (0 : Int) := aw_t_ne (a := x387.toInt) (b := (0 : Int)) rfl rfl q388
            refine aw_l2 aj_d234 rfl rfl hlv365_0 ?_
            refine aw_g hU.1 aj_d234 rfl rfl (by decide) (v := .ref 131) rfl ?_
            refine aw_l0 aj_d234 rfl rfl hlv365_2 ?_
            refine aw_n aj_d234 rfl rfl ?_
            refine aw_ld (k := 14) hU.1 aj_d234 (Or.inl ⟨rfl, rfl⟩) rfl (by decide) (by decide) rfl (a := x367.toInt) rfl (by omega) (by omega) (fun x389 ex389 => ?_)
            have bx389 : 0 ≤ x389.toInt ∧ x389.toInt ≤ 30 := by
              rw [ex389]
              exact aw_bd_a hs (hI372).1 (k := 14) (by decide) (by decide) rfl (by decide) rfl (by omega)
            have ftx389 : x389.toInt = (S364.2.2.1 14 (x367.toInt).toNat).toInt := congrArg Int32.toInt (ex389.trans (congrFun rfl _))
            have ur := ar_un rw353 (by omega) (by omega)
            refine aw_n aj_d234 rfl rfl ?_
            refine aw_add aj_d234 rfl (a := x389.toInt) (b := (1 : Int)) rfl rfl (by omega) (by omega) (fun x390 ex390 => ?_)
            refine aw_st (k := 14) hU.1 aj_d234 (Or.inl ⟨rfl, rfl⟩) rfl (by decide) (by decide) rfl (a := x367.toInt) rfl (by omega) (by omega) ?_
            have hI391 := aw_I_a (aw_UV hU aw_Gs_sm) (k := 14) (j := (x367.toInt).toNat) (v := aj_nar 0 x390) hI372 (by decide) (by decide) (by decide) rfl (by decide) (by decide) rfl (aw_bp (a := x390.toInt) rfl (by omega) (by omega))
            have fr392 := aw_fr_a (k := 14) (j := (x367.toInt).toNat) (v := aj_nar 0 x390) (by decide) fr371
            refine aw_n aj_d234 rfl rfl ?_
            refine aw_e aj_d234 rfl rfl ?_
            exact ⟨(hI391).1, fr392, Or.inr ⟨_, rfl, rfl, (aw_G_sm hI391.2 hI370.2), (show _ + 1 ≤ ((S364.1 30)).toInt by omega)⟩⟩
      · have q385 : x369.toInt < x384.toInt := aw_t_ge (a := x369.toInt) (b := x384.toInt) rfl rfl q385
        have uw := ar_un wk353 (show ((S364.1 32)).toInt = 1 by omega)
        refine aw_l2 aj_d234 rfl rfl hlv365_0 ?_
        refine aw_g hU.1 aj_d234 rfl rfl (by decide) (v := .ref 136) rfl ?_
        refine aw_l2 aj_d234 rfl rfl hlv365_0 ?_
        refine aw_l0 aj_d234 rfl rfl hlv365_2 ?_
        refine aw_l2 aj_d234 rfl rfl hlv365_0 ?_
        refine aw_g hU.1 aj_d234 rfl rfl (by decide) (v := .ref 131) rfl ?_
        refine aw_l0 aj_d234 rfl rfl hlv365_2 ?_
        refine aw_ld (k := 14) hU.1 aj_d234 (Or.inl ⟨rfl, rfl⟩) rfl (by decide) (by decide) rfl (a := x367.toInt) rfl (by omega) (by omega) (fun x393 ex393 => ?_)
        have bx393 : 0 ≤ x393.toInt ∧ x393.toInt ≤ 30 := by
          rw [ex393]
          exact aw_bd_a hs (hI372).1 (k := 14) (by decide) (by decide) rfl (by decide) rfl (by omega)
        have ftx393 : x393.toInt = (S364.2.2.1 14 (x367.toInt).toNat).toInt := congrArg Int32.toInt (ex393.trans (congrFun rfl _))
        refine aw_k hU.1 aj_d234 rfl rfl [_, _] rfl rfl rfl (Nat.le_of_ble_eq_true rfl) (ar_at (by omega) (a := x367.toInt) (b := x393.toInt) rfl rfl (by omega) (by omega)) ?_
        rintro _ zx394 ⟨fx394, x394, rfl, ex394⟩
        rw [fx394]
        show aw_W _ _ _ _ 389 lv365 [.int x394, .ref 136] _ _
        refine aw_l0 aj_d234 rfl rfl hlv365_7 ?_
        refine aw_l0 aj_d234 rfl rfl hlv365_6 ?_
        refine aw_z (tgt := 409) aj_d234 rfl rfl (fun q395 => ?_) (fun q395 => ?_)
        · have q395 : x368.toInt = (0 : Int) := aw_t_eq (a := x368.toInt) (b := (0 : Int)) rfl rfl q395
          refine aw_n aj_d234 rfl rfl ?_
          refine aw_n aj_d234 rfl rfl ?_
          refine aw_ks aj_d234 rfl rfl rfl [_, _, _, _] rfl rfl (Nat.le_of_ble_eq_true rfl) (ar_put hU (hI372).1 (by omega) (k := 19) (n := 48000) (by decide) (by decide) rfl rfl (a := ((x367.toInt * 30 + x393.toInt) * 32)) (b := x369.toInt) ex394 rfl (by omega) (by omega) (by omega) (by decide)) ?_
          rintro _ S396 ⟨hT396, fc396, rfl, pe396⟩
          have fr397 := aw_fr_tr fr371 (aw_fr_sub (F := []) (A := [19]) (by decide) (by decide) fc396)
          have hI398 : aw_I s h (aw_sm S364) S396 := ⟨hT396, aw_sm_tr hI372.2 (aw_fr_sm (by decide) (by decide) (by decide) (F := []) (A := [19]) fc396)⟩
          show aw_W _ _ _ _ 417 lv365 [] _ _
          refine aw_inc aj_d234 rfl hlv365_7 (a := x369.toInt) rfl (by omega) (by omega) (by decide) (by decide) (fun x399 ex399 => ?_)
          obtain ⟨lv400, elv400⟩ : ∃ l, l = aj_set1 lv365 7 (.int x399) := ⟨_, rfl⟩
          rw [← elv400]
          have hlv400_0 : aj_lv lv400 0 = some (.ref 117) := cw_e1 elv400 hlv365_0 (by decide) (Or.inl (by decide))
          have hlv400_1 : aj_lv lv400 1 = some (.int x366) := cw_e1 elv400 hlv365_1 (by decide) (Or.inl (by decide))
          have hlv400_2 : aj_lv lv400 2 = some (.int x367) := cw_e1 elv400 hlv365_2 (by decide) (Or.inl (by decide))
          have hlv400_6 : aj_lv lv400 6 = some (.int x368) := cw_e1 elv400 hlv365_6 (by decide) (Or.inr rfl)
          have hlv400_7 : aj_lv lv400 7 = some (.int x399) := by rw [elv400]; exact ak_set1_eq _ _ _
          show aw_W _ _ _ _ 420 lv400 [] _ _
          refine aw_n aj_d234 rfl rfl ?_
          have c401 : (S396.1 30).toInt = (S364.1 30).toInt := (congrArg Int32.toInt (fc396.1 30 (by decide)).1).trans rfl
          have b402 : 0 ≤ (S396.1 30).toInt ∧ (S396.1 30).toInt ≤ 1001 := aw_bd_f hs (hI398).1 (by decide) rfl
          have c403 : (S396.1 37).toInt = (S364.1 37).toInt := (congrArg Int32.toInt (fc396.1 37 (by decide)).1).trans rfl
          have b404 : 0 ≤ (S396.1 37).toInt ∧ (S396.1 37).toInt ≤ 1 := aw_bd_f hs (hI398).1 (by decide) rfl
          have c405 : (S396.1 32).toInt = (S364.1 32).toInt := (congrArg Int32.toInt (fc396.1 32 (by decide)).1).trans rfl
          have b406 : 0 ≤ (S396.1 32).toInt ∧ (S396.1 32).toInt ≤ 1 := aw_bd_f hs (hI398).1 (by decide) rfl
          exact ihL353_362 S396 lv400 (x366) (x367) (x368) (x399) hlv400_0 hlv400_1 hlv400_2 hlv400_6 hlv400_7 ⟨(hI398).1, (aw_G_sm hI398.2 hI370.2)⟩ fr397 (by omega) (by omega) (by omega) (by omega) (show _ ≤ ((S396.1 30)).toInt by omega) (show _ = ((S396.1 37)).toInt * 10 + _ by omega) (ar_mk (fun z => ar_un wk353 (by have z : ((S396.1 32)).toInt = 1 := z; show ((S364.1 32)).toInt = 1; omega))) (ar_mk (fun z0 z1 => by rw [show (S396.2.2.1 14) = S364.2.2.1 14 from ((fc396.2 14 (by decide)).1.trans rfl)]; rw [show (S396.2.2.1 9) = S364.2.2.1 9 from ((fc396.2 9 (by decide)).1.trans rfl)] at z1; exact ar_un rw353 z0 z1)) (by omega)
        · have q395 : x368.toInt ≠ (0 : Int) := aw_t_eq (a := x368.toInt) (b := (0 : Int)) rfl rfl q395
          refine aw_l2 aj_d234 rfl rfl hlv365_0 ?_
          refine aw_g hU.1 aj_d234 rfl rfl (by decide) (v := .ref 137) rfl ?_
          refine aw_n aj_d234 rfl rfl ?_
          refine aw_l0 aj_d234 rfl rfl hlv365_7 ?_
          refine aw_ks aj_d234 rfl rfl rfl [_, _, _] rfl rfl (Nat.le_of_ble_eq_true rfl) (ar_bit hU (by omega) (k := 20) (n := 1024) (by decide) (by decide) rfl (a := (0 : Int)) (b := x369.toInt) rfl rfl (by omega) (by omega) (by omega) (by decide)) ?_
          rintro _ zx407 ⟨fx407, x407, rfl, hx407, ex407⟩
          rw [fx407]
          show aw_W _ _ _ _ 406 lv365 [.int x407, .int x369, .int x394, .ref 136] _ _
          refine aw_z (tgt := 413) aj_d234 rfl rfl (fun q408 => ?_) (fun q408 => ?_)
          · have q408 : x407.toInt = (0 : Int) := aw_t_eq (a := x407.toInt) (b := (0 : Int)) rfl rfl q408
            refine aw_n aj_d234 rfl rfl ?_
            refine aw_ks aj_d234 rfl rfl rfl [_, _, _, _] rfl rfl (Nat.le_of_ble_eq_true rfl) (ar_put hU (hI372).1 (by omega) (k := 19) (n := 48000) (by decide) (by decide) rfl rfl (a := ((x367.toInt * 30 + x393.toInt) * 32)) (b := x369.toInt) ex394 rfl (by omega) (by omega) (by omega) (by decide)) ?_
            rintro _ S409 ⟨hT409, fc409, rfl, pe409⟩
            have fr410 := aw_fr_tr fr371 (aw_fr_sub (F := []) (A := [19]) (by decide) (by decide) fc409)
            have hI411 : aw_I s h (aw_sm S364) S409 := ⟨hT409, aw_sm_tr hI372.2 (aw_fr_sm (by decide) (by decide) (by decide) (F := []) (A := [19]) fc409)⟩
            show aw_W _ _ _ _ 417 lv365 [] _ _
            refine aw_inc aj_d234 rfl hlv365_7 (a := x369.toInt) rfl (by omega) (by omega) (by decide) (by decide) (fun x412 ex412 => ?_)
            obtain ⟨lv413, elv413⟩ : ∃ l, l = aj_set1 lv365 7 (.int x412) := ⟨_, rfl⟩
            rw [← elv413]
            have hlv413_0 : aj_lv lv413 0 = some (.ref 117) := cw_e1 elv413 hlv365_0 (by decide) (Or.inl (by decide))
            have hlv413_1 : aj_lv lv413 1 = some (.int x366) := cw_e1 elv413 hlv365_1 (by decide) (Or.inl (by decide))
            have hlv413_2 : aj_lv lv413 2 = some (.int x367) := cw_e1 elv413 hlv365_2 (by decide) (Or.inl (by decide))
            have hlv413_6 : aj_lv lv413 6 = some (.int x368) := cw_e1 elv413 hlv365_6 (by decide) (Or.inr rfl)
            have hlv413_7 : aj_lv lv413 7 = some (.int x412) := by rw [elv413]; exact ak_set1_eq _ _ _
            show aw_W _ _ _ _ 420 lv413 [] _ _
            refine aw_n aj_d234 rfl rfl ?_
            have c414 : (S409.1 30).toInt = (S364.1 30).toInt := (congrArg Int32.toInt (fc409.1 30 (by decide)).1).trans rfl
            have b415 : 0 ≤ (S409.1 30).toInt ∧ (S409.1 30).toInt ≤ 1001 := aw_bd_f hs (hI411).1 (by decide) rfl
            have c416 : (S409.1 37).toInt = (S364.1 37).toInt := (congrArg Int32.toInt (fc409.1 37 (by decide)).1).trans rfl
            have b417 : 0 ≤ (S409.1 37).toInt ∧ (S409.1 37).toInt ≤ 1 := aw_bd_f hs (hI411).1 (by decide) rfl
            have c418 : (S409.1 32).toInt = (S364.1 32).toInt := (congrArg Int32.toInt (fc409.1 32 (by decide)).1).trans rfl
            have b419 : 0 ≤ (S409.1 32).toInt ∧ (S409.1 32).toInt ≤ 1 := aw_bd_f hs (hI411).1 (by decide) rfl
            exact ihL353_362 S409 lv413 (x366) (x367) (x368) (x412) hlv413_0 hlv413_1 hlv413_2 hlv413_6 hlv413_7 ⟨(hI411).1, (aw_G_sm hI411.2 hI370.2)⟩ fr410 (by omega) (by omega) (by omega) (by omega) (show _ ≤ ((S409.1 30)).toInt by omega) (show _ = ((S409.1 37)).toInt * 10 + _ by omega) (ar_mk (fun z => ar_un wk353 (by have z : ((S409.1 32)).toInt = 1 := z; show ((S364.1 32)).toInt = 1; omega))) (ar_mk (fun z0 z1 => by rw [show (S409.2.2.1 14) = S364.2.2.1 14 from ((fc409.2 14 (by decide)).1.trans rfl)]; rw [show (S409.2.2.1 9) = S364.2.2.1 9 from ((fc409.2 9 (by decide)).1.trans rfl)] at z1; exact ar_un rw353 z0 z1)) (by omega)
          · have q408 : x407.toInt ≠ (0 : Int) := aw_t_eq (a := x407.toInt) (b := (0 : Int)) rfl rfl q408
            refine aw_n aj_d234 rfl rfl ?_
            refine aw_n aj_d234 rfl rfl ?_
            refine aw_ks aj_d234 rfl rfl rfl [_, _, _, _] rfl rfl (Nat.le_of_ble_eq_true rfl) (ar_put hU (hI372).1 (by omega) (k := 19) (n := 48000) (by decide) (by decide) rfl rfl (a := ((x367.toInt * 30 + x393.toInt) * 32)) (b := x369.toInt) ex394 rfl (by omega) (by omega) (by omega) (by decide)) ?_
            rintro _ S420 ⟨hT420, fc420, rfl, pe420⟩
            have fr421 := aw_fr_tr fr371 (aw_fr_sub (F := []) (A := [19]) (by decide) (by decide) fc420)
            have hI422 : aw_I s h (aw_sm S364) S420 := ⟨hT420, aw_sm_tr hI372.2 (aw_fr_sm (by decide) (by decide) (by decide) (F := []) (A := [19]) fc420)⟩
            show aw_W _ _ _ _ 417 lv365 [] _ _
            refine aw_inc aj_d234 rfl hlv365_7 (a := x369.toInt) rfl (by omega) (by omega) (by decide) (by decide) (fun x423 ex423 => ?_)
            obtain ⟨lv424, elv424⟩ : ∃ l, l = aj_set1 lv365 7 (.int x423) := ⟨_, rfl⟩
            rw [← elv424]
            have hlv424_0 : aj_lv lv424 0 = some (.ref 117) := cw_e1 elv424 hlv365_0 (by decide) (Or.inl (by decide))
            have hlv424_1 : aj_lv lv424 1 = some (.int x366) := cw_e1 elv424 hlv365_1 (by decide) (Or.inl (by decide))
            have hlv424_2 : aj_lv lv424 2 = some (.int x367) := cw_e1 elv424 hlv365_2 (by decide) (Or.inl (by decide))
            have hlv424_6 : aj_lv lv424 6 = some (.int x368) := cw_e1 elv424 hlv365_6 (by decide) (Or.inr rfl)
            have hlv424_7 : aj_lv lv424 7 = some (.int x423) := by rw [elv424]; exact ak_set1_eq _ _ _
            show aw_W _ _ _ _ 420 lv424 [] _ _
            refine aw_n aj_d234 rfl rfl ?_
            have c425 : (S420.1 30).toInt = (S364.1 30).toInt := (congrArg Int32.toInt (fc420.1 30 (by decide)).1).trans rfl
            have b426 : 0 ≤ (S420.1 30).toInt ∧ (S420.1 30).toInt ≤ 1001 := aw_bd_f hs (hI422).1 (by decide) rfl
            have c427 : (S420.1 37).toInt = (S364.1 37).toInt := (congrArg Int32.toInt (fc420.1 37 (by decide)).1).trans rfl
            have b428 : 0 ≤ (S420.1 37).toInt ∧ (S420.1 37).toInt ≤ 1 := aw_bd_f hs (hI422).1 (by decide) rfl
            have c429 : (S420.1 32).toInt = (S364.1 32).toInt := (congrArg Int32.toInt (fc420.1 32 (by decide)).1).trans rfl
            have b430 : 0 ≤ (S420.1 32).toInt ∧ (S420.1 32).toInt ≤ 1 := aw_bd_f hs (hI422).1 (by decide) rfl
            exact ihL353_362 S420 lv424 (x366) (x367) (x368) (x423) hlv424_0 hlv424_1 hlv424_2 hlv424_6 hlv424_7 ⟨(hI422).1, (aw_G_sm hI422.2 hI370.2)⟩ fr421 (by omega) (by omega) (by omega) (by omega) (show _ ≤ ((S420.1 30)).toInt by omega) (show _ = ((S420.1 37)).toInt * 10 + _ by omega) (ar_mk (fun z => ar_un wk353 (by have z : ((S420.1 32)).toInt = 1 := z; show ((S364.1 32)).toInt = 1; omega))) (ar_mk (fun z0 z1 => by rw [show (S420.2.2.1 14) = S364.2.2.1 14 from ((fc420.2 14 (by decide)).1.trans rfl)]; rw [show (S420.2.2.1 9) = S364.2.2.1 9 from ((fc420.2 9 (by decide)).1.trans rfl)] at z1; exact ar_un rw353 z0 z1)) (by omega)
theorem ar_row_L339_342 (hU : aw_U tb s h) (hd : 9 ≤ d + 1) (S12 : aj_S) (N150 : Nat) (S34 : aj_S) (x36 : Int32) (x37 : Int32) (x38 : Int32) (x39 : Int32) (ihL150_32 : ∀ (S34 : aj_S) (lv35 : aj_V) (x36 : Int32) (x37 : Int32) (x38 : Int32) (x39 : Int32), (aj_lv lv35 0 = some (.ref 117)) → (aj_lv lv35 1 = some (.int x36)) → (aj_lv lv35 2 = some (.int x37)) → (aj_lv lv35 3 = some (.int x38)) → (aj_lv lv35 4 = some (.int x39)) → (aw_I s h (aw_G (nm, false, la, 0, 0, 0)) S34) → (aw_fr [24, 25, 26, 27, 28, 29, 30, 31, 33, 34, 35, 36, 38, 39, 40, 41, 43, 44] [14, 17, 18, 19, 20, 22] S S34) → ((-1) ≤ x36.toInt ∧ x36.toInt ≤ 9) → ((-1) ≤ x37.toInt ∧ x37.toInt ≤ 19) → (0 ≤ x39.toInt ∧ x39.toInt ≤ 1001) → ((S.1 30).toInt + 1 ≤ (S34.1 30).toInt) → (x37.toInt = (S34.1 37).toInt * 10 + x36.toInt) → (ar_hd ((S34.1 32).toInt = 1 → 0 ≤ x36.toInt)) → (ar_hd (0 ≤ x36.toInt → (S34.2.2.1 9 (x37.toInt).toNat).toInt = 0 → (S34.2.2.1 14 (x37.toInt).toNat).toInt ≤ 29)) → (x39.toInt ≤ (S34.1 30).toInt) → (1001 - (S34.1 30).toInt).toNat < N150 → aw_W tb h d aj_m234 150 lv35 [] S34 ((ar_QB s h [24, 25, 26, 27, 28, 29, 30, 31, 33, 34, 35, 36, 38, 39, 40, 41, 43, 44] [14, 17, 18, 19, 20, 22] S aw_B (fun S' => aw_G (nm, false, la, 0, 0, 0) S' ∧ (S.1 30).toInt + 1 ≤ (S'.1 30).toInt)))) (hm150 : (1001 - (S34.1 30).toInt).toNat < N150 + 1) (S313 : aj_S) (S333 : aj_S) : ∀ (S344 : aj_S) (lv345 : aj_V) (x346 : Int32) (x347 : Int32) (x348 : Int32), (aj_lv lv345 0 = some (.ref 117)) → (aj_lv lv345 1 = some (.int x346)) → (aj_lv lv345 2 = some (.int x347)) → (aj_lv lv345 6 = some (.int x348)) → (aw_I s h (aw_G (nm, false, la, 0, 0, 0)) S344) → (aw_fr [24, 25, 26, 27, 28, 29, 30, 31, 33, 34, 35, 36, 38, 39, 40, 41, 43, 44] [14, 17, 18, 19, 20, 22] S S344) → ((-1) ≤ x346.toInt ∧ x346.toInt ≤ 9) → ((-1) ≤ x347.toInt ∧ x347.toInt ≤ 19) → (0 ≤ x348.toInt ∧ x348.toInt ≤ 1) → ((S.1 30).toInt + 1 ≤ (S344.1 30).toInt) → (x347.toInt = (S344.1 37).toInt * 10 + x346.toInt) → (ar_hd ((S344.1 32).toInt = 1 → 0 ≤ x346.toInt)) → (ar_hd (0 ≤ x346.toInt → (S344.2.2.1 9 (x347.toInt).toNat).toInt = 0 → (S344.2.2.1 14 (x347.toInt).toNat).toInt ≤ 29)) → aw_W tb h d aj_m234 339 lv345 [] S344 ((ar_QB s h [24, 25, 26, 27, 28, 29, 30, 31, 33, 34, 35, 36, 38, 39, 40, 41, 43, 44] [14, 17, 18, 19, 20, 22] S aw_B (fun S' => aw_G (nm, false, la, 0, 0, 0) S' ∧ (S.1 30).toInt + 1 ≤ (S'.1 30).toInt))) := by
  have hs : aw_sT s := aw_hy_sT hU.2.2
  intro S344 lv345 x346 x347 x348 hlv345_0 hlv345_1 hlv345_2 hlv345_6 hI349 fr350 bx346 bx347 bx348 ck339 sl339 wk339 rw339
  have hI351 : aw_I s h (aw_sm S344) S344 := ⟨hI349.1, aw_sm_rf⟩
  have b352 : 0 ≤ (S344.1 30).toInt ∧ (S344.1 30).toInt ≤ 1001 := aw_bd_f hs (hI351).1 (by decide) rfl
  have b353 : 0 ≤ (S344.1 37).toInt ∧ (S344.1 37).toInt ≤ 1 := aw_bd_f hs (hI351).1 (by decide) rfl
  have b354 : 0 ≤ (S344.1 32).toInt ∧ (S344.1 32).toInt ≤ 1 := aw_bd_f hs (hI351).1 (by decide) rfl
  refine aw_l2 aj_d234 rfl rfl hlv345_0 ?_
  refine aw_n aj_d234 rfl rfl ?_
  refine aw_k hU.1 aj_d234 rfl rfl [_] rfl rfl rfl (Nat.le_of_ble_eq_true rfl) (aw_toK hU aw_Gs_G (con := ac_c219_59) (by omega) (ar_219_59 hU.2.1 (aw_SPc hU.2.2 aw_Gs_G) aw_kpc (arc_214b hU) (arc_215 hU)) ⟨(hI351).1, hI349.2⟩ ⟨(aw_g117 hU.2.2), (cw_gw (a := (59 : Int)) rfl (by omega) (by omega)), trivial⟩ (fun e he => nomatch he)) ?_
  rintro r355 S355 ⟨hr355, hJ355, fc355, po355, -⟩
  have hT355 := hJ355.1
  replace fc355 := aw_fr_sub (F' := [24, 25, 26, 27, 28, 29, 30, 31]) (A' := []) (by decide) (by decide) fc355
  rcases ar_bool hU (hI351).1 hT355 hr355 po355 with ⟨b355, rfl, hb355, cf355⟩ | ⟨b355, rfl, hb355, ck355, gq355⟩
  · skip
    have cf355 : (S344.1 30).toInt + 0 ≤ (S355.1 30).toInt := cf355
    have fr356 := aw_fr_tr fr350 (aw_fr_sub (F := [24, 25, 26, 27, 28, 29, 30, 31]) (A := []) (by decide) (by decide) fc355)
    have hI357 : aw_I s h (aw_sm S355) S355 := ⟨hT355, aw_sm_rf⟩
    show aw_W _ _ _ _ 345 lv345 [.int b355] _ _
    refine aw_z (tgt := 350) aj_d234 rfl rfl (fun q358 => ?_) (fun q358 => ?_)
    · have q358 : (0 : Int) ≠ (0 : Int) := aw_t_ne (a := (0 : Int)) (b := (0 : Int)) hb355 rfl q358
      exfalso
      omega
    · have q358 : (0 : Int) = (0 : Int) := aw_t_ne (a := (0 : Int)) (b := (0 : Int)) hb355 rfl q358
      refine aw_n aj_d234 rfl rfl ?_
      refine aw_e aj_d234 rfl rfl ?_
      exact ⟨(hI357).1, fr356, Or.inl ⟨_, rfl, rfl, aw_G_B hJ355.2⟩⟩
  · skip
    have ck355 : (S344.1 30).toInt + 1 ≤ (S355.1 30).toInt := ck355
    have fr359 := aw_fr_tr fr350 (aw_fr_sub (F := [24, 25, 26, 27, 28, 29, 30, 31]) (A := []) (by decide) (by decide) fc355)
    have hI360 : aw_I s h (aw_sm S355) S355 := ⟨hT355, aw_sm_rf⟩
    show aw_W _ _ _ _ 345 lv345 [.int b355] _ _
    refine aw_z (tgt := 350) aj_d234 rfl rfl (fun q361 => ?_) (fun q361 => ?_)
    · have q361 : (1 : Int) ≠ (0 : Int) := aw_t_ne (a := (1 : Int)) (b := (0 : Int)) hb355 rfl q361
      refine aw_n aj_d234 rfl rfl ?_
      refine aw_t0 (j := 7) aj_d234 rfl (by decide) rfl ?_
      obtain ⟨lv362, elv362⟩ : ∃ l, l = aj_set1 lv345 7 (.int (Int32.ofInt 0)) := ⟨_, rfl⟩
      rw [← elv362]
      have hlv362_0 : aj_lv lv362 0 = some (.ref 117) := cw_e1 elv362 hlv345_0 (by decide) (Or.inl (by decide))
      have hlv362_1 : aj_lv lv362 1 = some (.int x346) := cw_e1 elv362 hlv345_1 (by decide) (Or.inl (by decide))
      have hlv362_2 : aj_lv lv362 2 = some (.int x347) := cw_e1 elv362 hlv345_2 (by decide) (Or.inl (by decide))
      have hlv362_6 : aj_lv lv362 6 = some (.int x348) := cw_e1 elv362 hlv345_6 (by decide) (Or.inr rfl)
      have hlv362_7 : aj_lv lv362 7 = some (.int (Int32.ofInt 0)) := by rw [elv362]; exact ak_set1_eq _ _ _
      show aw_W _ _ _ _ 353 lv362 [] _ _
      have b431 : 0 ≤ (S355.1 30).toInt ∧ (S355.1 30).toInt ≤ 1001 := aw_bd_f hs (hI360).1 (by decide) rfl
      have c432 : (S355.1 37).toInt = (S344.1 37).toInt := (congrArg Int32.toInt (fc355.1 37 (by decide)).1).trans rfl
      have b433 : 0 ≤ (S355.1 37).toInt ∧ (S355.1 37).toInt ≤ 1 := aw_bd_f hs (hI360).1 (by decide) rfl
      have c434 : (S355.1 32).toInt = (S344.1 32).toInt := (congrArg Int32.toInt (fc355.1 32 (by decide)).1).trans rfl
      have b435 : 0 ≤ (S355.1 32).toInt ∧ (S355.1 32).toInt ≤ 1 := aw_bd_f hs (hI360).1 (by decide) rfl
      exact (ar_row_L353_362 hU hd S12 N150 S34 x36 x37 x38 x39 ihL150_32 hm150 S313 S333 S344) _ S355 lv362 (x346) (x347) (x348) ((Int32.ofInt 0)) hlv362_0 hlv362_1 hlv362_2 hlv362_6 hlv362_7 ⟨(hI360).1, hJ355.2⟩ fr359 (by omega) (by omega) (by omega) (by first | omega | decide) (show _ ≤ ((S355.1 30)).toInt by omega) (show _ = ((S355.1 37)).toInt * 10 + _ by omega) (ar_mk (fun z => ar_un wk339 (by have z : ((S355.1 32)).toInt = 1 := z; show ((S344.1 32)).toInt = 1; omega))) (ar_mk (fun z0 z1 => by rw [show (S355.2.2.1 14) = S344.2.2.1 14 from ((fc355.2 14 (by decide)).1.trans rfl)]; rw [show (S355.2.2.1 9) = S344.2.2.1 9 from ((fc355.2 9 (by decide)).1.trans rfl)] at z1; exact ar_un rw339 z0 z1)) (Nat.lt_succ_self _)
    · have q361 : (1 : Int) = (0 : Int) := aw_t_ne (a := (1 : Int)) (b := (0 : Int)) hb355 rfl q361
      exfalso
      omega
theorem ar_row_L311_331 (hU : aw_U tb s h) (hd : 9 ≤ d + 1) (S12 : aj_S) (N150 : Nat) (S34 : aj_S) (x36 : Int32) (x37 : Int32) (x38 : Int32) (x39 : Int32) (ihL150_32 : ∀ (S34 : aj_S) (lv35 : aj_V) (x36 : Int32) (x37 : Int32) (x38 : Int32) (x39 : Int32), (aj_lv lv35 0 = some (.ref 117)) → (aj_lv lv35 1 = some (.int x36)) → (aj_lv lv35 2 = some (.int x37)) → (aj_lv lv35 3 = some (.int x38)) → (aj_lv lv35 4 = some (.int x39)) → (aw_I s h (aw_G (nm, false, la, 0, 0, 0)) S34) → (aw_fr [24, 25, 26, 27, 28, 29, 30, 31, 33, 34, 35, 36, 38, 39, 40, 41, 43, 44] [14, 17, 18, 19, 20, 22] S S34) → ((-1) ≤ x36.toInt ∧ x36.toInt ≤ 9) → ((-1) ≤ x37.toInt ∧ x37.toInt ≤ 19) → (0 ≤ x39.toInt ∧ x39.toInt ≤ 1001) → ((S.1 30).toInt + 1 ≤ (S34.1 30).toInt) → (x37.toInt = (S34.1 37).toInt * 10 + x36.toInt) → (ar_hd ((S34.1 32).toInt = 1 → 0 ≤ x36.toInt)) → (ar_hd (0 ≤ x36.toInt → (S34.2.2.1 9 (x37.toInt).toNat).toInt = 0 → (S34.2.2.1 14 (x37.toInt).toNat).toInt ≤ 29)) → (x39.toInt ≤ (S34.1 30).toInt) → (1001 - (S34.1 30).toInt).toNat < N150 → aw_W tb h d aj_m234 150 lv35 [] S34 ((ar_QB s h [24, 25, 26, 27, 28, 29, 30, 31, 33, 34, 35, 36, 38, 39, 40, 41, 43, 44] [14, 17, 18, 19, 20, 22] S aw_B (fun S' => aw_G (nm, false, la, 0, 0, 0) S' ∧ (S.1 30).toInt + 1 ≤ (S'.1 30).toInt)))) (hm150 : (1001 - (S34.1 30).toInt).toNat < N150 + 1) (S313 : aj_S) : ∀ (S333 : aj_S) (lv334 : aj_V) (x335 : Int32) (x336 : Int32), (aj_lv lv334 0 = some (.ref 117)) → (aj_lv lv334 1 = some (.int x335)) → (aj_lv lv334 2 = some (.int x336)) → (aw_I s h (aw_G (nm, false, la, 0, 0, 0)) S333) → (aw_fr [24, 25, 26, 27, 28, 29, 30, 31, 33, 34, 35, 36, 38, 39, 40, 41, 43, 44] [14, 17, 18, 19, 20, 22] S S333) → ((-1) ≤ x335.toInt ∧ x335.toInt ≤ 9) → ((-1) ≤ x336.toInt ∧ x336.toInt ≤ 19) → ((S.1 30).toInt + 1 ≤ (S333.1 30).toInt) → (x336.toInt = (S333.1 37).toInt * 10 + x335.toInt) → (ar_hd ((S333.1 32).toInt = 1 → 0 ≤ x335.toInt)) → (ar_hd (0 ≤ x335.toInt → (S333.2.2.1 9 (x336.toInt).toNat).toInt = 0 → (S333.2.2.1 14 (x336.toInt).toNat).toInt ≤ 29)) → aw_W tb h d aj_m234 311 lv334 [] S333 ((ar_QB s h [24, 25, 26, 27, 28, 29, 30, 31, 33, 34, 35, 36, 38, 39, 40, 41, 43, 44] [14, 17, 18, 19, 20, 22] S aw_B (fun S' => aw_G (nm, false, la, 0, 0, 0) S' ∧ (S.1 30).toInt + 1 ≤ (S'.1 30).toInt))) := by
  have hs : aw_sT s := aw_hy_sT hU.2.2
  intro S333 lv334 x335 x336 hlv334_0 hlv334_1 hlv334_2 hI337 fr338 bx335 bx336 ck311 sl311 wk311 rw311
  have hI339 : aw_I s h (aw_sm S333) S333 := ⟨hI337.1, aw_sm_rf⟩
  have b340 : 0 ≤ (S333.1 30).toInt ∧ (S333.1 30).toInt ≤ 1001 := aw_bd_f hs (hI339).1 (by decide) rfl
  have b341 : 0 ≤ (S333.1 37).toInt ∧ (S333.1 37).toInt ≤ 1 := aw_bd_f hs (hI339).1 (by decide) rfl
  have b342 : 0 ≤ (S333.1 32).toInt ∧ (S333.1 32).toInt ≤ 1 := aw_bd_f hs (hI339).1 (by decide) rfl
  refine aw_l2 aj_d234 rfl rfl hlv334_0 ?_
  refine aw_n aj_d234 rfl rfl ?_
  refine aw_k hU.1 aj_d234 rfl rfl [_] rfl rfl rfl (Nat.le_of_ble_eq_true rfl) (ar_isWord hU (by omega) (b := (3 : Int)) rfl) ?_
  have b438 : 0 ≤ (S333.1 26).toInt ∧ (S333.1 26).toInt ≤ 5 := aw_bd_f hs (hI339).1 (by decide) rfl
  rintro _ S437 ⟨eS437, b436, rfl, kb436⟩
  rw [eS437]
  rcases kb436 with ⟨hb436, pb436, qb436⟩ | ⟨hb436, pb436⟩
  · skip
    have pb436 : ((S333.1 26)).toInt = 4 := pb436
    have qb436 : ((S333.1 29)).toInt = (3 : Int) := qb436
    show aw_W _ _ _ _ 316 lv334 [.int b436] _ _
    refine aw_t0 (j := 6) aj_d234 rfl (by decide) rfl ?_
    obtain ⟨lv439, elv439⟩ : ∃ l, l = aj_set1 lv334 6 (.int b436) := ⟨_, rfl⟩
    rw [← elv439]
    have hlv439_0 : aj_lv lv439 0 = some (.ref 117) := cw_e1 elv439 hlv334_0 (by decide) (Or.inl (by decide))
    have hlv439_1 : aj_lv lv439 1 = some (.int x335) := cw_e1 elv439 hlv334_1 (by decide) (Or.inl (by decide))
    have hlv439_2 : aj_lv lv439 2 = some (.int x336) := cw_e1 elv439 hlv334_2 (by decide) (Or.inl (by decide))
    have hlv439_6 : aj_lv lv439 6 = some (.int b436) := by rw [elv439]; exact ak_set1_eq _ _ _
    show aw_W _ _ _ _ 318 lv439 [] _ _
    refine aw_l0 aj_d234 rfl rfl hlv439_6 ?_
    refine aw_z (tgt := 339) aj_d234 rfl rfl (fun q440 => ?_) (fun q440 => ?_)
    · have q440 : (1 : Int) = (0 : Int) := aw_t_eq (a := (1 : Int)) (b := (0 : Int)) hb436 rfl q440
      exfalso
      omega
    · have q440 : (1 : Int) ≠ (0 : Int) := aw_t_eq (a := (1 : Int)) (b := (0 : Int)) hb436 rfl q440
      refine aw_l2 aj_d234 rfl rfl hlv439_0 ?_
      refine aw_k hU.1 aj_d234 rfl rfl [] rfl rfl rfl (Nat.le_of_ble_eq_true rfl) (ar_pass hU (hI339).1 hI337.2 (by omega) (show ((S333.1 26)).toInt ≠ 0 by omega) (show ¬ (((S333.1 26)).toInt = 3 ∧ ((S333.1 29)).toInt = 63) by omega) (show ((S333.1 26)).toInt = 4 → ((S333.1 29)).toInt = 3 ∨ 6 ≤ ((S333.1 29)).toInt by omega)) ?_
      rintro _ S441 ⟨hT441, fc441, ⟨b441, rfl, hb441, hG441, fd441, hz441⟩ | ⟨b441, rfl, hb441, hG441, ck441, fd441, cj441⟩⟩
      · skip
        have fr442 := aw_fr_tr fr338 (aw_fr_sub (F := [24, 25, 31]) (A := []) (by decide) (by decide) fd441)
        have hI443 : aw_I s h (aw_sm S441) S441 := ⟨hT441, aw_sm_rf⟩
        show aw_W _ _ _ _ 327 lv439 [.int b441] _ _
        refine aw_z (tgt := 337) aj_d234 rfl rfl (fun q444 => ?_) (fun q444 => ?_)
        · have q444 : (0 : Int) = (0 : Int) := aw_t_eq (a := (0 : Int)) (b := (0 : Int)) hb441 rfl q444
          refine aw_n aj_d234 rfl rfl ?_
          refine aw_e aj_d234 rfl rfl ?_
          exact ⟨(hI443).1, fr442, Or.inl ⟨_, rfl, rfl, aw_G_B hG441⟩⟩
        · have q444 : (0 : Int) ≠ (0 : Int) := aw_t_eq (a := (0 : Int)) (b := (0 : Int)) hb441 rfl q444
          exfalso
          omega
      · skip
        have cj441 : (S441.1 30).toInt = ((S333.1 30)).toInt + 1 := cj441
        have fr445 := aw_fr_tr fr338 (aw_fr_sub (F := [26, 27, 28, 29, 30]) (A := []) (by decide) (by decide) fd441)
        have hI446 : aw_I s h (aw_sm S441) S441 := ⟨hT441, aw_sm_rf⟩
        show aw_W _ _ _ _ 327 lv439 [.int b441] _ _
        refine aw_z (tgt := 337) aj_d234 rfl rfl (fun q447 => ?_) (fun q447 => ?_)
        · have q447 : (1 : Int) = (0 : Int) := aw_t_eq (a := (1 : Int)) (b := (0 : Int)) hb441 rfl q447
          exfalso
          omega
        · have q447 : (1 : Int) ≠ (0 : Int) := aw_t_eq (a := (1 : Int)) (b := (0 : Int)) hb441 rfl q447
          refine aw_l2 aj_d234 rfl rfl hlv439_0 ?_
          have b449 : 0 ≤ (S441.1 30).toInt ∧ (S441.1 30).toInt ≤ 1001 := aw_bd_f hs (hI446).1 (by decide) rfl
          refine aw_k hU.1 aj_d234 rfl rfl [] rfl rfl rfl (Nat.le_of_ble_eq_true rfl) (ar_condition hU (hI446).1 hG441 (by omega)) ?_
          rintro _ S448 ⟨hT448, fc448, ⟨b448, rfl, hb448, hG448, ck448⟩ | ⟨b448, rfl, hb448, hG448, ck448, ex448⟩⟩
          · skip
            have ck448 : ((S441.1 30)).toInt ≤ (S448.1 30).toInt := ck448
            have fr450 := aw_fr_tr fr445 (aw_fr_sub (F := [24, 25, 26, 27, 28, 29, 30, 31, 33, 34, 35, 36, 38, 39, 40, 41, 43, 44]) (A := [20, 22]) (by decide) (by decide) fc448)
            have hI451 : aw_I s h (aw_sm S448) S448 := ⟨hT448, aw_sm_rf⟩
            show aw_W _ _ _ _ 334 lv439 [.int b448] _ _
            refine aw_z (tgt := 339) aj_d234 rfl rfl (fun q452 => ?_) (fun q452 => ?_)
            · have q452 : (0 : Int) ≠ (0 : Int) := aw_t_ne (a := (0 : Int)) (b := (0 : Int)) hb448 rfl q452
              exfalso
              omega
            · have q452 : (0 : Int) = (0 : Int) := aw_t_ne (a := (0 : Int)) (b := (0 : Int)) hb448 rfl q452
              refine aw_n aj_d234 rfl rfl ?_
              refine aw_e aj_d234 rfl rfl ?_
              exact ⟨(hI451).1, fr450, Or.inl ⟨_, rfl, rfl, aw_G_B hG448⟩⟩
          · skip
            have ck448 : ((S441.1 30)).toInt + 1 ≤ (S448.1 30).toInt := ck448
            have fr453 := aw_fr_tr fr445 (aw_fr_sub (F := [24, 25, 26, 27, 28, 29, 30, 31, 33, 34, 35, 36, 38, 39, 40, 41, 43, 44]) (A := [20, 22]) (by decide) (by decide) fc448)
            have hI454 : aw_I s h (aw_sm S448) S448 := ⟨hT448, aw_sm_rf⟩
            show aw_W _ _ _ _ 334 lv439 [.int b448] _ _
            refine aw_z (tgt := 339) aj_d234 rfl rfl (fun q455 => ?_) (fun q455 => ?_)
            · have q455 : (1 : Int) ≠ (0 : Int) := aw_t_ne (a := (1 : Int)) (b := (0 : Int)) hb448 rfl q455
              have b456 : 0 ≤ (S448.1 30).toInt ∧ (S448.1 30).toInt ≤ 1001 := aw_bd_f hs (hI454).1 (by decide) rfl
              have c457 : (S441.1 37).toInt = (S333.1 37).toInt := (congrArg Int32.toInt (fd441.1 37 (by decide)).1).trans rfl
              have b458 : 0 ≤ (S441.1 37).toInt ∧ (S441.1 37).toInt ≤ 1 := aw_bd_f hs (hI446).1 (by decide) rfl
              have c459 : (S448.1 37).toInt = (S333.1 37).toInt := (congrArg Int32.toInt (fc448.1 37 (by decide)).1).trans c457
              have b460 : 0 ≤ (S448.1 37).toInt ∧ (S448.1 37).toInt ≤ 1 := aw_bd_f hs (hI454).1 (by decide) rfl
              have c461 : (S441.1 32).toInt = (S333.1 32).toInt := (congrArg Int32.toInt (fd441.1 32 (by decide)).1).trans rfl
              have b462 : 0 ≤ (S441.1 32).toInt ∧ (S441.1 32).toInt ≤ 1 := aw_bd_f hs (hI446).1 (by decide) rfl
              have c463 : (S448.1 32).toInt = (S333.1 32).toInt := (congrArg Int32.toInt (fc448.1 32 (by decide)).1).trans c461
              have b464 : 0 ≤ (S448.1 32).toInt ∧ (S448.1 32).toInt ≤ 1 := aw_bd_f hs (hI454).1 (by decide) rfl
              exact (ar_row_L339_342 hU hd S12 N150 S34 x36 x37 x38 x39 ihL150_32 hm150 S313 S333) S448 lv439 (x335) (x336) (b436) hlv439_0 hlv439_1 hlv439_2 hlv439_6 ⟨(hI454).1, hG448⟩ fr453 (by omega) (by omega) (by have := hb436; omega) (show _ ≤ ((S448.1 30)).toInt by omega) (show _ = ((S448.1 37)).toInt * 10 + _ by omega) (ar_mk (fun z => ar_un wk311 (by have z : ((S448.1 32)).toInt = 1 := z; show ((S333.1 32)).toInt = 1; omega))) (ar_mk (fun z0 z1 => by rw [show (S448.2.2.1 14) = S333.2.2.1 14 from ((fc448.2 14 (by decide)).1.trans ((fd441.2 14 (by decide)).1.trans rfl))]; rw [show (S448.2.2.1 9) = S333.2.2.1 9 from ((fc448.2 9 (by decide)).1.trans ((fd441.2 9 (by decide)).1.trans rfl))] at z1; exact ar_un rw311 z0 z1))
            · have q455 : (1 : Int) = (0 : Int) := aw_t_ne (a := (1 : Int)) (b := (0 : Int)) hb448 rfl q455
              exfalso
              omega
  · skip
    clear pb436
    show aw_W _ _ _ _ 316 lv334 [.int b436] _ _
    refine aw_t0 (j := 6) aj_d234 rfl (by decide) rfl ?_
    obtain ⟨lv465, elv465⟩ : ∃ l, l = aj_set1 lv334 6 (.int b436) := ⟨_, rfl⟩
    rw [← elv465]
    have hlv465_0 : aj_lv lv465 0 = some (.ref 117) := cw_e1 elv465 hlv334_0 (by decide) (Or.inl (by decide))
    have hlv465_1 : aj_lv lv465 1 = some (.int x335) := cw_e1 elv465 hlv334_1 (by decide) (Or.inl (by decide))
    have hlv465_2 : aj_lv lv465 2 = some (.int x336) := cw_e1 elv465 hlv334_2 (by decide) (Or.inl (by decide))
    have hlv465_6 : aj_lv lv465 6 = some (.int b436) := by rw [elv465]; exact ak_set1_eq _ _ _
    show aw_W _ _ _ _ 318 lv465 [] _ _
    refine aw_l0 aj_d234 rfl rfl hlv465_6 ?_
    refine aw_z (tgt := 339) aj_d234 rfl rfl (fun q466 => ?_) (fun q466 => ?_)
    · have q466 : (0 : Int) = (0 : Int) := aw_t_eq (a := (0 : Int)) (b := (0 : Int)) hb436 rfl q466
      exact (ar_row_L339_342 hU hd S12 N150 S34 x36 x37 x38 x39 ihL150_32 hm150 S313 S333) S333 lv465 (x335) (x336) (b436) hlv465_0 hlv465_1 hlv465_2 hlv465_6 ⟨(hI339).1, hI337.2⟩ fr338 (by omega) (by omega) (by have := hb436; omega) (show _ ≤ ((S333.1 30)).toInt by omega) (show _ = ((S333.1 37)).toInt * 10 + _ by omega) (ar_mk (fun z => ar_un wk311 (by have z : ((S333.1 32)).toInt = 1 := z; show ((S333.1 32)).toInt = 1; omega))) (ar_mk (fun z0 z1 => by rw [show (S333.2.2.1 14) = S333.2.2.1 14 from rfl]; rw [show (S333.2.2.1 9) = S333.2.2.1 9 from rfl] at z1; exact ar_un rw311 z0 z1))
    · have q466 : (0 : Int) ≠ (0 : Int) := aw_t_eq (a := (0 : Int)) (b := (0 : Int)) hb436 rfl q466
      exfalso
      omega
theorem ar_row_L270_311 (hU : aw_U tb s h) (hd : 9 ≤ d + 1) (S12 : aj_S) (N150 : Nat) (S34 : aj_S) (x36 : Int32) (x37 : Int32) (x38 : Int32) (x39 : Int32) (ihL150_32 : ∀ (S34 : aj_S) (lv35 : aj_V) (x36 : Int32) (x37 : Int32) (x38 : Int32) (x39 : Int32), (aj_lv lv35 0 = some (.ref 117)) → (aj_lv lv35 1 = some (.int x36)) → (aj_lv lv35 2 = some (.int x37)) → (aj_lv lv35 3 = some (.int x38)) → (aj_lv lv35 4 = some (.int x39)) → (aw_I s h (aw_G (nm, false, la, 0, 0, 0)) S34) → (aw_fr [24, 25, 26, 27, 28, 29, 30, 31, 33, 34, 35, 36, 38, 39, 40, 41, 43, 44] [14, 17, 18, 19, 20, 22] S S34) → ((-1) ≤ x36.toInt ∧ x36.toInt ≤ 9) → ((-1) ≤ x37.toInt ∧ x37.toInt ≤ 19) → (0 ≤ x39.toInt ∧ x39.toInt ≤ 1001) → ((S.1 30).toInt + 1 ≤ (S34.1 30).toInt) → (x37.toInt = (S34.1 37).toInt * 10 + x36.toInt) → (ar_hd ((S34.1 32).toInt = 1 → 0 ≤ x36.toInt)) → (ar_hd (0 ≤ x36.toInt → (S34.2.2.1 9 (x37.toInt).toNat).toInt = 0 → (S34.2.2.1 14 (x37.toInt).toNat).toInt ≤ 29)) → (x39.toInt ≤ (S34.1 30).toInt) → (1001 - (S34.1 30).toInt).toNat < N150 → aw_W tb h d aj_m234 150 lv35 [] S34 ((ar_QB s h [24, 25, 26, 27, 28, 29, 30, 31, 33, 34, 35, 36, 38, 39, 40, 41, 43, 44] [14, 17, 18, 19, 20, 22] S aw_B (fun S' => aw_G (nm, false, la, 0, 0, 0) S' ∧ (S.1 30).toInt + 1 ≤ (S'.1 30).toInt)))) (hm150 : (1001 - (S34.1 30).toInt).toNat < N150 + 1) : ∀ (S313 : aj_S) (lv314 : aj_V) (x315 : Int32) (x316 : Int32) (x317 : Int32) (x318 : Int32), (aj_lv lv314 0 = some (.ref 117)) → (aj_lv lv314 1 = some (.int x315)) → (aj_lv lv314 2 = some (.int x316)) → (aj_lv lv314 3 = some (.int x317)) → (aj_lv lv314 4 = some (.int x318)) → (aw_I s h (aw_G (nm, false, la, 0, 0, 0)) S313) → (aw_fr [24, 25, 26, 27, 28, 29, 30, 31, 33, 34, 35, 36, 38, 39, 40, 41, 43, 44] [14, 17, 18, 19, 20, 22] S S313) → ((-1) ≤ x315.toInt ∧ x315.toInt ≤ 9) → ((-1) ≤ x316.toInt ∧ x316.toInt ≤ 19) → (0 ≤ x318.toInt ∧ x318.toInt ≤ 1002) → ((S.1 30).toInt + 1 ≤ (S313.1 30).toInt) → (x316.toInt = (S313.1 37).toInt * 10 + x315.toInt) → (ar_hd ((S313.1 32).toInt = 1 → 0 ≤ x315.toInt)) → (ar_hd (0 ≤ x315.toInt → (S313.2.2.1 9 (x316.toInt).toNat).toInt = 0 → (S313.2.2.1 14 (x316.toInt).toNat).toInt ≤ 29)) → (x318.toInt ≤ (S313.1 30).toInt) → aw_W tb h d aj_m234 270 lv314 [] S313 ((ar_QB s h [24, 25, 26, 27, 28, 29, 30, 31, 33, 34, 35, 36, 38, 39, 40, 41, 43, 44] [14, 17, 18, 19, 20, 22] S aw_B (fun S' => aw_G (nm, false, la, 0, 0, 0) S' ∧ (S.1 30).toInt + 1 ≤ (S'.1 30).toInt))) := by
  have hs : aw_sT s := aw_hy_sT hU.2.2
  intro S313 lv314 x315 x316 x317 x318 hlv314_0 hlv314_1 hlv314_2 hlv314_3 hlv314_4 hI319 fr320 bx315 bx316 bx318 ck270 sl270 wk270 rw270 n270
  have hI321 : aw_I s h (aw_sm S313) S313 := ⟨hI319.1, aw_sm_rf⟩
  have b322 : 0 ≤ (S313.1 30).toInt ∧ (S313.1 30).toInt ≤ 1001 := aw_bd_f hs (hI321).1 (by decide) rfl
  have b323 : 0 ≤ (S313.1 37).toInt ∧ (S313.1 37).toInt ≤ 1 := aw_bd_f hs (hI321).1 (by decide) rfl
  have b324 : 0 ≤ (S313.1 32).toInt ∧ (S313.1 32).toInt ≤ 1 := aw_bd_f hs (hI321).1 (by decide) rfl
  refine aw_l2 aj_d234 rfl rfl hlv314_0 ?_
  refine aw_n aj_d234 rfl rfl ?_
  refine aw_k hU.1 aj_d234 rfl rfl [_] rfl rfl rfl (Nat.le_of_ble_eq_true rfl) (aw_toK hU aw_Gs_G (con := ac_c219_41) (by omega) (ar_219_41 hU.2.1 (aw_SPc hU.2.2 aw_Gs_G) aw_kpc (arc_214b hU) (arc_215 hU)) ⟨(hI321).1, hI319.2⟩ ⟨(aw_g117 hU.2.2), (cw_gw (a := (41 : Int)) rfl (by omega) (by omega)), trivial⟩ (fun e he => nomatch he)) ?_
  rintro r325 S325 ⟨hr325, hJ325, fc325, po325, -⟩
  have hT325 := hJ325.1
  replace fc325 := aw_fr_sub (F' := [24, 25, 26, 27, 28, 29, 30, 31]) (A' := []) (by decide) (by decide) fc325
  rcases ar_bool hU (hI321).1 hT325 hr325 po325 with ⟨b325, rfl, hb325, cf325⟩ | ⟨b325, rfl, hb325, ck325, gq325⟩
  · skip
    have cf325 : (S313.1 30).toInt + 0 ≤ (S325.1 30).toInt := cf325
    have fr326 := aw_fr_tr fr320 (aw_fr_sub (F := [24, 25, 26, 27, 28, 29, 30, 31]) (A := []) (by decide) (by decide) fc325)
    have hI327 : aw_I s h (aw_sm S325) S325 := ⟨hT325, aw_sm_rf⟩
    show aw_W _ _ _ _ 276 lv314 [.int b325] _ _
    refine aw_z (tgt := 281) aj_d234 rfl rfl (fun q328 => ?_) (fun q328 => ?_)
    · have q328 : (0 : Int) ≠ (0 : Int) := aw_t_ne (a := (0 : Int)) (b := (0 : Int)) hb325 rfl q328
      exfalso
      omega
    · have q328 : (0 : Int) = (0 : Int) := aw_t_ne (a := (0 : Int)) (b := (0 : Int)) hb325 rfl q328
      refine aw_n aj_d234 rfl rfl ?_
      refine aw_e aj_d234 rfl rfl ?_
      exact ⟨(hI327).1, fr326, Or.inl ⟨_, rfl, rfl, aw_G_B hJ325.2⟩⟩
  · skip
    have ck325 : (S313.1 30).toInt + 1 ≤ (S325.1 30).toInt := ck325
    have fr329 := aw_fr_tr fr320 (aw_fr_sub (F := [24, 25, 26, 27, 28, 29, 30, 31]) (A := []) (by decide) (by decide) fc325)
    have hI330 : aw_I s h (aw_sm S325) S325 := ⟨hT325, aw_sm_rf⟩
    show aw_W _ _ _ _ 276 lv314 [.int b325] _ _
    refine aw_z (tgt := 281) aj_d234 rfl rfl (fun q331 => ?_) (fun q331 => ?_)
    · have q331 : (1 : Int) ≠ (0 : Int) := aw_t_ne (a := (1 : Int)) (b := (0 : Int)) hb325 rfl q331
      refine aw_l0 aj_d234 rfl rfl hlv314_1 ?_
      refine aw_z (tgt := 311) aj_d234 rfl rfl (fun q467 => ?_) (fun q467 => ?_)
      · have q467 : x315.toInt < (0 : Int) := aw_t_lt (a := x315.toInt) (b := (0 : Int)) rfl rfl q467
        have b468 : 0 ≤ (S325.1 30).toInt ∧ (S325.1 30).toInt ≤ 1001 := aw_bd_f hs (hI330).1 (by decide) rfl
        have c469 : (S325.1 37).toInt = (S313.1 37).toInt := (congrArg Int32.toInt (fc325.1 37 (by decide)).1).trans rfl
        have b470 : 0 ≤ (S325.1 37).toInt ∧ (S325.1 37).toInt ≤ 1 := aw_bd_f hs (hI330).1 (by decide) rfl
        have c471 : (S325.1 32).toInt = (S313.1 32).toInt := (congrArg Int32.toInt (fc325.1 32 (by decide)).1).trans rfl
        have b472 : 0 ≤ (S325.1 32).toInt ∧ (S325.1 32).toInt ≤ 1 := aw_bd_f hs (hI330).1 (by decide) rfl
        exact (ar_row_L311_331 hU hd S12 N150 S34 x36 x37 x38 x39 ihL150_32 hm150 S313) S325 lv314 (x315) (x316) hlv314_0 hlv314_1 hlv314_2 ⟨(hI330).1, hJ325.2⟩ fr329 (by omega) (by omega) (show _ ≤ ((S325.1 30)).toInt by omega) (show _ = ((S325.1 37)).toInt * 10 + _ by omega) (ar_mk (fun z => ar_un wk270 (by have z : ((S325.1 32)).toInt = 1 := z; show ((S313.1 32)).toInt = 1; omega))) (ar_mk (fun z0 z1 => by rw [show (S325.2.2.1 14) = S313.2.2.1 14 from ((fc325.2 14 (by decide)).1.trans rfl)]; rw [show (S325.2.2.1 9) = S313.2.2.1 9 from ((fc325.2 9 (by decide)).1.trans rfl)] at z1; exact ar_un rw270 z0 z1))
      · have q467 : x315.toInt ≥ (0 : Int) := aw_t_lt (a := x315.toInt) (b := (0 : Int)) rfl rfl q467
        refine aw_l2 aj_d234 rfl rfl hlv314_0 ?_
        refine aw_g hU.1 aj_d234 rfl rfl (by decide) (v := .ref 126) rfl ?_
        refine aw_l0 aj_d234 rfl rfl hlv314_2 ?_
        refine aw_ld (k := 9) hU.1 aj_d234 (Or.inr (Or.inr (Or.inl ⟨rfl, rfl⟩))) rfl (by decide) (by decide) rfl (a := x316.toInt) rfl (by omega) (by omega) (fun x473 ex473 => ?_)
        have bx473 : 0 ≤ x473.toInt ∧ x473.toInt ≤ 1 := by
          rw [ex473]
          exact aw_bd_a hs (hI330).1 (k := 9) (by decide) (by decide) rfl (by decide) rfl (by omega)
        have ftx473 : x473.toInt = (S313.2.2.1 9 (x316.toInt).toNat).toInt := congrArg Int32.toInt (ex473.trans (congrFun ((fc325.2 9 (by decide)).1.trans rfl) _))
        refine aw_z (tgt := 311) aj_d234 rfl rfl (fun q474 => ?_) (fun q474 => ?_)
        · have q474 : x473.toInt ≠ (0 : Int) := aw_t_ne (a := x473.toInt) (b := (0 : Int)) rfl rfl q474
          have b475 : 0 ≤ (S325.1 30).toInt ∧ (S325.1 30).toInt ≤ 1001 := aw_bd_f hs (hI330).1 (by decide) rfl
          have c476 : (S325.1 37).toInt = (S313.1 37).toInt := (congrArg Int32.toInt (fc325.1 37 (by decide)).1).trans rfl
          have b477 : 0 ≤ (S325.1 37).toInt ∧ (S325.1 37).toInt ≤ 1 := aw_bd_f hs (hI330).1 (by decide) rfl
          have c478 : (S325.1 32).toInt = (S313.1 32).toInt := (congrArg Int32.toInt (fc325.1 32 (by decide)).1).trans rfl
          have b479 : 0 ≤ (S325.1 32).toInt ∧ (S325.1 32).toInt ≤ 1 := aw_bd_f hs (hI330).1 (by decide) rfl
          exact (ar_row_L311_331 hU hd S12 N150 S34 x36 x37 x38 x39 ihL150_32 hm150 S313) S325 lv314 (x315) (x316) hlv314_0 hlv314_1 hlv314_2 ⟨(hI330).1, hJ325.2⟩ fr329 (by omega) (by omega) (show _ ≤ ((S325.1 30)).toInt by omega) (show _ = ((S325.1 37)).toInt * 10 + _ by omega) (ar_mk (fun z => ar_un wk270 (by have z : ((S325.1 32)).toInt = 1 := z; show ((S313.1 32)).toInt = 1; omega))) (ar_mk (fun z0 z1 => by rw [show (S325.2.2.1 14) = S313.2.2.1 14 from ((fc325.2 14 (by decide)).1.trans rfl)]; rw [show (S325.2.2.1 9) = S313.2.2.1 9 from ((fc325.2 9 (by decide)).1.trans rfl)] at z1; exact ar_un rw270 z0 z1))
        · have q474 : x473.toInt = (0 : Int) := aw_t_ne (a := x473.toInt) (b := (0 : Int)) rfl rfl q474
          refine aw_l0 aj_d234 rfl rfl hlv314_4 ?_
          refine aw_l2 aj_d234 rfl rfl hlv314_0 ?_
          refine aw_g hU.1 aj_d234 rfl rfl (by decide) (v := .ref 132) rfl ?_
          refine aw_l0 aj_d234 rfl rfl hlv314_2 ?_
          refine aw_ld (k := 15) hU.1 aj_d234 (Or.inl ⟨rfl, rfl⟩) rfl (by decide) (by decide) rfl (a := x316.toInt) rfl (by omega) (by omega) (fun x480 ex480 => ?_)
          have bx480 : (-1) ≤ x480.toInt ∧ x480.toInt ≤ 6 := by
            rw [ex480]
            exact aw_bd_a hs (hI330).1 (k := 15) (by decide) (by decide) rfl (by decide) rfl (by omega)
          have ftx480 : x480.toInt = (S313.2.2.1 15 (x316.toInt).toNat).toInt := congrArg Int32.toInt (ex480.trans (congrFun ((fc325.2 15 (by decide)).1.trans rfl) _))
          refine aw_c (tgt := 311) aj_d234 rfl rfl (fun q481 => ?_) (fun q481 => ?_)
          · have q481 : x318.toInt = x480.toInt := aw_t_eq (a := x318.toInt) (b := x480.toInt) rfl rfl q481
            have b482 : 0 ≤ (S325.1 30).toInt ∧ (S325.1 30).toInt ≤ 1001 := aw_bd_f hs (hI330).1 (by decide) rfl
            have c483 : (S325.1 37).toInt = (S313.1 37).toInt := (congrArg Int32.toInt (fc325.1 37 (by decide)).1).trans rfl
            have b484 : 0 ≤ (S325.1 37).toInt ∧ (S325.1 37).toInt ≤ 1 := aw_bd_f hs (hI330).1 (by decide) rfl
            have c485 : (S325.1 32).toInt = (S313.1 32).toInt := (congrArg Int32.toInt (fc325.1 32 (by decide)).1).trans rfl
            have b486 : 0 ≤ (S325.1 32).toInt ∧ (S325.1 32).toInt ≤ 1 := aw_bd_f hs (hI330).1 (by decide) rfl
            exact (ar_row_L311_331 hU hd S12 N150 S34 x36 x37 x38 x39 ihL150_32 hm150 S313) S325 lv314 (x315) (x316) hlv314_0 hlv314_1 hlv314_2 ⟨(hI330).1, hJ325.2⟩ fr329 (by omega) (by omega) (show _ ≤ ((S325.1 30)).toInt by omega) (show _ = ((S325.1 37)).toInt * 10 + _ by omega) (ar_mk (fun z => ar_un wk270 (by have z : ((S325.1 32)).toInt = 1 := z; show ((S313.1 32)).toInt = 1; omega))) (ar_mk (fun z0 z1 => by rw [show (S325.2.2.1 14) = S313.2.2.1 14 from ((fc325.2 14 (by decide)).1.trans rfl)]; rw [show (S325.2.2.1 9) = S313.2.2.1 9 from ((fc325.2 9 (by decide)).1.trans rfl)] at z1; exact ar_un rw270 z0 z1))
          · have q481 : x318.toInt ≠ x480.toInt := aw_t_eq (a := x318.toInt) (b := x480.toInt) rfl rfl q481
            refine aw_l2 aj_d234 rfl rfl hlv314_0 ?_
            refine aw_n aj_d234 rfl rfl ?_
            refine aw_l0 aj_d234 rfl rfl hlv314_3 ?_
            refine aw_k hU.1 aj_d234 rfl rfl [_, _] rfl rfl rfl (Nat.le_of_ble_eq_true rfl) (ar_tell hU (hI330).1 (by omega) (a := (5 : Int)) rfl (by omega)) ?_
            rintro _ S487 ⟨hT487, fc487, rfl, hz487, hw487⟩
            have hG487 := aw_G_tell hJ325.2 fc487 hz487
            have c488 : (S325.1 32).toInt = (S313.1 32).toInt := (congrArg Int32.toInt (fc325.1 32 (by decide)).1).trans rfl
            have b489 : 0 ≤ (S325.1 32).toInt ∧ (S325.1 32).toInt ≤ 1 := aw_bd_f hs (hI330).1 (by decide) rfl
            have hz487 : ((S325.1 32)).toInt = 0 → (S487.1 24).toInt ≠ 0 := hz487
            have fr490 := aw_fr_tr fr329 (aw_fr_sub (F := [24, 25]) (A := []) (by decide) (by decide) fc487)
            have hI491 : aw_I s h (aw_sm S487) S487 := ⟨hT487, aw_sm_rf⟩
            show aw_W _ _ _ _ 311 lv314 [] _ _
            have b492 : 0 ≤ (S325.1 30).toInt ∧ (S325.1 30).toInt ≤ 1001 := aw_bd_f hs (hI330).1 (by decide) rfl
            have c493 : (S487.1 30).toInt = (S325.1 30).toInt := (congrArg Int32.toInt (fc487.1 30 (by decide)).1).trans rfl
            have b494 : 0 ≤ (S487.1 30).toInt ∧ (S487.1 30).toInt ≤ 1001 := aw_bd_f hs (hI491).1 (by decide) rfl
            have c495 : (S325.1 37).toInt = (S313.1 37).toInt := (congrArg Int32.toInt (fc325.1 37 (by decide)).1).trans rfl
            have b496 : 0 ≤ (S325.1 37).toInt ∧ (S325.1 37).toInt ≤ 1 := aw_bd_f hs (hI330).1 (by decide) rfl
            have c497 : (S487.1 37).toInt = (S313.1 37).toInt := (congrArg Int32.toInt (fc487.1 37 (by decide)).1).trans c495
            have b498 : 0 ≤ (S487.1 37).toInt ∧ (S487.1 37).toInt ≤ 1 := aw_bd_f hs (hI491).1 (by decide) rfl
            have c499 : (S487.1 32).toInt = (S313.1 32).toInt := (congrArg Int32.toInt (fc487.1 32 (by decide)).1).trans c488
            have b500 : 0 ≤ (S487.1 32).toInt ∧ (S487.1 32).toInt ≤ 1 := aw_bd_f hs (hI491).1 (by decide) rfl
            exact (ar_row_L311_331 hU hd S12 N150 S34 x36 x37 x38 x39 ihL150_32 hm150 S313) S487 lv314 (x315) (x316) hlv314_0 hlv314_1 hlv314_2 ⟨(hI491).1, hG487⟩ fr490 (by omega) (by omega) (show _ ≤ ((S487.1 30)).toInt by omega) (show _ = ((S487.1 37)).toInt * 10 + _ by omega) (ar_mk (fun z => ar_un wk270 (by have z : ((S487.1 32)).toInt = 1 := z; show ((S313.1 32)).toInt = 1; omega))) (ar_mk (fun z0 z1 => by rw [show (S487.2.2.1 14) = S313.2.2.1 14 from ((fc487.2 14 (by decide)).1.trans ((fc325.2 14 (by decide)).1.trans rfl))]; rw [show (S487.2.2.1 9) = S313.2.2.1 9 from ((fc487.2 9 (by decide)).1.trans ((fc325.2 9 (by decide)).1.trans rfl))] at z1; exact ar_un rw270 z0 z1))
    · have q331 : (1 : Int) = (0 : Int) := aw_t_ne (a := (1 : Int)) (b := (0 : Int)) hb325 rfl q331
      exfalso
      omega
theorem ar_row_L150_32 (hU : aw_U tb s h) (hd : 9 ≤ d + 1) (S12 : aj_S) : ∀ (N : Nat) (S34 : aj_S) (lv35 : aj_V) (x36 : Int32) (x37 : Int32) (x38 : Int32) (x39 : Int32), (aj_lv lv35 0 = some (.ref 117)) → (aj_lv lv35 1 = some (.int x36)) → (aj_lv lv35 2 = some (.int x37)) → (aj_lv lv35 3 = some (.int x38)) → (aj_lv lv35 4 = some (.int x39)) → (aw_I s h (aw_G (nm, false, la, 0, 0, 0)) S34) → (aw_fr [24, 25, 26, 27, 28, 29, 30, 31, 33, 34, 35, 36, 38, 39, 40, 41, 43, 44] [14, 17, 18, 19, 20, 22] S S34) → ((-1) ≤ x36.toInt ∧ x36.toInt ≤ 9) → ((-1) ≤ x37.toInt ∧ x37.toInt ≤ 19) → (0 ≤ x39.toInt ∧ x39.toInt ≤ 1001) → ((S.1 30).toInt + 1 ≤ (S34.1 30).toInt) → (x37.toInt = (S34.1 37).toInt * 10 + x36.toInt) → (ar_hd ((S34.1 32).toInt = 1 → 0 ≤ x36.toInt)) → (ar_hd (0 ≤ x36.toInt → (S34.2.2.1 9 (x37.toInt).toNat).toInt = 0 → (S34.2.2.1 14 (x37.toInt).toNat).toInt ≤ 29)) → (x39.toInt ≤ (S34.1 30).toInt) → (1001 - (S34.1 30).toInt).toNat < N → aw_W tb h d aj_m234 150 lv35 [] S34 ((ar_QB s h [24, 25, 26, 27, 28, 29, 30, 31, 33, 34, 35, 36, 38, 39, 40, 41, 43, 44] [14, 17, 18, 19, 20, 22] S aw_B (fun S' => aw_G (nm, false, la, 0, 0, 0) S' ∧ (S.1 30).toInt + 1 ≤ (S'.1 30).toInt))) := by
  have hs : aw_sT s := aw_hy_sT hU.2.2
  intro N150
  induction N150 with
  | zero =>
    intro S34 lv35 x36 x37 x38 x39 hlv35_0 hlv35_1 hlv35_2 hlv35_3 hlv35_4 hI40 fr41 bx36 bx37 bx39 ck150 sl150 wk150 rw150 n150 hm150
    omega
  | succ N150 ihL150_32 =>
    intro S34 lv35 x36 x37 x38 x39 hlv35_0 hlv35_1 hlv35_2 hlv35_3 hlv35_4 hI40 fr41 bx36 bx37 bx39 ck150 sl150 wk150 rw150 n150 hm150
    have hI42 : aw_I s h (aw_sm S34) S34 := ⟨hI40.1, aw_sm_rf⟩
    have b43 : 0 ≤ (S34.1 30).toInt ∧ (S34.1 30).toInt ≤ 1001 := aw_bd_f hs (hI42).1 (by decide) rfl
    have b44 : 0 ≤ (S34.1 37).toInt ∧ (S34.1 37).toInt ≤ 1 := aw_bd_f hs (hI42).1 (by decide) rfl
    have b45 : 0 ≤ (S34.1 32).toInt ∧ (S34.1 32).toInt ≤ 1 := aw_bd_f hs (hI42).1 (by decide) rfl
    refine aw_l2 aj_d234 rfl rfl hlv35_0 ?_
    have b501 : 0 ≤ (S34.1 26).toInt ∧ (S34.1 26).toInt ≤ 5 := aw_bd_f hs (hI42).1 (by decide) rfl
    refine aw_g hU.1 aj_d234 rfl rfl (by decide) (v := .int (S34.1 26)) rfl ?_
    refine aw_n aj_d234 rfl rfl ?_
    refine aw_c (tgt := 186) aj_d234 rfl rfl (fun q502 => ?_) (fun q502 => ?_)
    · have q502 : (S34.1 26).toInt = (2 : Int) := aw_t_eq (a := (S34.1 26).toInt) (b := (2 : Int)) rfl rfl q502
      exact (ar_row_L186_45 hU hd S12 N150 S34 x36 x37 x38 x39 ihL150_32 hm150) S34 lv35 (x36) (x37) (x38) (x39) hlv35_0 hlv35_1 hlv35_2 hlv35_3 hlv35_4 ⟨(hI42).1, hI40.2⟩ fr41 (by omega) (by omega) (by omega) (show _ ≤ ((S34.1 30)).toInt by omega) (show _ = ((S34.1 37)).toInt * 10 + _ by omega) (ar_mk (fun z => ar_un wk150 (by have z : ((S34.1 32)).toInt = 1 := z; show ((S34.1 32)).toInt = 1; omega))) (ar_mk (fun z0 z1 => by rw [show (S34.2.2.1 14) = S34.2.2.1 14 from rfl]; rw [show (S34.2.2.1 9) = S34.2.2.1 9 from rfl] at z1; exact ar_un rw150 z0 z1)) (show _ ≤ ((S34.1 30)).toInt by omega) (show _ ≤ ((S34.1 30)).toInt by omega)
    · have q502 : (S34.1 26).toInt ≠ (2 : Int) := aw_t_eq (a := (S34.1 26).toInt) (b := (2 : Int)) rfl rfl q502
      refine aw_l2 aj_d234 rfl rfl hlv35_0 ?_
      refine aw_n aj_d234 rfl rfl ?_
      refine aw_k hU.1 aj_d234 rfl rfl [_] rfl rfl rfl (Nat.le_of_ble_eq_true rfl) (ar_isSign hU (by omega) (b := (45 : Int)) rfl) ?_
      rintro _ S504 ⟨eS504, b503, rfl, kb503⟩
      rw [eS504]
      rcases kb503 with ⟨hb503, pb503, qb503⟩ | ⟨hb503, pb503⟩
      · skip
        have pb503 : ((S34.1 26)).toInt = 3 := pb503
        have qb503 : ((S34.1 29)).toInt = (45 : Int) := qb503
        show aw_W _ _ _ _ 164 lv35 [.int b503] _ _
        refine aw_z (tgt := 186) aj_d234 rfl rfl (fun q505 => ?_) (fun q505 => ?_)
        · have q505 : (1 : Int) ≠ (0 : Int) := aw_t_ne (a := (1 : Int)) (b := (0 : Int)) hb503 rfl q505
          exact (ar_row_L186_45 hU hd S12 N150 S34 x36 x37 x38 x39 ihL150_32 hm150) S34 lv35 (x36) (x37) (x38) (x39) hlv35_0 hlv35_1 hlv35_2 hlv35_3 hlv35_4 ⟨(hI42).1, hI40.2⟩ fr41 (by omega) (by omega) (by omega) (show _ ≤ ((S34.1 30)).toInt by omega) (show _ = ((S34.1 37)).toInt * 10 + _ by omega) (ar_mk (fun z => ar_un wk150 (by have z : ((S34.1 32)).toInt = 1 := z; show ((S34.1 32)).toInt = 1; omega))) (ar_mk (fun z0 z1 => by rw [show (S34.2.2.1 14) = S34.2.2.1 14 from rfl]; rw [show (S34.2.2.1 9) = S34.2.2.1 9 from rfl] at z1; exact ar_un rw150 z0 z1)) (show _ ≤ ((S34.1 30)).toInt by omega) (show _ ≤ ((S34.1 30)).toInt by omega)
        · have q505 : (1 : Int) = (0 : Int) := aw_t_ne (a := (1 : Int)) (b := (0 : Int)) hb503 rfl q505
          exfalso
          omega
      · skip
        clear pb503
        show aw_W _ _ _ _ 164 lv35 [.int b503] _ _
        refine aw_z (tgt := 186) aj_d234 rfl rfl (fun q506 => ?_) (fun q506 => ?_)
        · have q506 : (0 : Int) ≠ (0 : Int) := aw_t_ne (a := (0 : Int)) (b := (0 : Int)) hb503 rfl q506
          exfalso
          omega
        · have q506 : (0 : Int) = (0 : Int) := aw_t_ne (a := (0 : Int)) (b := (0 : Int)) hb503 rfl q506
          refine aw_l2 aj_d234 rfl rfl hlv35_0 ?_
          refine aw_n aj_d234 rfl rfl ?_
          refine aw_k hU.1 aj_d234 rfl rfl [_] rfl rfl rfl (Nat.le_of_ble_eq_true rfl) (ar_isSign hU (by omega) (b := (63 : Int)) rfl) ?_
          rintro _ S508 ⟨eS508, b507, rfl, kb507⟩
          rw [eS508]
          rcases kb507 with ⟨hb507, pb507, qb507⟩ | ⟨hb507, pb507⟩
          · skip
            have pb507 : ((S34.1 26)).toInt = 3 := pb507
            have qb507 : ((S34.1 29)).toInt = (63 : Int) := qb507
            show aw_W _ _ _ _ 173 lv35 [.int b507] _ _
            refine aw_z (tgt := 186) aj_d234 rfl rfl (fun q509 => ?_) (fun q509 => ?_)
            · have q509 : (1 : Int) ≠ (0 : Int) := aw_t_ne (a := (1 : Int)) (b := (0 : Int)) hb507 rfl q509
              exact (ar_row_L186_45 hU hd S12 N150 S34 x36 x37 x38 x39 ihL150_32 hm150) S34 lv35 (x36) (x37) (x38) (x39) hlv35_0 hlv35_1 hlv35_2 hlv35_3 hlv35_4 ⟨(hI42).1, hI40.2⟩ fr41 (by omega) (by omega) (by omega) (show _ ≤ ((S34.1 30)).toInt by omega) (show _ = ((S34.1 37)).toInt * 10 + _ by omega) (ar_mk (fun z => ar_un wk150 (by have z : ((S34.1 32)).toInt = 1 := z; show ((S34.1 32)).toInt = 1; omega))) (ar_mk (fun z0 z1 => by rw [show (S34.2.2.1 14) = S34.2.2.1 14 from rfl]; rw [show (S34.2.2.1 9) = S34.2.2.1 9 from rfl] at z1; exact ar_un rw150 z0 z1)) (show _ ≤ ((S34.1 30)).toInt by omega) (show _ ≤ ((S34.1 30)).toInt by omega)
            · have q509 : (1 : Int) = (0 : Int) := aw_t_ne (a := (1 : Int)) (b := (0 : Int)) hb507 rfl q509
              exfalso
              omega
          · skip
            clear pb507
            show aw_W _ _ _ _ 173 lv35 [.int b507] _ _
            refine aw_z (tgt := 186) aj_d234 rfl rfl (fun q510 => ?_) (fun q510 => ?_)
            · have q510 : (0 : Int) ≠ (0 : Int) := aw_t_ne (a := (0 : Int)) (b := (0 : Int)) hb507 rfl q510
              exfalso
              omega
            · have q510 : (0 : Int) = (0 : Int) := aw_t_ne (a := (0 : Int)) (b := (0 : Int)) hb507 rfl q510
              refine aw_l2 aj_d234 rfl rfl hlv35_0 ?_
              refine aw_n aj_d234 rfl rfl ?_
              refine aw_l2 aj_d234 rfl rfl hlv35_0 ?_
              have b511 : 0 ≤ (S34.1 27).toInt ∧ (S34.1 27).toInt ≤ 4000 := aw_bd_f hs (hI42).1 (by decide) rfl
              refine aw_g hU.1 aj_d234 rfl rfl (by decide) (v := .int (S34.1 27)) rfl ?_
              refine aw_k hU.1 aj_d234 rfl rfl [_, _] rfl rfl rfl (Nat.le_of_ble_eq_true rfl) (ar_stop hU (hI42).1 (by omega) (a := (1 : Int)) rfl) ?_
              rintro _ S512 ⟨hT512, fc512, rfl, hz512⟩
              have hG512 := aw_G_stop hI40.2 fc512 (by omega)
              have fr513 := aw_fr_tr fr41 (aw_fr_sub (F := [24, 25, 31]) (A := []) (by decide) (by decide) fc512)
              have hI514 : aw_I s h (aw_sm S512) S512 := ⟨hT512, aw_sm_rf⟩
              show aw_W _ _ _ _ 185 lv35 [.int (Int32.ofInt 0)] _ _
              refine aw_e aj_d234 rfl rfl ?_
              exact ⟨(hI514).1, fr513, Or.inl ⟨_, rfl, rfl, aw_G_B hG512⟩⟩
theorem ar_row_L128_10 (hU : aw_U tb s h) (hd : 9 ≤ d + 1)  : ∀ (S12 : aj_S) (lv13 : aj_V) (x14 : Int32) (x15 : Int32) (x16 : Int32), (aj_lv lv13 0 = some (.ref 117)) → (aj_lv lv13 1 = some (.int x14)) → (aj_lv lv13 2 = some (.int x15)) → (aj_lv lv13 3 = some (.int x16)) → (aw_I s h (aw_G (nm, false, la, 0, 0, 0)) S12) → (aw_fr [24, 25, 26, 27, 28, 29, 30, 31, 33, 34, 35, 36, 38, 39, 40, 41, 43, 44] [14, 17, 18, 19, 20, 22] S S12) → ((-1) ≤ x14.toInt ∧ x14.toInt ≤ 9) → ((-1) ≤ x15.toInt ∧ x15.toInt ≤ 19) → ((S.1 30).toInt + 1 ≤ (S12.1 30).toInt) → (x15.toInt = (S12.1 37).toInt * 10 + x14.toInt) → (ar_hd ((S12.1 32).toInt = 1 → 0 ≤ x14.toInt)) → (ar_hd (0 ≤ x14.toInt → (S12.2.2.1 9 (x15.toInt).toNat).toInt = 0 → (S12.2.2.1 14 (x15.toInt).toNat).toInt ≤ 29)) → aw_W tb h d aj_m234 128 lv13 [] S12 ((ar_QB s h [24, 25, 26, 27, 28, 29, 30, 31, 33, 34, 35, 36, 38, 39, 40, 41, 43, 44] [14, 17, 18, 19, 20, 22] S aw_B (fun S' => aw_G (nm, false, la, 0, 0, 0) S' ∧ (S.1 30).toInt + 1 ≤ (S'.1 30).toInt))) := by
  have hs : aw_sT s := aw_hy_sT hU.2.2
  intro S12 lv13 x14 x15 x16 hlv13_0 hlv13_1 hlv13_2 hlv13_3 hI17 fr18 bx14 bx15 ck128 sl128 wk128 rw128
  have hI19 : aw_I s h (aw_sm S12) S12 := ⟨hI17.1, aw_sm_rf⟩
  have b20 : 0 ≤ (S12.1 30).toInt ∧ (S12.1 30).toInt ≤ 1001 := aw_bd_f hs (hI19).1 (by decide) rfl
  have b21 : 0 ≤ (S12.1 37).toInt ∧ (S12.1 37).toInt ≤ 1 := aw_bd_f hs (hI19).1 (by decide) rfl
  have b22 : 0 ≤ (S12.1 32).toInt ∧ (S12.1 32).toInt ≤ 1 := aw_bd_f hs (hI19).1 (by decide) rfl
  refine aw_l2 aj_d234 rfl rfl hlv13_0 ?_
  refine aw_n aj_d234 rfl rfl ?_
  refine aw_k hU.1 aj_d234 rfl rfl [_] rfl rfl rfl (Nat.le_of_ble_eq_true rfl) (aw_toK hU aw_Gs_G (con := ac_c219_40) (by omega) (ar_219_40 hU.2.1 (aw_SPc hU.2.2 aw_Gs_G) aw_kpc (arc_214b hU) (arc_215 hU)) ⟨(hI19).1, hI17.2⟩ ⟨(aw_g117 hU.2.2), (cw_gw (a := (40 : Int)) rfl (by omega) (by omega)), trivial⟩ (fun e he => nomatch he)) ?_
  rintro r23 S23 ⟨hr23, hJ23, fc23, po23, -⟩
  have hT23 := hJ23.1
  replace fc23 := aw_fr_sub (F' := [24, 25, 26, 27, 28, 29, 30, 31]) (A' := []) (by decide) (by decide) fc23
  rcases ar_bool hU (hI19).1 hT23 hr23 po23 with ⟨b23, rfl, hb23, cf23⟩ | ⟨b23, rfl, hb23, ck23, gq23⟩
  · skip
    have cf23 : (S12.1 30).toInt + 0 ≤ (S23.1 30).toInt := cf23
    have fr24 := aw_fr_tr fr18 (aw_fr_sub (F := [24, 25, 26, 27, 28, 29, 30, 31]) (A := []) (by decide) (by decide) fc23)
    have hI25 : aw_I s h (aw_sm S23) S23 := ⟨hT23, aw_sm_rf⟩
    show aw_W _ _ _ _ 134 lv13 [.int b23] _ _
    refine aw_z (tgt := 139) aj_d234 rfl rfl (fun q26 => ?_) (fun q26 => ?_)
    · have q26 : (0 : Int) ≠ (0 : Int) := aw_t_ne (a := (0 : Int)) (b := (0 : Int)) hb23 rfl q26
      exfalso
      omega
    · have q26 : (0 : Int) = (0 : Int) := aw_t_ne (a := (0 : Int)) (b := (0 : Int)) hb23 rfl q26
      refine aw_n aj_d234 rfl rfl ?_
      refine aw_e aj_d234 rfl rfl ?_
      exact ⟨(hI25).1, fr24, Or.inl ⟨_, rfl, rfl, aw_G_B hJ23.2⟩⟩
  · skip
    have ck23 : (S12.1 30).toInt + 1 ≤ (S23.1 30).toInt := ck23
    have fr27 := aw_fr_tr fr18 (aw_fr_sub (F := [24, 25, 26, 27, 28, 29, 30, 31]) (A := []) (by decide) (by decide) fc23)
    have hI28 : aw_I s h (aw_sm S23) S23 := ⟨hT23, aw_sm_rf⟩
    show aw_W _ _ _ _ 134 lv13 [.int b23] _ _
    refine aw_z (tgt := 139) aj_d234 rfl rfl (fun q29 => ?_) (fun q29 => ?_)
    · have q29 : (1 : Int) ≠ (0 : Int) := aw_t_ne (a := (1 : Int)) (b := (0 : Int)) hb23 rfl q29
      refine aw_n aj_d234 rfl rfl ?_
      refine aw_t0 (j := 4) aj_d234 rfl (by decide) rfl ?_
      obtain ⟨lv30, elv30⟩ : ∃ l, l = aj_set1 lv13 4 (.int (Int32.ofInt 0)) := ⟨_, rfl⟩
      rw [← elv30]
      have hlv30_0 : aj_lv lv30 0 = some (.ref 117) := cw_e1 elv30 hlv13_0 (by decide) (Or.inl (by decide))
      have hlv30_1 : aj_lv lv30 1 = some (.int x14) := cw_e1 elv30 hlv13_1 (by decide) (Or.inl (by decide))
      have hlv30_2 : aj_lv lv30 2 = some (.int x15) := cw_e1 elv30 hlv13_2 (by decide) (Or.inl (by decide))
      have hlv30_3 : aj_lv lv30 3 = some (.int x16) := cw_e1 elv30 hlv13_3 (by decide) (Or.inr rfl)
      have hlv30_4 : aj_lv lv30 4 = some (.int (Int32.ofInt 0)) := by rw [elv30]; exact ak_set1_eq _ _ _
      show aw_W _ _ _ _ 142 lv30 [] _ _
      refine aw_n aj_d234 rfl rfl ?_
      refine aw_t0 (j := 5) aj_d234 rfl (by decide) rfl ?_
      obtain ⟨lv31, elv31⟩ : ∃ l, l = aj_set1 lv30 5 (.int (Int32.ofInt 1)) := ⟨_, rfl⟩
      rw [← elv31]
      have hlv31_0 : aj_lv lv31 0 = some (.ref 117) := cw_e1 elv31 hlv30_0 (by decide) (Or.inl (by decide))
      have hlv31_1 : aj_lv lv31 1 = some (.int x14) := cw_e1 elv31 hlv30_1 (by decide) (Or.inl (by decide))
      have hlv31_2 : aj_lv lv31 2 = some (.int x15) := cw_e1 elv31 hlv30_2 (by decide) (Or.inl (by decide))
      have hlv31_3 : aj_lv lv31 3 = some (.int x16) := cw_e1 elv31 hlv30_3 (by decide) (Or.inl (by decide))
      have hlv31_4 : aj_lv lv31 4 = some (.int (Int32.ofInt 0)) := cw_e1 elv31 hlv30_4 (by decide) (Or.inr rfl)
      have hlv31_5 : aj_lv lv31 5 = some (.int (Int32.ofInt 1)) := by rw [elv31]; exact ak_set1_eq _ _ _
      show aw_W _ _ _ _ 145 lv31 [] _ _
      refine aw_l0 aj_d234 rfl rfl hlv31_5 ?_
      refine aw_z (tgt := 270) aj_d234 rfl rfl (fun q32 => ?_) (fun q32 => ?_)
      · have q32 : (1 : Int) = (0 : Int) := aw_t_eq (a := (1 : Int)) (b := (0 : Int)) rfl rfl q32
        exfalso
        omega
      · have q32 : (1 : Int) ≠ (0 : Int) := aw_t_eq (a := (1 : Int)) (b := (0 : Int)) rfl rfl q32
        have b515 : 0 ≤ (S23.1 30).toInt ∧ (S23.1 30).toInt ≤ 1001 := aw_bd_f hs (hI28).1 (by decide) rfl
        have c516 : (S23.1 37).toInt = (S12.1 37).toInt := (congrArg Int32.toInt (fc23.1 37 (by decide)).1).trans rfl
        have b517 : 0 ≤ (S23.1 37).toInt ∧ (S23.1 37).toInt ≤ 1 := aw_bd_f hs (hI28).1 (by decide) rfl
        have c518 : (S23.1 32).toInt = (S12.1 32).toInt := (congrArg Int32.toInt (fc23.1 32 (by decide)).1).trans rfl
        have b519 : 0 ≤ (S23.1 32).toInt ∧ (S23.1 32).toInt ≤ 1 := aw_bd_f hs (hI28).1 (by decide) rfl
        exact (ar_row_L150_32 hU hd S12) _ S23 lv31 (x14) (x15) (x16) ((Int32.ofInt 0)) hlv31_0 hlv31_1 hlv31_2 hlv31_3 hlv31_4 ⟨(hI28).1, hJ23.2⟩ fr27 (by omega) (by omega) (by first | omega | decide) (show _ ≤ ((S23.1 30)).toInt by omega) (show _ = ((S23.1 37)).toInt * 10 + _ by omega) (ar_mk (fun z => ar_un wk128 (by have z : ((S23.1 32)).toInt = 1 := z; show ((S12.1 32)).toInt = 1; omega))) (ar_mk (fun z0 z1 => by rw [show (S23.2.2.1 14) = S12.2.2.1 14 from ((fc23.2 14 (by decide)).1.trans rfl)]; rw [show (S23.2.2.1 9) = S12.2.2.1 9 from ((fc23.2 9 (by decide)).1.trans rfl)] at z1; exact ar_un rw128 z0 z1)) (show (0 : Int) ≤ ((S23.1 30)).toInt by omega) (Nat.lt_succ_self _)
    · have q29 : (1 : Int) = (0 : Int) := aw_t_ne (a := (1 : Int)) (b := (0 : Int)) hb23 rfl q29
      exfalso
      omega
theorem ar_rowTold (hU : aw_U tb s h) (hT : ak_Ty ak_TN s (aj_mh h S)) (hG : aw_G (nm, false, la, 0, 0, 0) S) (hd : 9 ≤ d) (hk : (S.1 26).toInt = 4 ∧ (S.1 29).toInt = 2) : aw_K tb h d 234 [.ref 117] S (ar_QB s h [24, 25, 26, 27, 28, 29, 30, 31, 33, 34, 35, 36, 38, 39, 40, 41, 43, 44] [14, 17, 18, 19, 20, 22] S aw_B (fun S' => aw_G (nm, false, la, 0, 0, 0) S' ∧ (S.1 30).toInt + 1 ≤ (S'.1 30).toInt)) := by
  obtain ⟨d, rfl⟩ : ∃ e, d = e + 1 := ⟨d - 1, by omega⟩
  have hs : aw_sT s := aw_hy_sT hU.2.2
  refine aw_m aj_m234_at rfl (Nat.le_of_ble_eq_true rfl) ?_
  show aw_W _ _ _ _ 0 [(0, .ref 117)] [] _ _
  obtain ⟨lv1, elv1⟩ : ∃ l : aj_V, l = [(0, .ref 117)] := ⟨_, rfl⟩
  rw [← elv1]
  have hlv1_0 : aj_lv lv1 0 = some (.ref 117) := by rw [elv1]; rfl
  have hI2 : aw_I s h (aw_sm S) S := ⟨hT, aw_sm_rf⟩
  have fr3 : aw_fr [24, 25, 26, 27, 28, 29, 30, 31, 33, 34, 35, 36, 38, 39, 40, 41, 43, 44] [14, 17, 18, 19, 20, 22] S S := aw_fr_rf
  refine aw_l2 aj_d234 rfl rfl hlv1_0 ?_
  have i4 : aw_is (aw_tT S) (aw_tJ S) 4 2 := ⟨hG.1.2.1.1.symm.trans hk.1, hG.1.2.1.2.2.2.symm.trans hk.2⟩
  have ni : ∀ b : Int, b ≠ 2 → ¬ aw_is (aw_tT S) (aw_tJ S) 4 b := fun b b1 z => b1 (z.2.symm.trans i4.2)
  refine aw_k hU.1 aj_d234 rfl rfl [] rfl rfl rfl (Nat.le_of_ble_eq_true rfl) (ar_passG (ho' := aw_tJ S) (hu' := 0) (ht' := 0) hU (hI2).1 hG (by omega) (by omega) ⟨Or.inl rfl, Or.inl rfl⟩ (Or.inl ⟨rfl, ni 0 (by decide)⟩) (Or.inl ⟨rfl, fun z => z.elim (ni 1 (by decide)) (ni 5 (by decide))⟩)) ?_
  rintro _ S4 ⟨hT4, fc4, ⟨b4, rfl, hb4, hG4, fd4, hz4⟩ | ⟨b4, rfl, hb4, hG4, fd4, cj4⟩⟩
  · skip
    have fr5 := aw_fr_tr fr3 (aw_fr_sub (F := [24, 25, 31]) (A := []) (by decide) (by decide) fd4)
    have hI6 : aw_I s h (aw_sm S4) S4 := ⟨hT4, aw_sm_rf⟩
    show aw_W _ _ _ _ 4 lv1 [.int b4] _ _
    refine aw_z (tgt := 9) aj_d234 rfl rfl (fun q7 => ?_) (fun q7 => ?_)
    · have q7 : (0 : Int) ≠ (0 : Int) := aw_t_ne (a := (0 : Int)) (b := (0 : Int)) hb4 rfl q7
      exfalso
      omega
    · have q7 : (0 : Int) = (0 : Int) := aw_t_ne (a := (0 : Int)) (b := (0 : Int)) hb4 rfl q7
      refine aw_n aj_d234 rfl rfl ?_
      refine aw_e aj_d234 rfl rfl ?_
      exact ⟨(hI6).1, fr5, Or.inl ⟨_, rfl, rfl, aw_G_B hG4⟩⟩
  · skip
    have fr8 := aw_fr_tr fr3 (aw_fr_sub (F := [26, 27, 28, 29, 30]) (A := []) (by decide) (by decide) fd4)
    have hI9 : aw_I s h (aw_sm S4) S4 := ⟨hT4, aw_sm_rf⟩
    show aw_W _ _ _ _ 4 lv1 [.int b4] _ _
    have eT1 : aw_tT S4 = aw_tT S := aw_fr_tT fd4 (by decide) (by decide)
    have eF1 : aw_tF S4 = aw_tF S := (fd4.2 21 (by decide)).1
    have eJ1 : aw_tJ S4 = aw_tJ S + 1 := by
      have j1 := hG.1.1
      unfold aw_tJ at j1 ⊢
      omega
    refine aw_z (tgt := 9) aj_d234 rfl rfl (fun q10 => ?_) (fun q10 => ?_)
    · have q10 : (1 : Int) ≠ (0 : Int) := aw_t_ne (a := (1 : Int)) (b := (0 : Int)) hb4 rfl q10
      refine aw_l2 aj_d234 rfl rfl hlv1_0 ?_
      have b520 : 0 ≤ (S4.1 26).toInt ∧ (S4.1 26).toInt ≤ 5 := aw_bd_f hs (hI9).1 (by decide) rfl
      refine aw_g hU.1 aj_d234 rfl rfl (by decide) (v := .int (S4.1 26)) rfl ?_
      refine aw_n aj_d234 rfl rfl ?_
      refine aw_c (tgt := 40) aj_d234 rfl rfl (fun q521 => ?_) (fun q521 => ?_)
      · have q521 : (S4.1 26).toInt ≠ (1 : Int) := aw_t_ne (a := (S4.1 26).toInt) (b := (1 : Int)) rfl rfl q521
        refine aw_n aj_d234 rfl rfl ?_
        refine aw_t0 (j := 1) aj_d234 rfl (by decide) rfl ?_
        obtain ⟨lv522, elv522⟩ : ∃ l, l = aj_set1 lv1 1 (.int (Int32.ofInt (-1))) := ⟨_, rfl⟩
        rw [← elv522]
        have hlv522_0 : aj_lv lv522 0 = some (.ref 117) := cw_e1 elv522 hlv1_0 (by decide) (Or.inr rfl)
        have hlv522_1 : aj_lv lv522 1 = some (.int (Int32.ofInt (-1))) := by rw [elv522]; exact ak_set1_eq _ _ _
        show aw_W _ _ _ _ 42 lv522 [] _ _
        refine aw_l2 aj_d234 rfl rfl hlv522_0 ?_
        have b523 : 0 ≤ (S.1 37).toInt ∧ (S.1 37).toInt ≤ 1 := aw_bd_f hs (hI2).1 (by decide) rfl
        have c524 : (S4.1 37).toInt = (S.1 37).toInt := (congrArg Int32.toInt (fd4.1 37 (by decide)).1).trans rfl
        have b525 : 0 ≤ (S4.1 37).toInt ∧ (S4.1 37).toInt ≤ 1 := aw_bd_f hs (hI9).1 (by decide) rfl
        refine aw_g hU.1 aj_d234 rfl rfl (by decide) (v := .int (S4.1 37)) rfl ?_
        refine aw_n aj_d234 rfl rfl ?_
        refine aw_mul aj_d234 rfl (a := (S.1 37).toInt) (b := (10 : Int)) c524 rfl (by omega) (by omega) (fun x526 ex526 => ?_)
        refine aw_l0 aj_d234 rfl rfl hlv522_1 ?_
        refine aw_add aj_d234 rfl (a := x526.toInt) (b := (-1 : Int)) rfl rfl (by omega) (by omega) (fun x527 ex527 => ?_)
        refine aw_t0 (j := 2) aj_d234 rfl (by decide) rfl ?_
        obtain ⟨lv528, elv528⟩ : ∃ l, l = aj_set1 lv522 2 (.int x527) := ⟨_, rfl⟩
        rw [← elv528]
        have hlv528_0 : aj_lv lv528 0 = some (.ref 117) := cw_e1 elv528 hlv522_0 (by decide) (Or.inl (by decide))
        have hlv528_1 : aj_lv lv528 1 = some (.int (Int32.ofInt (-1))) := cw_e1 elv528 hlv522_1 (by decide) (Or.inr rfl)
        have hlv528_2 : aj_lv lv528 2 = some (.int x527) := by rw [elv528]; exact ak_set1_eq _ _ _
        show aw_W _ _ _ _ 52 lv528 [] _ _
        refine aw_l0 aj_d234 rfl rfl hlv528_1 ?_
        refine aw_z (tgt := 86) aj_d234 rfl rfl (fun q529 => ?_) (fun q529 => ?_)
        · have q529 : (-1 : Int) < (0 : Int) := aw_t_lt (a := (-1 : Int)) (b := (0 : Int)) rfl rfl q529
          refine aw_l2 aj_d234 rfl rfl hlv528_0 ?_
          have b531 : 0 ≤ (S4.1 30).toInt ∧ (S4.1 30).toInt ≤ 1001 := aw_bd_f hs (hI9).1 (by decide) rfl
          refine aw_k hU.1 aj_d234 rfl rfl [] rfl rfl rfl (Nat.le_of_ble_eq_true rfl) (ar_named hU (hI9).1 hG4 (by omega)) ?_
          rintro _ S530 ⟨hT530, fc530, ⟨b530, rfl, hb530, hG530, ck530, hz530⟩ | ⟨b530, rfl, hb530, hG530, ck530, cj530, k1530, nm530⟩⟩
          · skip
            have ck530 : ((S4.1 30)).toInt ≤ (S530.1 30).toInt := ck530
            have fr532 := aw_fr_tr fr8 (aw_fr_sub (F := [24, 25, 26, 27, 28, 29, 30, 31, 33, 34]) (A := []) (by decide) (by decide) fc530)
            have hI533 : aw_I s h (aw_sm S530) S530 := ⟨hT530, aw_sm_rf⟩
            show aw_W _ _ _ _ 90 lv528 [.int b530] _ _
            refine aw_z (tgt := 95) aj_d234 rfl rfl (fun q534 => ?_) (fun q534 => ?_)
            · have q534 : (0 : Int) ≠ (0 : Int) := aw_t_ne (a := (0 : Int)) (b := (0 : Int)) hb530 rfl q534
              exfalso
              omega
            · have q534 : (0 : Int) = (0 : Int) := aw_t_ne (a := (0 : Int)) (b := (0 : Int)) hb530 rfl q534
              refine aw_n aj_d234 rfl rfl ?_
              refine aw_e aj_d234 rfl rfl ?_
              exact ⟨(hI533).1, fr532, Or.inl ⟨_, rfl, rfl, aw_G_B hG530⟩⟩
          · skip
            have cj530 : (S530.1 30).toInt = ((S4.1 30)).toInt + 1 := cj530
            have k1530 : ((S4.1 26)).toInt = 1 := k1530
            exfalso
            omega
        · have q529 : (-1 : Int) ≥ (0 : Int) := aw_t_lt (a := (-1 : Int)) (b := (0 : Int)) rfl rfl q529
          exfalso
          omega
      · have q521 : (S4.1 26).toInt = (1 : Int) := aw_t_ne (a := (S4.1 26).toInt) (b := (1 : Int)) rfl rfl q521
        refine aw_l2 aj_d234 rfl rfl hlv1_0 ?_
        refine aw_l2 aj_d234 rfl rfl hlv1_0 ?_
        have b535 : 0 ≤ (S.1 37).toInt ∧ (S.1 37).toInt ≤ 1 := aw_bd_f hs (hI2).1 (by decide) rfl
        have c536 : (S4.1 37).toInt = (S.1 37).toInt := (congrArg Int32.toInt (fd4.1 37 (by decide)).1).trans rfl
        have b537 : 0 ≤ (S4.1 37).toInt ∧ (S4.1 37).toInt ≤ 1 := aw_bd_f hs (hI9).1 (by decide) rfl
        refine aw_g hU.1 aj_d234 rfl rfl (by decide) (v := .int (S4.1 37)) rfl ?_
        refine aw_l2 aj_d234 rfl rfl hlv1_0 ?_
        refine aw_l2 aj_d234 rfl rfl hlv1_0 ?_
        have b538 : 0 ≤ (S4.1 27).toInt ∧ (S4.1 27).toInt ≤ 4000 := aw_bd_f hs (hI9).1 (by decide) rfl
        refine aw_g hU.1 aj_d234 rfl rfl (by decide) (v := .int (S4.1 27)) rfl ?_
        refine aw_l2 aj_d234 rfl rfl hlv1_0 ?_
        have b539 : 0 ≤ (S4.1 28).toInt ∧ (S4.1 28).toInt ≤ 4000 := aw_bd_f hs (hI9).1 (by decide) rfl
        refine aw_g hU.1 aj_d234 rfl rfl (by decide) (v := .int (S4.1 28)) rfl ?_
        have tk := aw_GA_tok hG4.1 (by omega)
        have bN : aw_tN S4 ≤ 4000 := by
          have bb := aw_bd_f hs hI9.1 (k := 23) (lo := 0) (hi := 4000) (by decide) rfl
          unfold aw_tN
          omega
        refine aw_k hU.1 aj_d234 rfl rfl [_, _] rfl rfl rfl (Nat.le_of_ble_eq_true rfl) (aw_packedK (aw_UV hU (fun _ _ _ q => q)) (by omega) tk.1 tk.2.1 (by omega) (by omega)) ?_
        rintro _ zy540 ⟨y540, rfl, fy540, ey540⟩
        rw [fy540]
        show aw_W _ _ _ _ 34 lv1 [.long y540, .int (S4.1 37), .ref 117] _ _
        refine aw_k hU.1 aj_d234 rfl rfl [_, _] rfl rfl rfl (Nat.le_of_ble_eq_true rfl) (aw_tableOfK (aw_UV hU aw_Gs_sm) hI9 (by omega) (t := aw_h S4) (by show ((S4.1 37)).toInt = _; unfold aw_h; omega) (by unfold aw_h; omega)) ?_
        rintro _ zb541 ⟨b541, rfl, fb541, hfb541⟩
        rw [fb541]
        have nt1 : ¬ aw_is (aw_tT S4) (aw_tJ S) 4 1 ∧ ¬ aw_is (aw_tT S4) (aw_tJ S) 4 5 := by rw [eT1]; exact ⟨ni 1 (by decide), ni 5 (by decide)⟩
        have hfn : aw_find231 S4 (aw_h S4) (aw_nm (aw_tF S4) (aw_tT S4) (aw_tJ S + 1)) b541 := by
          have e5 : aw_nm (aw_tF S4) (aw_tT S4) (aw_tJ S + 1) = y540 := by rw [ey540, ← eJ1]; rfl
          rw [e5]
          exact hfb541
        have hw1 : ar_hd ((S.1 32).toInt = 1 → 0 ≤ b541.toInt) := ar_mk (fun z => aw_resT_find hG4 eJ1 nt1 hfn (by
          have r1 := aw_GC_resT hG z hk.1 hk.2
          rw [eF1, eT1]
          exact r1))
        have hb9 : -1 ≤ b541.toInt ∧ b541.toInt ≤ 9 := by
          have b8 := aw_bd_a hs hI9.1 (k := 7) (j := aw_h S4) (lo := 0) (hi := 10) (by decide) (by decide) rfl (by decide) rfl (by unfold aw_h; omega)
          rcases hfn with ⟨i, y1, y2, -⟩ | ⟨y1, -⟩
          · have y2 : (i : Int) < (S4.2.2.1 7 (aw_h S4)).toInt := y2
            omega
          · omega
        show aw_W _ _ _ _ 37 lv1 [.int b541] _ _
        refine aw_n aj_d234 rfl rfl ?_
        refine aw_t0 (j := 1) aj_d234 rfl (by decide) rfl ?_
        obtain ⟨lv542, elv542⟩ : ∃ l, l = aj_set1 lv1 1 (.int b541) := ⟨_, rfl⟩
        rw [← elv542]
        have hlv542_0 : aj_lv lv542 0 = some (.ref 117) := cw_e1 elv542 hlv1_0 (by decide) (Or.inr rfl)
        have hlv542_1 : aj_lv lv542 1 = some (.int b541) := by rw [elv542]; exact ak_set1_eq _ _ _
        show aw_W _ _ _ _ 42 lv542 [] _ _
        refine aw_l2 aj_d234 rfl rfl hlv542_0 ?_
        refine aw_g hU.1 aj_d234 rfl rfl (by decide) (v := .int (S4.1 37)) rfl ?_
        refine aw_n aj_d234 rfl rfl ?_
        refine aw_mul aj_d234 rfl (a := (S.1 37).toInt) (b := (10 : Int)) c536 rfl (by omega) (by omega) (fun x543 ex543 => ?_)
        refine aw_l0 aj_d234 rfl rfl hlv542_1 ?_
        refine aw_add aj_d234 rfl (a := x543.toInt) (b := b541.toInt) rfl rfl (by omega) (by omega) (fun x544 ex544 => ?_)
        refine aw_t0 (j := 2) aj_d234 rfl (by decide) rfl ?_
        obtain ⟨lv545, elv545⟩ : ∃ l, l = aj_set1 lv542 2 (.int x544) := ⟨_, rfl⟩
        rw [← elv545]
        have hlv545_0 : aj_lv lv545 0 = some (.ref 117) := cw_e1 elv545 hlv542_0 (by decide) (Or.inl (by decide))
        have hlv545_1 : aj_lv lv545 1 = some (.int b541) := cw_e1 elv545 hlv542_1 (by decide) (Or.inr rfl)
        have hlv545_2 : aj_lv lv545 2 = some (.int x544) := by rw [elv545]; exact ak_set1_eq _ _ _
        show aw_W _ _ _ _ 52 lv545 [] _ _
        refine aw_l0 aj_d234 rfl rfl hlv545_1 ?_
        refine aw_z (tgt := 86) aj_d234 rfl rfl (fun q546 => ?_) (fun q546 => ?_)
        · have q546 : b541.toInt < (0 : Int) := aw_t_lt (a := b541.toInt) (b := (0 : Int)) rfl rfl q546
          refine aw_l2 aj_d234 rfl rfl hlv545_0 ?_
          have b548 : 0 ≤ (S4.1 30).toInt ∧ (S4.1 30).toInt ≤ 1001 := aw_bd_f hs (hI9).1 (by decide) rfl
          refine aw_k hU.1 aj_d234 rfl rfl [] rfl rfl rfl (Nat.le_of_ble_eq_true rfl) (ar_named hU (hI9).1 hG4 (by omega)) ?_
          rintro _ S547 ⟨hT547, fc547, ⟨b547, rfl, hb547, hG547, ck547, hz547⟩ | ⟨b547, rfl, hb547, hG547, ck547, cj547, k1547, nm547⟩⟩
          · skip
            have ck547 : ((S4.1 30)).toInt ≤ (S547.1 30).toInt := ck547
            have fr549 := aw_fr_tr fr8 (aw_fr_sub (F := [24, 25, 26, 27, 28, 29, 30, 31, 33, 34]) (A := []) (by decide) (by decide) fc547)
            have hI550 : aw_I s h (aw_sm S547) S547 := ⟨hT547, aw_sm_rf⟩
            show aw_W _ _ _ _ 90 lv545 [.int b547] _ _
            refine aw_z (tgt := 95) aj_d234 rfl rfl (fun q551 => ?_) (fun q551 => ?_)
            · have q551 : (0 : Int) ≠ (0 : Int) := aw_t_ne (a := (0 : Int)) (b := (0 : Int)) hb547 rfl q551
              exfalso
              omega
            · have q551 : (0 : Int) = (0 : Int) := aw_t_ne (a := (0 : Int)) (b := (0 : Int)) hb547 rfl q551
              refine aw_n aj_d234 rfl rfl ?_
              refine aw_e aj_d234 rfl rfl ?_
              exact ⟨(hI550).1, fr549, Or.inl ⟨_, rfl, rfl, aw_G_B hG547⟩⟩
          · skip
            have cj547 : (S547.1 30).toInt = ((S4.1 30)).toInt + 1 := cj547
            have k1547 : ((S4.1 26)).toInt = 1 := k1547
            have fr552 := aw_fr_tr fr8 (aw_fr_sub (F := [24, 25, 26, 27, 28, 29, 30, 31, 33, 34]) (A := []) (by decide) (by decide) fc547)
            have hI553 : aw_I s h (aw_sm S547) S547 := ⟨hT547, aw_sm_rf⟩
            show aw_W _ _ _ _ 90 lv545 [.int b547] _ _
            refine aw_z (tgt := 95) aj_d234 rfl rfl (fun q554 => ?_) (fun q554 => ?_)
            · have q554 : (1 : Int) ≠ (0 : Int) := aw_t_ne (a := (1 : Int)) (b := (0 : Int)) hb547 rfl q554
              refine aw_l2 aj_d234 rfl rfl hlv545_0 ?_
              refine aw_g hU.1 aj_d234 rfl rfl (by decide) (v := .int (S547.1 34)) rfl ?_
              refine aw_t0 (j := 3) aj_d234 rfl (by decide) rfl ?_
              obtain ⟨lv555, elv555⟩ : ∃ l, l = aj_set1 lv545 3 (.int (S547.1 34)) := ⟨_, rfl⟩
              rw [← elv555]
              have hlv555_0 : aj_lv lv555 0 = some (.ref 117) := cw_e1 elv555 hlv545_0 (by decide) (Or.inl (by decide))
              have hlv555_1 : aj_lv lv555 1 = some (.int b541) := cw_e1 elv555 hlv545_1 (by decide) (Or.inl (by decide))
              have hlv555_2 : aj_lv lv555 2 = some (.int x544) := cw_e1 elv555 hlv545_2 (by decide) (Or.inr rfl)
              have hlv555_3 : aj_lv lv555 3 = some (.int (S547.1 34)) := by rw [elv555]; exact ak_set1_eq _ _ _
              show aw_W _ _ _ _ 100 lv555 [] _ _
              refine aw_l0 aj_d234 rfl rfl hlv555_1 ?_
              refine aw_z (tgt := 113) aj_d234 rfl rfl (fun q556 => ?_) (fun q556 => ?_)
              · have q556 : b541.toInt ≥ (0 : Int) := aw_t_ge (a := b541.toInt) (b := (0 : Int)) rfl rfl q556
                have eTb : aw_tT S547 = aw_tT S4 := by rw [aw_fr_tT fr552 (by decide) (by decide), eT1]
                have eFb : aw_tF S547 = aw_tF S4 := by rw [show aw_tF S547 = aw_tF S from (fr552.2 21 (by decide)).1, eF1]
                have hG557 : aw_G (nm, false, la, 0, 0, 0) S547 := aw_G_fill hG547 (fun z => absurd (i4.1.symm.trans (show ((aw_tT S) (aw_tJ S)).1 = 3 from (by have y := z.1; rw [eTb, eT1] at y; exact y))) (by decide)) (fun _ => by rw [eTb, eFb]; exact aw_findT_res hG4 eJ1 nt1 hfn (by omega))
                have hI558 : aw_I s h (aw_sm S547) S547 := ⟨(hI553).1, aw_sm_rf⟩
                refine aw_l2 aj_d234 rfl rfl hlv555_0 ?_
                refine aw_g hU.1 aj_d234 rfl rfl (by decide) (v := .ref 126) rfl ?_
                refine aw_l0 aj_d234 rfl rfl hlv555_2 ?_
                refine aw_ld (k := 9) hU.1 aj_d234 (Or.inr (Or.inr (Or.inl ⟨rfl, rfl⟩))) rfl (by decide) (by decide) rfl (a := x544.toInt) rfl (by omega) (by omega) (fun x559 ex559 => ?_)
                have bx559 : 0 ≤ x559.toInt ∧ x559.toInt ≤ 1 := by
                  rw [ex559]
                  exact aw_bd_a hs (hI558).1 (k := 9) (by decide) (by decide) rfl (by decide) rfl (by omega)
                have ftx559 : x559.toInt = (S.2.2.1 9 (x544.toInt).toNat).toInt := congrArg Int32.toInt (ex559.trans (congrFun ((fc547.2 9 (by decide)).1.trans ((fd4.2 9 (by decide)).1.trans rfl)) _))
                refine aw_z (tgt := 128) aj_d234 rfl rfl (fun q560 => ?_) (fun q560 => ?_)
                · have q560 : x559.toInt = (0 : Int) := aw_t_eq (a := x559.toInt) (b := (0 : Int)) rfl rfl q560
                  have b561 : 0 ≤ (S547.1 30).toInt ∧ (S547.1 30).toInt ≤ 1001 := aw_bd_f hs (hI553).1 (by decide) rfl
                  have c562 : (S547.1 37).toInt = (S.1 37).toInt := (congrArg Int32.toInt (fc547.1 37 (by decide)).1).trans c536
                  have b563 : 0 ≤ (S547.1 37).toInt ∧ (S547.1 37).toInt ≤ 1 := aw_bd_f hs (hI553).1 (by decide) rfl
                  have b564 : 0 ≤ (S.1 32).toInt ∧ (S.1 32).toInt ≤ 1 := aw_bd_f hs (hI2).1 (by decide) rfl
                  have c565 : (S4.1 32).toInt = (S.1 32).toInt := (congrArg Int32.toInt (fd4.1 32 (by decide)).1).trans rfl
                  have b566 : 0 ≤ (S4.1 32).toInt ∧ (S4.1 32).toInt ≤ 1 := aw_bd_f hs (hI9).1 (by decide) rfl
                  have c567 : (S547.1 32).toInt = (S.1 32).toInt := (congrArg Int32.toInt (fc547.1 32 (by decide)).1).trans c565
                  have b568 : 0 ≤ (S547.1 32).toInt ∧ (S547.1 32).toInt ≤ 1 := aw_bd_f hs (hI553).1 (by decide) rfl
                  exact (ar_row_L128_10 hU hd ) S547 lv555 (b541) (x544) ((S547.1 34)) hlv555_0 hlv555_1 hlv555_2 hlv555_3 ⟨(hI558).1, hG557⟩ fr552 (by omega) (by omega) (show _ ≤ ((S547.1 30)).toInt by omega) (show _ = ((S547.1 37)).toInt * 10 + _ by omega) (ar_mk (fun z => ar_un hw1 (by have z : ((S547.1 32)).toInt = 1 := z; show ((S.1 32)).toInt = 1; omega))) (ar_mk (fun z0 z1 => by rw [show (S547.2.2.1 14) = S.2.2.1 14 from ((fc547.2 14 (by decide)).1.trans ((fd4.2 14 (by decide)).1.trans rfl))]; rw [show (S547.2.2.1 9) = S.2.2.1 9 from ((fc547.2 9 (by decide)).1.trans ((fd4.2 9 (by decide)).1.trans rfl))] at z1; omega))
                · have q560 : x559.toInt ≠ (0 : Int) := aw_t_eq (a := x559.toInt) (b := (0 : Int)) rfl rfl q560
                  refine aw_l2 aj_d234 rfl rfl hlv555_0 ?_
                  refine aw_n aj_d234 rfl rfl ?_
                  refine aw_l0 aj_d234 rfl rfl hlv555_3 ?_
                  refine aw_k hU.1 aj_d234 rfl rfl [_, _] rfl rfl rfl (Nat.le_of_ble_eq_true rfl) (ar_tell hU (hI558).1 (by omega) (a := (5 : Int)) rfl (by omega)) ?_
                  rintro _ S569 ⟨hT569, fc569, rfl, hz569, hw569⟩
                  have hG569 := aw_G_tell hG557 fc569 hz569
                  have b570 : 0 ≤ (S.1 32).toInt ∧ (S.1 32).toInt ≤ 1 := aw_bd_f hs (hI2).1 (by decide) rfl
                  have c571 : (S4.1 32).toInt = (S.1 32).toInt := (congrArg Int32.toInt (fd4.1 32 (by decide)).1).trans rfl
                  have b572 : 0 ≤ (S4.1 32).toInt ∧ (S4.1 32).toInt ≤ 1 := aw_bd_f hs (hI9).1 (by decide) rfl
                  have c573 : (S547.1 32).toInt = (S.1 32).toInt := (congrArg Int32.toInt (fc547.1 32 (by decide)).1).trans c571
                  have b574 : 0 ≤ (S547.1 32).toInt ∧ (S547.1 32).toInt ≤ 1 := aw_bd_f hs (hI553).1 (by decide) rfl
                  have hz569 : ((S547.1 32)).toInt = 0 → (S569.1 24).toInt ≠ 0 := hz569
                  have fr575 := aw_fr_tr fr552 (aw_fr_sub (F := [24, 25]) (A := []) (by decide) (by decide) fc569)
                  have hI576 : aw_I s h (aw_sm S569) S569 := ⟨hT569, aw_sm_rf⟩
                  show aw_W _ _ _ _ 128 lv555 [] _ _
                  have b577 : 0 ≤ (S547.1 30).toInt ∧ (S547.1 30).toInt ≤ 1001 := aw_bd_f hs (hI553).1 (by decide) rfl
                  have c578 : (S569.1 30).toInt = (S547.1 30).toInt := (congrArg Int32.toInt (fc569.1 30 (by decide)).1).trans rfl
                  have b579 : 0 ≤ (S569.1 30).toInt ∧ (S569.1 30).toInt ≤ 1001 := aw_bd_f hs (hI576).1 (by decide) rfl
                  have c580 : (S547.1 37).toInt = (S.1 37).toInt := (congrArg Int32.toInt (fc547.1 37 (by decide)).1).trans c536
                  have b581 : 0 ≤ (S547.1 37).toInt ∧ (S547.1 37).toInt ≤ 1 := aw_bd_f hs (hI553).1 (by decide) rfl
                  have c582 : (S569.1 37).toInt = (S.1 37).toInt := (congrArg Int32.toInt (fc569.1 37 (by decide)).1).trans c580
                  have b583 : 0 ≤ (S569.1 37).toInt ∧ (S569.1 37).toInt ≤ 1 := aw_bd_f hs (hI576).1 (by decide) rfl
                  have c584 : (S569.1 32).toInt = (S.1 32).toInt := (congrArg Int32.toInt (fc569.1 32 (by decide)).1).trans c573
                  have b585 : 0 ≤ (S569.1 32).toInt ∧ (S569.1 32).toInt ≤ 1 := aw_bd_f hs (hI576).1 (by decide) rfl
                  exact (ar_row_L128_10 hU hd ) S569 lv555 (b541) (x544) ((S547.1 34)) hlv555_0 hlv555_1 hlv555_2 hlv555_3 ⟨(hI576).1, hG569⟩ fr575 (by omega) (by omega) (show _ ≤ ((S569.1 30)).toInt by omega) (show _ = ((S569.1 37)).toInt * 10 + _ by omega) (ar_mk (fun z => ar_un hw1 (by have z : ((S569.1 32)).toInt = 1 := z; show ((S.1 32)).toInt = 1; omega))) (ar_mk (fun z0 z1 => by rw [show (S569.2.2.1 14) = S.2.2.1 14 from ((fc569.2 14 (by decide)).1.trans ((fc547.2 14 (by decide)).1.trans ((fd4.2 14 (by decide)).1.trans rfl)))]; rw [show (S569.2.2.1 9) = S.2.2.1 9 from ((fc569.2 9 (by decide)).1.trans ((fc547.2 9 (by decide)).1.trans ((fd4.2 9 (by decide)).1.trans rfl)))] at z1; omega))
              · have q556 : b541.toInt < (0 : Int) := aw_t_ge (a := b541.toInt) (b := (0 : Int)) rfl rfl q556
                refine aw_l2 aj_d234 rfl rfl hlv555_0 ?_
                refine aw_n aj_d234 rfl rfl ?_
                refine aw_l0 aj_d234 rfl rfl hlv555_3 ?_
                refine aw_k hU.1 aj_d234 rfl rfl [_, _] rfl rfl rfl (Nat.le_of_ble_eq_true rfl) (ar_tell hU (hI553).1 (by omega) (a := (4 : Int)) rfl (by omega)) ?_
                rintro _ S586 ⟨hT586, fc586, rfl, hz586, hw586⟩
                have b587 : 0 ≤ (S.1 32).toInt ∧ (S.1 32).toInt ≤ 1 := aw_bd_f hs (hI2).1 (by decide) rfl
                have c588 : (S4.1 32).toInt = (S.1 32).toInt := (congrArg Int32.toInt (fd4.1 32 (by decide)).1).trans rfl
                have b589 : 0 ≤ (S4.1 32).toInt ∧ (S4.1 32).toInt ≤ 1 := aw_bd_f hs (hI9).1 (by decide) rfl
                have c590 : (S547.1 32).toInt = (S.1 32).toInt := (congrArg Int32.toInt (fc547.1 32 (by decide)).1).trans c588
                have b591 : 0 ≤ (S547.1 32).toInt ∧ (S547.1 32).toInt ≤ 1 := aw_bd_f hs (hI553).1 (by decide) rfl
                have hG586 : aw_G (nm, false, la, 0, 0, 0) S586 := aw_G_ho (aw_G_tell hG547 fc586 hz586) (fun z => hz586 (by have z : (S586.1 32).toInt = 0 := z; rw [(fc586.1 32 (by decide)).1] at z; exact z))
                have fr592 := aw_fr_tr fr552 (aw_fr_sub (F := [24, 25]) (A := []) (by decide) (by decide) fc586)
                have hI593 : aw_I s h (aw_sm S586) S586 := ⟨hT586, aw_sm_rf⟩
                show aw_W _ _ _ _ 110 lv555 [] _ _
                refine aw_n aj_d234 rfl rfl ?_
                have b594 : 0 ≤ (S547.1 30).toInt ∧ (S547.1 30).toInt ≤ 1001 := aw_bd_f hs (hI553).1 (by decide) rfl
                have c595 : (S586.1 30).toInt = (S547.1 30).toInt := (congrArg Int32.toInt (fc586.1 30 (by decide)).1).trans rfl
                have b596 : 0 ≤ (S586.1 30).toInt ∧ (S586.1 30).toInt ≤ 1001 := aw_bd_f hs (hI593).1 (by decide) rfl
                have c597 : (S547.1 37).toInt = (S.1 37).toInt := (congrArg Int32.toInt (fc547.1 37 (by decide)).1).trans c536
                have b598 : 0 ≤ (S547.1 37).toInt ∧ (S547.1 37).toInt ≤ 1 := aw_bd_f hs (hI553).1 (by decide) rfl
                have c599 : (S586.1 37).toInt = (S.1 37).toInt := (congrArg Int32.toInt (fc586.1 37 (by decide)).1).trans c597
                have b600 : 0 ≤ (S586.1 37).toInt ∧ (S586.1 37).toInt ≤ 1 := aw_bd_f hs (hI593).1 (by decide) rfl
                have c601 : (S586.1 32).toInt = (S.1 32).toInt := (congrArg Int32.toInt (fc586.1 32 (by decide)).1).trans c590
                have b602 : 0 ≤ (S586.1 32).toInt ∧ (S586.1 32).toInt ≤ 1 := aw_bd_f hs (hI593).1 (by decide) rfl
                exact (ar_row_L128_10 hU hd ) S586 lv555 (b541) (x544) ((S547.1 34)) hlv555_0 hlv555_1 hlv555_2 hlv555_3 ⟨(hI593).1, hG586⟩ fr592 (by omega) (by omega) (show _ ≤ ((S586.1 30)).toInt by omega) (show _ = ((S586.1 37)).toInt * 10 + _ by omega) (ar_mk (fun z => ar_un hw1 (by have z : ((S586.1 32)).toInt = 1 := z; show ((S.1 32)).toInt = 1; omega))) (ar_mk (fun z0 z1 => by rw [show (S586.2.2.1 14) = S.2.2.1 14 from ((fc586.2 14 (by decide)).1.trans ((fc547.2 14 (by decide)).1.trans ((fd4.2 14 (by decide)).1.trans rfl)))]; rw [show (S586.2.2.1 9) = S.2.2.1 9 from ((fc586.2 9 (by decide)).1.trans ((fc547.2 9 (by decide)).1.trans ((fd4.2 9 (by decide)).1.trans rfl)))] at z1; omega))
            · have q554 : (1 : Int) = (0 : Int) := aw_t_ne (a := (1 : Int)) (b := (0 : Int)) hb547 rfl q554
              exfalso
              omega
        · have q546 : b541.toInt ≥ (0 : Int) := aw_t_lt (a := b541.toInt) (b := (0 : Int)) rfl rfl q546
          refine aw_l2 aj_d234 rfl rfl hlv545_0 ?_
          refine aw_g hU.1 aj_d234 rfl rfl (by decide) (v := .ref 126) rfl ?_
          refine aw_l0 aj_d234 rfl rfl hlv545_2 ?_
          refine aw_ld (k := 9) hU.1 aj_d234 (Or.inr (Or.inr (Or.inl ⟨rfl, rfl⟩))) rfl (by decide) (by decide) rfl (a := x544.toInt) rfl (by omega) (by omega) (fun x603 ex603 => ?_)
          have bx603 : 0 ≤ x603.toInt ∧ x603.toInt ≤ 1 := by
            rw [ex603]
            exact aw_bd_a hs (hI9).1 (k := 9) (by decide) (by decide) rfl (by decide) rfl (by omega)
          have ftx603 : x603.toInt = (S.2.2.1 9 (x544.toInt).toNat).toInt := congrArg Int32.toInt (ex603.trans (congrFun ((fd4.2 9 (by decide)).1.trans rfl) _))
          refine aw_z (tgt := 86) aj_d234 rfl rfl (fun q604 => ?_) (fun q604 => ?_)
          · have q604 : x603.toInt ≠ (0 : Int) := aw_t_ne (a := x603.toInt) (b := (0 : Int)) rfl rfl q604
            refine aw_l2 aj_d234 rfl rfl hlv545_0 ?_
            have b606 : 0 ≤ (S4.1 30).toInt ∧ (S4.1 30).toInt ≤ 1001 := aw_bd_f hs (hI9).1 (by decide) rfl
            refine aw_k hU.1 aj_d234 rfl rfl [] rfl rfl rfl (Nat.le_of_ble_eq_true rfl) (ar_named hU (hI9).1 hG4 (by omega)) ?_
            rintro _ S605 ⟨hT605, fc605, ⟨b605, rfl, hb605, hG605, ck605, hz605⟩ | ⟨b605, rfl, hb605, hG605, ck605, cj605, k1605, nm605⟩⟩
            · skip
              have ck605 : ((S4.1 30)).toInt ≤ (S605.1 30).toInt := ck605
              have fr607 := aw_fr_tr fr8 (aw_fr_sub (F := [24, 25, 26, 27, 28, 29, 30, 31, 33, 34]) (A := []) (by decide) (by decide) fc605)
              have hI608 : aw_I s h (aw_sm S605) S605 := ⟨hT605, aw_sm_rf⟩
              show aw_W _ _ _ _ 90 lv545 [.int b605] _ _
              refine aw_z (tgt := 95) aj_d234 rfl rfl (fun q609 => ?_) (fun q609 => ?_)
              · have q609 : (0 : Int) ≠ (0 : Int) := aw_t_ne (a := (0 : Int)) (b := (0 : Int)) hb605 rfl q609
                exfalso
                omega
              · have q609 : (0 : Int) = (0 : Int) := aw_t_ne (a := (0 : Int)) (b := (0 : Int)) hb605 rfl q609
                refine aw_n aj_d234 rfl rfl ?_
                refine aw_e aj_d234 rfl rfl ?_
                exact ⟨(hI608).1, fr607, Or.inl ⟨_, rfl, rfl, aw_G_B hG605⟩⟩
            · skip
              have cj605 : (S605.1 30).toInt = ((S4.1 30)).toInt + 1 := cj605
              have k1605 : ((S4.1 26)).toInt = 1 := k1605
              have fr610 := aw_fr_tr fr8 (aw_fr_sub (F := [24, 25, 26, 27, 28, 29, 30, 31, 33, 34]) (A := []) (by decide) (by decide) fc605)
              have hI611 : aw_I s h (aw_sm S605) S605 := ⟨hT605, aw_sm_rf⟩
              show aw_W _ _ _ _ 90 lv545 [.int b605] _ _
              refine aw_z (tgt := 95) aj_d234 rfl rfl (fun q612 => ?_) (fun q612 => ?_)
              · have q612 : (1 : Int) ≠ (0 : Int) := aw_t_ne (a := (1 : Int)) (b := (0 : Int)) hb605 rfl q612
                refine aw_l2 aj_d234 rfl rfl hlv545_0 ?_
                refine aw_g hU.1 aj_d234 rfl rfl (by decide) (v := .int (S605.1 34)) rfl ?_
                refine aw_t0 (j := 3) aj_d234 rfl (by decide) rfl ?_
                obtain ⟨lv613, elv613⟩ : ∃ l, l = aj_set1 lv545 3 (.int (S605.1 34)) := ⟨_, rfl⟩
                rw [← elv613]
                have hlv613_0 : aj_lv lv613 0 = some (.ref 117) := cw_e1 elv613 hlv545_0 (by decide) (Or.inl (by decide))
                have hlv613_1 : aj_lv lv613 1 = some (.int b541) := cw_e1 elv613 hlv545_1 (by decide) (Or.inl (by decide))
                have hlv613_2 : aj_lv lv613 2 = some (.int x544) := cw_e1 elv613 hlv545_2 (by decide) (Or.inr rfl)
                have hlv613_3 : aj_lv lv613 3 = some (.int (S605.1 34)) := by rw [elv613]; exact ak_set1_eq _ _ _
                show aw_W _ _ _ _ 100 lv613 [] _ _
                refine aw_l0 aj_d234 rfl rfl hlv613_1 ?_
                refine aw_z (tgt := 113) aj_d234 rfl rfl (fun q614 => ?_) (fun q614 => ?_)
                · have q614 : b541.toInt ≥ (0 : Int) := aw_t_ge (a := b541.toInt) (b := (0 : Int)) rfl rfl q614
                  have eTb : aw_tT S605 = aw_tT S4 := by rw [aw_fr_tT fr610 (by decide) (by decide), eT1]
                  have eFb : aw_tF S605 = aw_tF S4 := by rw [show aw_tF S605 = aw_tF S from (fr610.2 21 (by decide)).1, eF1]
                  have hG615 : aw_G (nm, false, la, 0, 0, 0) S605 := aw_G_fill hG605 (fun z => absurd (i4.1.symm.trans (show ((aw_tT S) (aw_tJ S)).1 = 3 from (by have y := z.1; rw [eTb, eT1] at y; exact y))) (by decide)) (fun _ => by rw [eTb, eFb]; exact aw_findT_res hG4 eJ1 nt1 hfn (by omega))
                  have hI616 : aw_I s h (aw_sm S605) S605 := ⟨(hI611).1, aw_sm_rf⟩
                  refine aw_l2 aj_d234 rfl rfl hlv613_0 ?_
                  refine aw_g hU.1 aj_d234 rfl rfl (by decide) (v := .ref 126) rfl ?_
                  refine aw_l0 aj_d234 rfl rfl hlv613_2 ?_
                  refine aw_ld (k := 9) hU.1 aj_d234 (Or.inr (Or.inr (Or.inl ⟨rfl, rfl⟩))) rfl (by decide) (by decide) rfl (a := x544.toInt) rfl (by omega) (by omega) (fun x617 ex617 => ?_)
                  have bx617 : 0 ≤ x617.toInt ∧ x617.toInt ≤ 1 := by
                    rw [ex617]
                    exact aw_bd_a hs (hI616).1 (k := 9) (by decide) (by decide) rfl (by decide) rfl (by omega)
                  have ftx617 : x617.toInt = (S.2.2.1 9 (x544.toInt).toNat).toInt := congrArg Int32.toInt (ex617.trans (congrFun ((fc605.2 9 (by decide)).1.trans ((fd4.2 9 (by decide)).1.trans rfl)) _))
                  refine aw_z (tgt := 128) aj_d234 rfl rfl (fun q618 => ?_) (fun q618 => ?_)
                  · have q618 : x617.toInt = (0 : Int) := aw_t_eq (a := x617.toInt) (b := (0 : Int)) rfl rfl q618
                    have b619 : 0 ≤ (S605.1 30).toInt ∧ (S605.1 30).toInt ≤ 1001 := aw_bd_f hs (hI611).1 (by decide) rfl
                    have c620 : (S605.1 37).toInt = (S.1 37).toInt := (congrArg Int32.toInt (fc605.1 37 (by decide)).1).trans c536
                    have b621 : 0 ≤ (S605.1 37).toInt ∧ (S605.1 37).toInt ≤ 1 := aw_bd_f hs (hI611).1 (by decide) rfl
                    have b622 : 0 ≤ (S.1 32).toInt ∧ (S.1 32).toInt ≤ 1 := aw_bd_f hs (hI2).1 (by decide) rfl
                    have c623 : (S4.1 32).toInt = (S.1 32).toInt := (congrArg Int32.toInt (fd4.1 32 (by decide)).1).trans rfl
                    have b624 : 0 ≤ (S4.1 32).toInt ∧ (S4.1 32).toInt ≤ 1 := aw_bd_f hs (hI9).1 (by decide) rfl
                    have c625 : (S605.1 32).toInt = (S.1 32).toInt := (congrArg Int32.toInt (fc605.1 32 (by decide)).1).trans c623
                    have b626 : 0 ≤ (S605.1 32).toInt ∧ (S605.1 32).toInt ≤ 1 := aw_bd_f hs (hI611).1 (by decide) rfl
                    exact (ar_row_L128_10 hU hd ) S605 lv613 (b541) (x544) ((S605.1 34)) hlv613_0 hlv613_1 hlv613_2 hlv613_3 ⟨(hI616).1, hG615⟩ fr610 (by omega) (by omega) (show _ ≤ ((S605.1 30)).toInt by omega) (show _ = ((S605.1 37)).toInt * 10 + _ by omega) (ar_mk (fun z => ar_un hw1 (by have z : ((S605.1 32)).toInt = 1 := z; show ((S.1 32)).toInt = 1; omega))) (ar_mk (fun z0 z1 => by rw [show (S605.2.2.1 14) = S.2.2.1 14 from ((fc605.2 14 (by decide)).1.trans ((fd4.2 14 (by decide)).1.trans rfl))]; rw [show (S605.2.2.1 9) = S.2.2.1 9 from ((fc605.2 9 (by decide)).1.trans ((fd4.2 9 (by decide)).1.trans rfl))] at z1; omega))
                  · have q618 : x617.toInt ≠ (0 : Int) := aw_t_eq (a := x617.toInt) (b := (0 : Int)) rfl rfl q618
                    refine aw_l2 aj_d234 rfl rfl hlv613_0 ?_
                    refine aw_n aj_d234 rfl rfl ?_
                    refine aw_l0 aj_d234 rfl rfl hlv613_3 ?_
                    refine aw_k hU.1 aj_d234 rfl rfl [_, _] rfl rfl rfl (Nat.le_of_ble_eq_true rfl) (ar_tell hU (hI616).1 (by omega) (a := (5 : Int)) rfl (by omega)) ?_
                    rintro _ S627 ⟨hT627, fc627, rfl, hz627, hw627⟩
                    have hG627 := aw_G_tell hG615 fc627 hz627
                    have b628 : 0 ≤ (S.1 32).toInt ∧ (S.1 32).toInt ≤ 1 := aw_bd_f hs (hI2).1 (by decide) rfl
                    have c629 : (S4.1 32).toInt = (S.1 32).toInt := (congrArg Int32.toInt (fd4.1 32 (by decide)).1).trans rfl
                    have b630 : 0 ≤ (S4.1 32).toInt ∧ (S4.1 32).toInt ≤ 1 := aw_bd_f hs (hI9).1 (by decide) rfl
                    have c631 : (S605.1 32).toInt = (S.1 32).toInt := (congrArg Int32.toInt (fc605.1 32 (by decide)).1).trans c629
                    have b632 : 0 ≤ (S605.1 32).toInt ∧ (S605.1 32).toInt ≤ 1 := aw_bd_f hs (hI611).1 (by decide) rfl
                    have hz627 : ((S605.1 32)).toInt = 0 → (S627.1 24).toInt ≠ 0 := hz627
                    have fr633 := aw_fr_tr fr610 (aw_fr_sub (F := [24, 25]) (A := []) (by decide) (by decide) fc627)
                    have hI634 : aw_I s h (aw_sm S627) S627 := ⟨hT627, aw_sm_rf⟩
                    show aw_W _ _ _ _ 128 lv613 [] _ _
                    have b635 : 0 ≤ (S605.1 30).toInt ∧ (S605.1 30).toInt ≤ 1001 := aw_bd_f hs (hI611).1 (by decide) rfl
                    have c636 : (S627.1 30).toInt = (S605.1 30).toInt := (congrArg Int32.toInt (fc627.1 30 (by decide)).1).trans rfl
                    have b637 : 0 ≤ (S627.1 30).toInt ∧ (S627.1 30).toInt ≤ 1001 := aw_bd_f hs (hI634).1 (by decide) rfl
                    have c638 : (S605.1 37).toInt = (S.1 37).toInt := (congrArg Int32.toInt (fc605.1 37 (by decide)).1).trans c536
                    have b639 : 0 ≤ (S605.1 37).toInt ∧ (S605.1 37).toInt ≤ 1 := aw_bd_f hs (hI611).1 (by decide) rfl
                    have c640 : (S627.1 37).toInt = (S.1 37).toInt := (congrArg Int32.toInt (fc627.1 37 (by decide)).1).trans c638
                    have b641 : 0 ≤ (S627.1 37).toInt ∧ (S627.1 37).toInt ≤ 1 := aw_bd_f hs (hI634).1 (by decide) rfl
                    have c642 : (S627.1 32).toInt = (S.1 32).toInt := (congrArg Int32.toInt (fc627.1 32 (by decide)).1).trans c631
                    have b643 : 0 ≤ (S627.1 32).toInt ∧ (S627.1 32).toInt ≤ 1 := aw_bd_f hs (hI634).1 (by decide) rfl
                    exact (ar_row_L128_10 hU hd ) S627 lv613 (b541) (x544) ((S605.1 34)) hlv613_0 hlv613_1 hlv613_2 hlv613_3 ⟨(hI634).1, hG627⟩ fr633 (by omega) (by omega) (show _ ≤ ((S627.1 30)).toInt by omega) (show _ = ((S627.1 37)).toInt * 10 + _ by omega) (ar_mk (fun z => ar_un hw1 (by have z : ((S627.1 32)).toInt = 1 := z; show ((S.1 32)).toInt = 1; omega))) (ar_mk (fun z0 z1 => by rw [show (S627.2.2.1 14) = S.2.2.1 14 from ((fc627.2 14 (by decide)).1.trans ((fc605.2 14 (by decide)).1.trans ((fd4.2 14 (by decide)).1.trans rfl)))]; rw [show (S627.2.2.1 9) = S.2.2.1 9 from ((fc627.2 9 (by decide)).1.trans ((fc605.2 9 (by decide)).1.trans ((fd4.2 9 (by decide)).1.trans rfl)))] at z1; omega))
                · have q614 : b541.toInt < (0 : Int) := aw_t_ge (a := b541.toInt) (b := (0 : Int)) rfl rfl q614
                  refine aw_l2 aj_d234 rfl rfl hlv613_0 ?_
                  refine aw_n aj_d234 rfl rfl ?_
                  refine aw_l0 aj_d234 rfl rfl hlv613_3 ?_
                  refine aw_k hU.1 aj_d234 rfl rfl [_, _] rfl rfl rfl (Nat.le_of_ble_eq_true rfl) (ar_tell hU (hI611).1 (by omega) (a := (4 : Int)) rfl (by omega)) ?_
                  rintro _ S644 ⟨hT644, fc644, rfl, hz644, hw644⟩
                  have b645 : 0 ≤ (S.1 32).toInt ∧ (S.1 32).toInt ≤ 1 := aw_bd_f hs (hI2).1 (by decide) rfl
                  have c646 : (S4.1 32).toInt = (S.1 32).toInt := (congrArg Int32.toInt (fd4.1 32 (by decide)).1).trans rfl
                  have b647 : 0 ≤ (S4.1 32).toInt ∧ (S4.1 32).toInt ≤ 1 := aw_bd_f hs (hI9).1 (by decide) rfl
                  have c648 : (S605.1 32).toInt = (S.1 32).toInt := (congrArg Int32.toInt (fc605.1 32 (by decide)).1).trans c646
                  have b649 : 0 ≤ (S605.1 32).toInt ∧ (S605.1 32).toInt ≤ 1 := aw_bd_f hs (hI611).1 (by decide) rfl
                  have hG644 : aw_G (nm, false, la, 0, 0, 0) S644 := aw_G_ho (aw_G_tell hG605 fc644 hz644) (fun z => hz644 (by have z : (S644.1 32).toInt = 0 := z; rw [(fc644.1 32 (by decide)).1] at z; exact z))
                  have fr650 := aw_fr_tr fr610 (aw_fr_sub (F := [24, 25]) (A := []) (by decide) (by decide) fc644)
                  have hI651 : aw_I s h (aw_sm S644) S644 := ⟨hT644, aw_sm_rf⟩
                  show aw_W _ _ _ _ 110 lv613 [] _ _
                  refine aw_n aj_d234 rfl rfl ?_
                  have b652 : 0 ≤ (S605.1 30).toInt ∧ (S605.1 30).toInt ≤ 1001 := aw_bd_f hs (hI611).1 (by decide) rfl
                  have c653 : (S644.1 30).toInt = (S605.1 30).toInt := (congrArg Int32.toInt (fc644.1 30 (by decide)).1).trans rfl
                  have b654 : 0 ≤ (S644.1 30).toInt ∧ (S644.1 30).toInt ≤ 1001 := aw_bd_f hs (hI651).1 (by decide) rfl
                  have c655 : (S605.1 37).toInt = (S.1 37).toInt := (congrArg Int32.toInt (fc605.1 37 (by decide)).1).trans c536
                  have b656 : 0 ≤ (S605.1 37).toInt ∧ (S605.1 37).toInt ≤ 1 := aw_bd_f hs (hI611).1 (by decide) rfl
                  have c657 : (S644.1 37).toInt = (S.1 37).toInt := (congrArg Int32.toInt (fc644.1 37 (by decide)).1).trans c655
                  have b658 : 0 ≤ (S644.1 37).toInt ∧ (S644.1 37).toInt ≤ 1 := aw_bd_f hs (hI651).1 (by decide) rfl
                  have c659 : (S644.1 32).toInt = (S.1 32).toInt := (congrArg Int32.toInt (fc644.1 32 (by decide)).1).trans c648
                  have b660 : 0 ≤ (S644.1 32).toInt ∧ (S644.1 32).toInt ≤ 1 := aw_bd_f hs (hI651).1 (by decide) rfl
                  exact (ar_row_L128_10 hU hd ) S644 lv613 (b541) (x544) ((S605.1 34)) hlv613_0 hlv613_1 hlv613_2 hlv613_3 ⟨(hI651).1, hG644⟩ fr650 (by omega) (by omega) (show _ ≤ ((S644.1 30)).toInt by omega) (show _ = ((S644.1 37)).toInt * 10 + _ by omega) (ar_mk (fun z => ar_un hw1 (by have z : ((S644.1 32)).toInt = 1 := z; show ((S.1 32)).toInt = 1; omega))) (ar_mk (fun z0 z1 => by rw [show (S644.2.2.1 14) = S.2.2.1 14 from ((fc644.2 14 (by decide)).1.trans ((fc605.2 14 (by decide)).1.trans ((fd4.2 14 (by decide)).1.trans rfl)))]; rw [show (S644.2.2.1 9) = S.2.2.1 9 from ((fc644.2 9 (by decide)).1.trans ((fc605.2 9 (by decide)).1.trans ((fd4.2 9 (by decide)).1.trans rfl)))] at z1; omega))
              · have q612 : (1 : Int) = (0 : Int) := aw_t_ne (a := (1 : Int)) (b := (0 : Int)) hb605 rfl q612
                exfalso
                omega
          · have q604 : x603.toInt = (0 : Int) := aw_t_ne (a := x603.toInt) (b := (0 : Int)) rfl rfl q604
            refine aw_l2 aj_d234 rfl rfl hlv545_0 ?_
            refine aw_g hU.1 aj_d234 rfl rfl (by decide) (v := .ref 131) rfl ?_
            refine aw_l0 aj_d234 rfl rfl hlv545_2 ?_
            refine aw_ld (k := 14) hU.1 aj_d234 (Or.inl ⟨rfl, rfl⟩) rfl (by decide) (by decide) rfl (a := x544.toInt) rfl (by omega) (by omega) (fun x661 ex661 => ?_)
            have bx661 : 0 ≤ x661.toInt ∧ x661.toInt ≤ 30 := by
              rw [ex661]
              exact aw_bd_a hs (hI9).1 (k := 14) (by decide) (by decide) rfl (by decide) rfl (by omega)
            have ftx661 : x661.toInt = (S.2.2.1 14 (x544.toInt).toNat).toInt := congrArg Int32.toInt (ex661.trans (congrFun ((fd4.2 14 (by decide)).1.trans rfl) _))
            refine aw_n aj_d234 rfl rfl ?_
            refine aw_c (tgt := 86) aj_d234 rfl rfl (fun q662 => ?_) (fun q662 => ?_)
            · have q662 : x661.toInt ≠ (30 : Int) := aw_t_ne (a := x661.toInt) (b := (30 : Int)) rfl rfl q662
              refine aw_l2 aj_d234 rfl rfl hlv545_0 ?_
              have b664 : 0 ≤ (S4.1 30).toInt ∧ (S4.1 30).toInt ≤ 1001 := aw_bd_f hs (hI9).1 (by decide) rfl
              refine aw_k hU.1 aj_d234 rfl rfl [] rfl rfl rfl (Nat.le_of_ble_eq_true rfl) (ar_named hU (hI9).1 hG4 (by omega)) ?_
              rintro _ S663 ⟨hT663, fc663, ⟨b663, rfl, hb663, hG663, ck663, hz663⟩ | ⟨b663, rfl, hb663, hG663, ck663, cj663, k1663, nm663⟩⟩
              · skip
                have ck663 : ((S4.1 30)).toInt ≤ (S663.1 30).toInt := ck663
                have fr665 := aw_fr_tr fr8 (aw_fr_sub (F := [24, 25, 26, 27, 28, 29, 30, 31, 33, 34]) (A := []) (by decide) (by decide) fc663)
                have hI666 : aw_I s h (aw_sm S663) S663 := ⟨hT663, aw_sm_rf⟩
                show aw_W _ _ _ _ 90 lv545 [.int b663] _ _
                refine aw_z (tgt := 95) aj_d234 rfl rfl (fun q667 => ?_) (fun q667 => ?_)
                · have q667 : (0 : Int) ≠ (0 : Int) := aw_t_ne (a := (0 : Int)) (b := (0 : Int)) hb663 rfl q667
                  exfalso
                  omega
                · have q667 : (0 : Int) = (0 : Int) := aw_t_ne (a := (0 : Int)) (b := (0 : Int)) hb663 rfl q667
                  refine aw_n aj_d234 rfl rfl ?_
                  refine aw_e aj_d234 rfl rfl ?_
                  exact ⟨(hI666).1, fr665, Or.inl ⟨_, rfl, rfl, aw_G_B hG663⟩⟩
              · skip
                have cj663 : (S663.1 30).toInt = ((S4.1 30)).toInt + 1 := cj663
                have k1663 : ((S4.1 26)).toInt = 1 := k1663
                have fr668 := aw_fr_tr fr8 (aw_fr_sub (F := [24, 25, 26, 27, 28, 29, 30, 31, 33, 34]) (A := []) (by decide) (by decide) fc663)
                have hI669 : aw_I s h (aw_sm S663) S663 := ⟨hT663, aw_sm_rf⟩
                show aw_W _ _ _ _ 90 lv545 [.int b663] _ _
                refine aw_z (tgt := 95) aj_d234 rfl rfl (fun q670 => ?_) (fun q670 => ?_)
                · have q670 : (1 : Int) ≠ (0 : Int) := aw_t_ne (a := (1 : Int)) (b := (0 : Int)) hb663 rfl q670
                  refine aw_l2 aj_d234 rfl rfl hlv545_0 ?_
                  refine aw_g hU.1 aj_d234 rfl rfl (by decide) (v := .int (S663.1 34)) rfl ?_
                  refine aw_t0 (j := 3) aj_d234 rfl (by decide) rfl ?_
                  obtain ⟨lv671, elv671⟩ : ∃ l, l = aj_set1 lv545 3 (.int (S663.1 34)) := ⟨_, rfl⟩
                  rw [← elv671]
                  have hlv671_0 : aj_lv lv671 0 = some (.ref 117) := cw_e1 elv671 hlv545_0 (by decide) (Or.inl (by decide))
                  have hlv671_1 : aj_lv lv671 1 = some (.int b541) := cw_e1 elv671 hlv545_1 (by decide) (Or.inl (by decide))
                  have hlv671_2 : aj_lv lv671 2 = some (.int x544) := cw_e1 elv671 hlv545_2 (by decide) (Or.inr rfl)
                  have hlv671_3 : aj_lv lv671 3 = some (.int (S663.1 34)) := by rw [elv671]; exact ak_set1_eq _ _ _
                  show aw_W _ _ _ _ 100 lv671 [] _ _
                  refine aw_l0 aj_d234 rfl rfl hlv671_1 ?_
                  refine aw_z (tgt := 113) aj_d234 rfl rfl (fun q672 => ?_) (fun q672 => ?_)
                  · have q672 : b541.toInt ≥ (0 : Int) := aw_t_ge (a := b541.toInt) (b := (0 : Int)) rfl rfl q672
                    have eTb : aw_tT S663 = aw_tT S4 := by rw [aw_fr_tT fr668 (by decide) (by decide), eT1]
                    have eFb : aw_tF S663 = aw_tF S4 := by rw [show aw_tF S663 = aw_tF S from (fr668.2 21 (by decide)).1, eF1]
                    have hG673 : aw_G (nm, false, la, 0, 0, 0) S663 := aw_G_fill hG663 (fun z => absurd (i4.1.symm.trans (show ((aw_tT S) (aw_tJ S)).1 = 3 from (by have y := z.1; rw [eTb, eT1] at y; exact y))) (by decide)) (fun _ => by rw [eTb, eFb]; exact aw_findT_res hG4 eJ1 nt1 hfn (by omega))
                    have hI674 : aw_I s h (aw_sm S663) S663 := ⟨(hI669).1, aw_sm_rf⟩
                    refine aw_l2 aj_d234 rfl rfl hlv671_0 ?_
                    refine aw_g hU.1 aj_d234 rfl rfl (by decide) (v := .ref 126) rfl ?_
                    refine aw_l0 aj_d234 rfl rfl hlv671_2 ?_
                    refine aw_ld (k := 9) hU.1 aj_d234 (Or.inr (Or.inr (Or.inl ⟨rfl, rfl⟩))) rfl (by decide) (by decide) rfl (a := x544.toInt) rfl (by omega) (by omega) (fun x675 ex675 => ?_)
                    have bx675 : 0 ≤ x675.toInt ∧ x675.toInt ≤ 1 := by
                      rw [ex675]
                      exact aw_bd_a hs (hI674).1 (k := 9) (by decide) (by decide) rfl (by decide) rfl (by omega)
                    have ftx675 : x675.toInt = (S.2.2.1 9 (x544.toInt).toNat).toInt := congrArg Int32.toInt (ex675.trans (congrFun ((fc663.2 9 (by decide)).1.trans ((fd4.2 9 (by decide)).1.trans rfl)) _))
                    refine aw_z (tgt := 128) aj_d234 rfl rfl (fun q676 => ?_) (fun q676 => ?_)
                    · have q676 : x675.toInt = (0 : Int) := aw_t_eq (a := x675.toInt) (b := (0 : Int)) rfl rfl q676
                      have b677 : 0 ≤ (S663.1 30).toInt ∧ (S663.1 30).toInt ≤ 1001 := aw_bd_f hs (hI669).1 (by decide) rfl
                      have c678 : (S663.1 37).toInt = (S.1 37).toInt := (congrArg Int32.toInt (fc663.1 37 (by decide)).1).trans c536
                      have b679 : 0 ≤ (S663.1 37).toInt ∧ (S663.1 37).toInt ≤ 1 := aw_bd_f hs (hI669).1 (by decide) rfl
                      have b680 : 0 ≤ (S.1 32).toInt ∧ (S.1 32).toInt ≤ 1 := aw_bd_f hs (hI2).1 (by decide) rfl
                      have c681 : (S4.1 32).toInt = (S.1 32).toInt := (congrArg Int32.toInt (fd4.1 32 (by decide)).1).trans rfl
                      have b682 : 0 ≤ (S4.1 32).toInt ∧ (S4.1 32).toInt ≤ 1 := aw_bd_f hs (hI9).1 (by decide) rfl
                      have c683 : (S663.1 32).toInt = (S.1 32).toInt := (congrArg Int32.toInt (fc663.1 32 (by decide)).1).trans c681
                      have b684 : 0 ≤ (S663.1 32).toInt ∧ (S663.1 32).toInt ≤ 1 := aw_bd_f hs (hI669).1 (by decide) rfl
                      exact (ar_row_L128_10 hU hd ) S663 lv671 (b541) (x544) ((S663.1 34)) hlv671_0 hlv671_1 hlv671_2 hlv671_3 ⟨(hI674).1, hG673⟩ fr668 (by omega) (by omega) (show _ ≤ ((S663.1 30)).toInt by omega) (show _ = ((S663.1 37)).toInt * 10 + _ by omega) (ar_mk (fun z => ar_un hw1 (by have z : ((S663.1 32)).toInt = 1 := z; show ((S.1 32)).toInt = 1; omega))) (ar_mk (fun z0 z1 => by rw [show (S663.2.2.1 14) = S.2.2.1 14 from ((fc663.2 14 (by decide)).1.trans ((fd4.2 14 (by decide)).1.trans rfl))]; rw [show (S663.2.2.1 9) = S.2.2.1 9 from ((fc663.2 9 (by decide)).1.trans ((fd4.2 9 (by decide)).1.trans rfl))] at z1; omega))
                    · have q676 : x675.toInt ≠ (0 : Int) := aw_t_eq (a := x675.toInt) (b := (0 : Int)) rfl rfl q676
                      refine aw_l2 aj_d234 rfl rfl hlv671_0 ?_
                      refine aw_n aj_d234 rfl rfl ?_
                      refine aw_l0 aj_d234 rfl rfl hlv671_3 ?_
                      refine aw_k hU.1 aj_d234 rfl rfl [_, _] rfl rfl rfl (Nat.le_of_ble_eq_true rfl) (ar_tell hU (hI674).1 (by omega) (a := (5 : Int)) rfl (by omega)) ?_
                      rintro _ S685 ⟨hT685, fc685, rfl, hz685, hw685⟩
                      have hG685 := aw_G_tell hG673 fc685 hz685
                      have b686 : 0 ≤ (S.1 32).toInt ∧ (S.1 32).toInt ≤ 1 := aw_bd_f hs (hI2).1 (by decide) rfl
                      have c687 : (S4.1 32).toInt = (S.1 32).toInt := (congrArg Int32.toInt (fd4.1 32 (by decide)).1).trans rfl
                      have b688 : 0 ≤ (S4.1 32).toInt ∧ (S4.1 32).toInt ≤ 1 := aw_bd_f hs (hI9).1 (by decide) rfl
                      have c689 : (S663.1 32).toInt = (S.1 32).toInt := (congrArg Int32.toInt (fc663.1 32 (by decide)).1).trans c687
                      have b690 : 0 ≤ (S663.1 32).toInt ∧ (S663.1 32).toInt ≤ 1 := aw_bd_f hs (hI669).1 (by decide) rfl
                      have hz685 : ((S663.1 32)).toInt = 0 → (S685.1 24).toInt ≠ 0 := hz685
                      have fr691 := aw_fr_tr fr668 (aw_fr_sub (F := [24, 25]) (A := []) (by decide) (by decide) fc685)
                      have hI692 : aw_I s h (aw_sm S685) S685 := ⟨hT685, aw_sm_rf⟩
                      show aw_W _ _ _ _ 128 lv671 [] _ _
                      have b693 : 0 ≤ (S663.1 30).toInt ∧ (S663.1 30).toInt ≤ 1001 := aw_bd_f hs (hI669).1 (by decide) rfl
                      have c694 : (S685.1 30).toInt = (S663.1 30).toInt := (congrArg Int32.toInt (fc685.1 30 (by decide)).1).trans rfl
                      have b695 : 0 ≤ (S685.1 30).toInt ∧ (S685.1 30).toInt ≤ 1001 := aw_bd_f hs (hI692).1 (by decide) rfl
                      have c696 : (S663.1 37).toInt = (S.1 37).toInt := (congrArg Int32.toInt (fc663.1 37 (by decide)).1).trans c536
                      have b697 : 0 ≤ (S663.1 37).toInt ∧ (S663.1 37).toInt ≤ 1 := aw_bd_f hs (hI669).1 (by decide) rfl
                      have c698 : (S685.1 37).toInt = (S.1 37).toInt := (congrArg Int32.toInt (fc685.1 37 (by decide)).1).trans c696
                      have b699 : 0 ≤ (S685.1 37).toInt ∧ (S685.1 37).toInt ≤ 1 := aw_bd_f hs (hI692).1 (by decide) rfl
                      have c700 : (S685.1 32).toInt = (S.1 32).toInt := (congrArg Int32.toInt (fc685.1 32 (by decide)).1).trans c689
                      have b701 : 0 ≤ (S685.1 32).toInt ∧ (S685.1 32).toInt ≤ 1 := aw_bd_f hs (hI692).1 (by decide) rfl
                      exact (ar_row_L128_10 hU hd ) S685 lv671 (b541) (x544) ((S663.1 34)) hlv671_0 hlv671_1 hlv671_2 hlv671_3 ⟨(hI692).1, hG685⟩ fr691 (by omega) (by omega) (show _ ≤ ((S685.1 30)).toInt by omega) (show _ = ((S685.1 37)).toInt * 10 + _ by omega) (ar_mk (fun z => ar_un hw1 (by have z : ((S685.1 32)).toInt = 1 := z; show ((S.1 32)).toInt = 1; omega))) (ar_mk (fun z0 z1 => by rw [show (S685.2.2.1 14) = S.2.2.1 14 from ((fc685.2 14 (by decide)).1.trans ((fc663.2 14 (by decide)).1.trans ((fd4.2 14 (by decide)).1.trans rfl)))]; rw [show (S685.2.2.1 9) = S.2.2.1 9 from ((fc685.2 9 (by decide)).1.trans ((fc663.2 9 (by decide)).1.trans ((fd4.2 9 (by decide)).1.trans rfl)))] at z1; omega))
                  · have q672 : b541.toInt < (0 : Int) := aw_t_ge (a := b541.toInt) (b := (0 : Int)) rfl rfl q672
                    refine aw_l2 aj_d234 rfl rfl hlv671_0 ?_
                    refine aw_n aj_d234 rfl rfl ?_
                    refine aw_l0 aj_d234 rfl rfl hlv671_3 ?_
                    refine aw_k hU.1 aj_d234 rfl rfl [_, _] rfl rfl rfl (Nat.le_of_ble_eq_true rfl) (ar_tell hU (hI669).1 (by omega) (a := (4 : Int)) rfl (by omega)) ?_
                    rintro _ S702 ⟨hT702, fc702, rfl, hz702, hw702⟩
                    have b703 : 0 ≤ (S.1 32).toInt ∧ (S.1 32).toInt ≤ 1 := aw_bd_f hs (hI2).1 (by decide) rfl
                    have c704 : (S4.1 32).toInt = (S.1 32).toInt := (congrArg Int32.toInt (fd4.1 32 (by decide)).1).trans rfl
                    have b705 : 0 ≤ (S4.1 32).toInt ∧ (S4.1 32).toInt ≤ 1 := aw_bd_f hs (hI9).1 (by decide) rfl
                    have c706 : (S663.1 32).toInt = (S.1 32).toInt := (congrArg Int32.toInt (fc663.1 32 (by decide)).1).trans c704
                    have b707 : 0 ≤ (S663.1 32).toInt ∧ (S663.1 32).toInt ≤ 1 := aw_bd_f hs (hI669).1 (by decide) rfl
                    have hG702 : aw_G (nm, false, la, 0, 0, 0) S702 := aw_G_ho (aw_G_tell hG663 fc702 hz702) (fun z => hz702 (by have z : (S702.1 32).toInt = 0 := z; rw [(fc702.1 32 (by decide)).1] at z; exact z))
                    have fr708 := aw_fr_tr fr668 (aw_fr_sub (F := [24, 25]) (A := []) (by decide) (by decide) fc702)
                    have hI709 : aw_I s h (aw_sm S702) S702 := ⟨hT702, aw_sm_rf⟩
                    show aw_W _ _ _ _ 110 lv671 [] _ _
                    refine aw_n aj_d234 rfl rfl ?_
                    have b710 : 0 ≤ (S663.1 30).toInt ∧ (S663.1 30).toInt ≤ 1001 := aw_bd_f hs (hI669).1 (by decide) rfl
                    have c711 : (S702.1 30).toInt = (S663.1 30).toInt := (congrArg Int32.toInt (fc702.1 30 (by decide)).1).trans rfl
                    have b712 : 0 ≤ (S702.1 30).toInt ∧ (S702.1 30).toInt ≤ 1001 := aw_bd_f hs (hI709).1 (by decide) rfl
                    have c713 : (S663.1 37).toInt = (S.1 37).toInt := (congrArg Int32.toInt (fc663.1 37 (by decide)).1).trans c536
                    have b714 : 0 ≤ (S663.1 37).toInt ∧ (S663.1 37).toInt ≤ 1 := aw_bd_f hs (hI669).1 (by decide) rfl
                    have c715 : (S702.1 37).toInt = (S.1 37).toInt := (congrArg Int32.toInt (fc702.1 37 (by decide)).1).trans c713
                    have b716 : 0 ≤ (S702.1 37).toInt ∧ (S702.1 37).toInt ≤ 1 := aw_bd_f hs (hI709).1 (by decide) rfl
                    have c717 : (S702.1 32).toInt = (S.1 32).toInt := (congrArg Int32.toInt (fc702.1 32 (by decide)).1).trans c706
                    have b718 : 0 ≤ (S702.1 32).toInt ∧ (S702.1 32).toInt ≤ 1 := aw_bd_f hs (hI709).1 (by decide) rfl
                    exact (ar_row_L128_10 hU hd ) S702 lv671 (b541) (x544) ((S663.1 34)) hlv671_0 hlv671_1 hlv671_2 hlv671_3 ⟨(hI709).1, hG702⟩ fr708 (by omega) (by omega) (show _ ≤ ((S702.1 30)).toInt by omega) (show _ = ((S702.1 37)).toInt * 10 + _ by omega) (ar_mk (fun z => ar_un hw1 (by have z : ((S702.1 32)).toInt = 1 := z; show ((S.1 32)).toInt = 1; omega))) (ar_mk (fun z0 z1 => by rw [show (S702.2.2.1 14) = S.2.2.1 14 from ((fc702.2 14 (by decide)).1.trans ((fc663.2 14 (by decide)).1.trans ((fd4.2 14 (by decide)).1.trans rfl)))]; rw [show (S702.2.2.1 9) = S.2.2.1 9 from ((fc702.2 9 (by decide)).1.trans ((fc663.2 9 (by decide)).1.trans ((fd4.2 9 (by decide)).1.trans rfl)))] at z1; omega))
                · have q670 : (1 : Int) = (0 : Int) := aw_t_ne (a := (1 : Int)) (b := (0 : Int)) hb663 rfl q670
                  exfalso
                  omega
            · have q662 : x661.toInt = (30 : Int) := aw_t_ne (a := x661.toInt) (b := (30 : Int)) rfl rfl q662
              refine aw_l2 aj_d234 rfl rfl hlv545_0 ?_
              refine aw_n aj_d234 rfl rfl ?_
              refine aw_l2 aj_d234 rfl rfl hlv545_0 ?_
              refine aw_g hU.1 aj_d234 rfl rfl (by decide) (v := .int (S4.1 27)) rfl ?_
              refine aw_k hU.1 aj_d234 rfl rfl [_, _] rfl rfl rfl (Nat.le_of_ble_eq_true rfl) (ar_stop hU (hI9).1 (by omega) (a := (2 : Int)) rfl) ?_
              rintro _ S719 ⟨hT719, fc719, rfl, hz719⟩
              have hG719 := aw_G_stop hG4 fc719 (by omega)
              have fr720 := aw_fr_tr fr8 (aw_fr_sub (F := [24, 25, 31]) (A := []) (by decide) (by decide) fc719)
              have hI721 : aw_I s h (aw_sm S719) S719 := ⟨hT719, aw_sm_rf⟩
              show aw_W _ _ _ _ 85 lv545 [.int (Int32.ofInt 0)] _ _
              refine aw_e aj_d234 rfl rfl ?_
              exact ⟨(hI721).1, fr720, Or.inl ⟨_, rfl, rfl, aw_G_B hG719⟩⟩
    · have q10 : (1 : Int) = (0 : Int) := aw_t_ne (a := (1 : Int)) (b := (0 : Int)) hb4 rfl q10
      exfalso
      omega
end ARA16
