/-! TERMS (printed by wip/p2/ref/r03b.py) -/
section ARA3B
variable {tb : aj_T} {s : List Nat} {h : aj_H} {S S' S1 : aj_S} {d n : Nat} {g g' : aw_gh} {F A : List Nat} {G : aj_S → Prop} {nm : Int64 → Prop} {fl : Bool} {la ho hu ht q : Nat}
theorem aw_G_fill (hG : aw_G (nm, fl, la, q, hu, ht) S) (h1 : aw_is (aw_tT S) q 3 63 → aw_res (nm, fl, la, 0, hu, ht) (aw_tF S) (aw_tT S) q) (h2 : aw_is (aw_tT S) q 4 2 → aw_resT (aw_tF S) (aw_tT S) q) : aw_G (nm, fl, la, 0, hu, ht) S := by
  refine ⟨hG.1, fun w0 => ?_, hG.2.2.1, hG.2.2.2.1, hG.2.2.2.2⟩
  rcases hG.2.1 w0 with z | ⟨z1, z2⟩
  · exact Or.inl z
  · refine Or.inr ⟨fun q' q1 q2 _ => ?_, z2⟩
    by_cases e : q' = q
    · subst e
      exact ⟨h1, h2⟩
    · exact z1 q' q1 q2 e
theorem aw_ul_lt {T : aw_Ts} {a : Nat} : ∀ {n i : Nat}, i ∈ aw_ul T a n → i < n ∧ aw_is T i 4 0 := by
  intro n
  induction n with
  | zero => intro i hi; cases hi
  | succ n ih =>
    intro i hi
    unfold aw_ul at hi
    split at hi
    · rename_i hh
      rcases List.mem_append.mp hi with z | z
      · have := ih z
        exact ⟨by omega, this.2⟩
      · cases List.mem_singleton.mp z
        exact ⟨by omega, hh.1⟩
    · have := ih hi
      exact ⟨by omega, this.2⟩
theorem aw_ul_1 {T : aw_Ts} {a n : Nat} (hn : ¬ aw_is T n 4 0) : aw_ul T a (n + 1) = aw_ul T a n := by
  conv => lhs; unfold aw_ul
  rw [if_neg (fun z => hn z.1)]
theorem aw_tl_1 {T : aw_Ts} {a n : Nat} (hn : ¬ aw_is T n 4 1 ∧ ¬ aw_is T n 4 5) : aw_tl T a (n + 1) = aw_tl T a n := by
  conv => lhs; unfold aw_tl
  rw [if_neg (fun z => z.1.elim hn.1 hn.2)]
theorem aw_find_res (hG : aw_G (nm, fl, la, ho, 0, ht) S) (hJ : aw_tJ S = q + 2) (h1 : ¬ aw_is (aw_tT S) q 4 0) (h2 : ¬ aw_is (aw_tT S) (q + 1) 4 0) {b : Int32} (hf : aw_find217 S (aw_h S) (aw_nm (aw_tF S) (aw_tT S) (q + 1)) b) (hb : 0 ≤ b.toInt) : aw_res (nm, fl, la, 0, 0, ht) (aw_tF S) (aw_tT S) q := by
  rcases hf with ⟨i, e1, e2, e3⟩ | ⟨e1, -⟩
  · unfold aw_res
    cases fl with
    | true =>
      rw [if_pos rfl]
      exact (hG.2.2.2.1.1 rfl _).mpr ⟨i, e2, e3⟩
    | false =>
      dsimp only
      rw [if_neg Bool.false_ne_true]
      obtain ⟨⟨u1, u2, -⟩, -⟩ := hG.2.2.2.1.2.1 rfl
      have u1 : (S.2.2.1 1 (aw_h S)).toInt = (aw_ul (aw_tT S) 0 (aw_tJ S)).length := u1
      have e : aw_ul (aw_tT S) 0 (aw_tJ S) = aw_ul (aw_tT S) 0 q := by rw [hJ, aw_ul_1 h2, aw_ul_1 h1]
      obtain ⟨p, hp⟩ : ∃ p, (aw_ul (aw_tT S) 0 (aw_tJ S))[i]? = some p := ⟨_, List.getElem?_eq_getElem (by omega)⟩
      have u3 := (u2 i p hp).1
      rw [e3] at u3
      refine ⟨p, ?_, u3.symm⟩
      rw [← e]
      exact List.mem_of_getElem? hp
  · omega
theorem aw_res_find (hG : aw_G (nm, fl, la, ho, 0, ht) S) (hJ : aw_tJ S = q + 2) (h1 : ¬ aw_is (aw_tT S) q 4 0) (h2 : ¬ aw_is (aw_tT S) (q + 1) 4 0) {b : Int32} (hf : aw_find217 S (aw_h S) (aw_nm (aw_tF S) (aw_tT S) (q + 1)) b) (hr : aw_res (nm, fl, la, 0, 0, ht) (aw_tF S) (aw_tT S) q) : 0 ≤ b.toInt := by
  rcases hf with ⟨i, e1, e2, e3⟩ | ⟨e1, e2⟩
  · omega
  · exfalso
    unfold aw_res at hr
    cases fl with
    | true =>
      rw [if_pos rfl] at hr
      obtain ⟨u, v1, v2⟩ := (hG.2.2.2.1.1 rfl _).mp hr
      exact e2 u v1 v2
    | false =>
      dsimp only at hr
      rw [if_neg Bool.false_ne_true] at hr
      obtain ⟨p, p1, p2⟩ := hr
      obtain ⟨⟨u1, u2, -⟩, -⟩ := hG.2.2.2.1.2.1 rfl
      have u1 : (S.2.2.1 1 (aw_h S)).toInt = (aw_ul (aw_tT S) 0 (aw_tJ S)).length := u1
      have e : aw_ul (aw_tT S) 0 (aw_tJ S) = aw_ul (aw_tT S) 0 q := by rw [hJ, aw_ul_1 h2, aw_ul_1 h1]
      rw [← e] at p1
      obtain ⟨i, hi, rfl⟩ := List.getElem_of_mem p1
      refine e2 i (by omega) ?_
      rw [(u2 i _ (List.getElem?_eq_getElem hi)).1, p2]
/-- in the second pass what stands here was found in the first -/
theorem aw_GC_res (hG : aw_G (nm, fl, la, ho, hu, ht) S) (h32 : (S.1 32).toInt = 1) (hk : (S.1 26).toInt = 3) (hm : (S.1 29).toInt = 63) : aw_res (nm, fl, la, 0, hu, ht) (aw_tF S) (aw_tT S) (aw_tJ S) := by
  obtain ⟨c1, c2, c3, -⟩ := hG.2.2.1 h32
  have tk := hG.1.2.1
  have c1 : aw_tJ S ≤ la := c1
  have ne : aw_tJ S ≠ la := by
    intro z
    have c2 : ((aw_tT S) la).1 = 0 := c2
    rw [← z, ← tk.1] at c2
    omega
  have := (c3 (aw_tJ S) hG.1.1 (show aw_tJ S < la by omega)).1 ⟨tk.1.symm.trans hk, tk.2.2.2.symm.trans hm⟩
  exact this
theorem ar_term (hU : aw_U tb s h) (hT : ak_Ty ak_TN s (aj_mh h S)) (hG : aw_G (nm, fl, la, 0, 0, ht) S) (hd : 6 ≤ d) : aw_K tb h d 235 [.ref 117] S (ar_QT s h (nm, fl, la, 0, 0, ht) [24, 25, 26, 27, 28, 29, 30, 31, 33, 34, 35, 36, 38, 39] [] S (fun S' => (S'.1 32).toInt ≠ 0 → (S'.1 38).toInt = 1 → 0 ≤ (S'.1 39).toInt ∧ (S'.1 39).toInt ≤ 7)) := by
  obtain ⟨d, rfl⟩ : ∃ e, d = e + 1 := ⟨d - 1, by omega⟩
  have hs : aw_sT s := aw_hy_sT hU.2.2
  refine aw_m aj_m235_at rfl (Nat.le_of_ble_eq_true rfl) ?_
  show aw_W _ _ _ _ 0 [(0, .ref 117)] [] _ _
  obtain ⟨lv1, elv1⟩ : ∃ l : aj_V, l = [(0, .ref 117)] := ⟨_, rfl⟩
  rw [← elv1]
  have hlv1_0 : aj_lv lv1 0 = some (.ref 117) := by rw [elv1]; rfl
  have hI2 : aw_I s h (aw_sm S) S := ⟨hT, aw_sm_rf⟩
  have fr3 : aw_fr [24, 25, 26, 27, 28, 29, 30, 31, 33, 34, 35, 36, 38, 39] [] S S := aw_fr_rf
  refine aw_l2 aj_d235 rfl rfl hlv1_0 ?_
  refine aw_n aj_d235 rfl rfl ?_
  refine aw_k hU.1 aj_d235 rfl rfl [_] rfl rfl rfl (Nat.le_of_ble_eq_true rfl) (ar_isSign hU (by omega) (b := (63 : Int)) rfl) ?_
  have b6 : 0 ≤ (S.1 26).toInt ∧ (S.1 26).toInt ≤ 5 := aw_bd_f hs (hI2).1 (by decide) rfl
  rintro _ S5 ⟨eS5, b4, rfl, kb4⟩
  rw [eS5]
  rcases kb4 with ⟨hb4, pb4, qb4⟩ | ⟨hb4, pb4⟩
  · skip
    have pb4 : ((S.1 26)).toInt = 3 := pb4
    have qb4 : ((S.1 29)).toInt = (63 : Int) := qb4
    show aw_W _ _ _ _ 6 lv1 [.int b4] _ _
    refine aw_z (tgt := 33) aj_d235 rfl rfl (fun q7 => ?_) (fun q7 => ?_)
    · have q7 : (1 : Int) ≠ (0 : Int) := aw_t_ne (a := (1 : Int)) (b := (0 : Int)) hb4 rfl q7
      refine aw_l2 aj_d235 rfl rfl hlv1_0 ?_
      have i63 : aw_is (aw_tT S) (aw_tJ S) 3 63 := ⟨hG.1.2.1.1.symm.trans (by omega), hG.1.2.1.2.2.2.symm.trans (by omega)⟩
      have ni : ∀ b : Int, ¬ aw_is (aw_tT S) (aw_tJ S) 4 b := fun b z => absurd (i63.1.symm.trans z.1) (by decide)
      refine aw_k hU.1 aj_d235 rfl rfl [] rfl rfl rfl (Nat.le_of_ble_eq_true rfl) (ar_passG (ho' := aw_tJ S) (hu' := 0) (ht' := ht) hU (hI2).1 hG (by omega) (by omega) ⟨Or.inl rfl, Or.inl rfl⟩ (Or.inl ⟨rfl, ni 0⟩) (Or.inl ⟨rfl, fun z => z.elim (ni 1) (ni 5)⟩)) ?_
      rintro _ S8 ⟨hT8, fc8, ⟨b8, rfl, hb8, hG8, fd8, hz8⟩ | ⟨b8, rfl, hb8, hG8, fd8, cj8⟩⟩
      · skip
        have fr9 := aw_fr_tr fr3 (aw_fr_sub (F := [24, 25, 31]) (A := []) (by decide) (by decide) fd8)
        have hI10 : aw_I s h (aw_sm S8) S8 := ⟨hT8, aw_sm_rf⟩
        show aw_W _ _ _ _ 37 lv1 [.int b8] _ _
        refine aw_z (tgt := 47) aj_d235 rfl rfl (fun q11 => ?_) (fun q11 => ?_)
        · have q11 : (0 : Int) = (0 : Int) := aw_t_eq (a := (0 : Int)) (b := (0 : Int)) hb8 rfl q11
          refine aw_n aj_d235 rfl rfl ?_
          refine aw_e aj_d235 rfl rfl ?_
          have b12 : 0 ≤ (S.1 30).toInt ∧ (S.1 30).toInt ≤ 1001 := aw_bd_f hs (hI2).1 (by decide) rfl
          have c13 : (S8.1 30).toInt = (S.1 30).toInt := (congrArg Int32.toInt (fd8.1 30 (by decide)).1).trans rfl
          have b14 : 0 ≤ (S8.1 30).toInt ∧ (S8.1 30).toInt ≤ 1001 := aw_bd_f hs (hI10).1 (by decide) rfl
          exact ⟨(hI10).1, fr9, Or.inl ⟨_, rfl, rfl, aw_G_ho hG8 (fun _ => (show (S8.1 24).toInt ≠ 0 by omega)), (show _ ≤ ((S8.1 30)).toInt by omega)⟩⟩
        · have q11 : (0 : Int) ≠ (0 : Int) := aw_t_eq (a := (0 : Int)) (b := (0 : Int)) hb8 rfl q11
          exfalso
          omega
      · skip
        have fr15 := aw_fr_tr fr3 (aw_fr_sub (F := [26, 27, 28, 29, 30]) (A := []) (by decide) (by decide) fd8)
        have hI16 : aw_I s h (aw_sm S8) S8 := ⟨hT8, aw_sm_rf⟩
        show aw_W _ _ _ _ 37 lv1 [.int b8] _ _
        refine aw_z (tgt := 47) aj_d235 rfl rfl (fun q17 => ?_) (fun q17 => ?_)
        · have q17 : (1 : Int) = (0 : Int) := aw_t_eq (a := (1 : Int)) (b := (0 : Int)) hb8 rfl q17
          exfalso
          omega
        · have q17 : (1 : Int) ≠ (0 : Int) := aw_t_eq (a := (1 : Int)) (b := (0 : Int)) hb8 rfl q17
          refine aw_l2 aj_d235 rfl rfl hlv1_0 ?_
          have b19 : 0 ≤ (S8.1 30).toInt ∧ (S8.1 30).toInt ≤ 1001 := aw_bd_f hs (hI16).1 (by decide) rfl
          refine aw_k hU.1 aj_d235 rfl rfl [] rfl rfl rfl (Nat.le_of_ble_eq_true rfl) (ar_named hU (hI16).1 hG8 (by omega)) ?_
          rintro _ S18 ⟨hT18, fc18, ⟨b18, rfl, hb18, hG18, ck18, hz18⟩ | ⟨b18, rfl, hb18, hG18, ck18, cj18, k118, nm18⟩⟩
          · skip
            have ck18 : ((S8.1 30)).toInt ≤ (S18.1 30).toInt := ck18
            have fr20 := aw_fr_tr fr15 (aw_fr_sub (F := [24, 25, 26, 27, 28, 29, 30, 31, 33, 34]) (A := []) (by decide) (by decide) fc18)
            have hI21 : aw_I s h (aw_sm S18) S18 := ⟨hT18, aw_sm_rf⟩
            show aw_W _ _ _ _ 44 lv1 [.int b18] _ _
            refine aw_z (tgt := 49) aj_d235 rfl rfl (fun q22 => ?_) (fun q22 => ?_)
            · have q22 : (0 : Int) ≠ (0 : Int) := aw_t_ne (a := (0 : Int)) (b := (0 : Int)) hb18 rfl q22
              exfalso
              omega
            · have q22 : (0 : Int) = (0 : Int) := aw_t_ne (a := (0 : Int)) (b := (0 : Int)) hb18 rfl q22
              refine aw_n aj_d235 rfl rfl ?_
              refine aw_e aj_d235 rfl rfl ?_
              have b23 : 0 ≤ (S18.1 30).toInt ∧ (S18.1 30).toInt ≤ 1001 := aw_bd_f hs (hI21).1 (by decide) rfl
              exact ⟨(hI21).1, fr20, Or.inl ⟨_, rfl, rfl, aw_G_ho hG18 (fun _ => (show (S18.1 24).toInt ≠ 0 by omega)), (show _ ≤ ((S18.1 30)).toInt by omega)⟩⟩
          · skip
            have cj18 : (S18.1 30).toInt = ((S8.1 30)).toInt + 1 := cj18
            have fr24 := aw_fr_tr fr15 (aw_fr_sub (F := [24, 25, 26, 27, 28, 29, 30, 31, 33, 34]) (A := []) (by decide) (by decide) fc18)
            have hI25 : aw_I s h (aw_sm S18) S18 := ⟨hT18, aw_sm_rf⟩
            show aw_W _ _ _ _ 44 lv1 [.int b18] _ _
            refine aw_z (tgt := 49) aj_d235 rfl rfl (fun q26 => ?_) (fun q26 => ?_)
            · have q26 : (1 : Int) ≠ (0 : Int) := aw_t_ne (a := (1 : Int)) (b := (0 : Int)) hb18 rfl q26
              refine aw_l2 aj_d235 rfl rfl hlv1_0 ?_
              refine aw_n aj_d235 rfl rfl ?_
              refine aw_p hU.1 aj_d235 rfl rfl (by decide) rfl ?_
              have hI27 := aw_I_f (aw_UV hU aw_Gs_sm) (k := 38) (v := (Int32.ofInt 1)) hI25 (by decide) (by decide) rfl (aw_bp (a := (1 : Int)) rfl (by omega) (by omega))
              have fr28 := aw_fr_f (k := 38) (v := (Int32.ofInt 1)) (by decide) fr24
              refine aw_l2 aj_d235 rfl rfl hlv1_0 ?_
              refine aw_l2 aj_d235 rfl rfl hlv1_0 ?_
              refine aw_l2 aj_d235 rfl rfl hlv1_0 ?_
              have b29 : 0 ≤ (S.1 37).toInt ∧ (S.1 37).toInt ≤ 1 := aw_bd_f hs (hI2).1 (by decide) rfl
              have c30 : (S8.1 37).toInt = (S.1 37).toInt := (congrArg Int32.toInt (fd8.1 37 (by decide)).1).trans rfl
              have b31 : 0 ≤ (S8.1 37).toInt ∧ (S8.1 37).toInt ≤ 1 := aw_bd_f hs (hI16).1 (by decide) rfl
              have c32 : (S18.1 37).toInt = (S.1 37).toInt := (congrArg Int32.toInt (fc18.1 37 (by decide)).1).trans c30
              have b33 : 0 ≤ (S18.1 37).toInt ∧ (S18.1 37).toInt ≤ 1 := aw_bd_f hs (hI25).1 (by decide) rfl
              refine aw_g hU.1 aj_d235 rfl rfl (by decide) (v := .int (S18.1 37)) rfl ?_
              refine aw_l2 aj_d235 rfl rfl hlv1_0 ?_
              refine aw_g hU.1 aj_d235 rfl rfl (by decide) (v := .long (S18.2.1 33)) rfl ?_
              refine aw_k hU.1 aj_d235 rfl rfl [_, _] rfl rfl rfl (Nat.le_of_ble_eq_true rfl) (aw_unknownK (aw_UV hU aw_Gs_sm) hI27 (by omega) (t := aw_h S18) (by show ((S18.1 37)).toInt = _; unfold aw_h; omega) (by unfold aw_h; omega)) ?_
              rintro _ zb34 ⟨b34, rfl, fb34, hfb34⟩
              rw [fb34]
              have eT1 : aw_tT S18 = aw_tT S := aw_fr_tT fr24 (by decide) (by decide)
              have eF1 : aw_tF S18 = aw_tF S := (fr24.2 21 (by decide)).1
              have eTm : aw_tT S8 = aw_tT S := aw_fr_tT fd8 (by decide) (by decide)
              have eFm : aw_tF S8 = aw_tF S := (fd8.2 21 (by decide)).1
              have eJm : aw_tJ S8 = aw_tJ S + 1 := by
                have j1 := hG.1.1
                unfold aw_tJ at j1 ⊢
                omega
              have eJ1 : aw_tJ S18 = aw_tJ S + 2 := by
                have j1 := hG.1.1
                unfold aw_tJ at j1 ⊢
                omega
              have ni2 : ¬ aw_is (aw_tT S18) (aw_tJ S + 1) 4 0 := fun z => by
                have t1 := hG8.1.2.1.1
                rw [eJm, eTm] at t1
                rw [eT1] at z
                have z1 := z.1
                omega
              have ni1 : ¬ aw_is (aw_tT S18) (aw_tJ S) 4 0 := by rw [eT1]; exact ni 0
              have hfn : aw_find217 S18 (aw_h S18) (aw_nm (aw_tF S18) (aw_tT S18) (aw_tJ S + 1)) b34 := by
                have e5 : aw_nm (aw_tF S18) (aw_tT S18) (aw_tJ S + 1) = S18.2.1 33 := by rw [nm18, eF1, eT1, eFm, eTm, eJm]
                rw [e5]
                exact hfb34
              have hw1 : (S.1 32).toInt = 1 → 0 ≤ b34.toInt := fun z => aw_res_find hG18 eJ1 ni1 ni2 hfn (by
                have r1 := aw_GC_res hG z (by omega) (by omega)
                rw [eF1, eT1]
                exact r1)
              have hb7 : 0 ≤ b34.toInt → b34.toInt ≤ 7 := fun z => by
                have b8 := aw_bd_a hs hI25.1 (k := 1) (j := aw_h S18) (lo := 0) (hi := 8) (by decide) (by decide) rfl (by decide) rfl (by unfold aw_h; omega)
                rcases hfn with ⟨i, y1, y2, -⟩ | ⟨y1, -⟩
                · have y2 : (i : Int) < (S18.2.2.1 1 (aw_h S18)).toInt := y2
                  omega
                · omega
              show aw_W _ _ _ _ 67 lv1 [.int b34, .ref 117] _ _
              refine aw_p hU.1 aj_d235 rfl rfl (by decide) rfl ?_
              have hI35 := aw_I_f (aw_UV hU aw_Gs_sm) (k := 39) (v := b34) hI27 (by decide) (by decide) rfl (aw_full _)
              have fr36 := aw_fr_f (k := 39) (v := b34) (by decide) fr28
              refine aw_l2 aj_d235 rfl rfl hlv1_0 ?_
              refine aw_g hU.1 aj_d235 rfl rfl (by decide) (v := .int b34) rfl ?_
              refine aw_z (tgt := 86) aj_d235 rfl rfl (fun q37 => ?_) (fun q37 => ?_)
              · have q37 : b34.toInt ≥ (0 : Int) := aw_t_ge (a := b34.toInt) (b := (0 : Int)) rfl rfl q37
                refine aw_n aj_d235 rfl rfl ?_
                refine aw_e aj_d235 rfl rfl ?_
                have b38 : 0 ≤ (S18.1 30).toInt ∧ (S18.1 30).toInt ≤ 1001 := aw_bd_f hs (hI25).1 (by decide) rfl
                have b39 : 0 ≤ (S.1 32).toInt ∧ (S.1 32).toInt ≤ 1 := aw_bd_f hs (hI2).1 (by decide) rfl
                have c40 : (S8.1 32).toInt = (S.1 32).toInt := (congrArg Int32.toInt (fd8.1 32 (by decide)).1).trans rfl
                have b41 : 0 ≤ (S8.1 32).toInt ∧ (S8.1 32).toInt ≤ 1 := aw_bd_f hs (hI16).1 (by decide) rfl
                have c42 : (S18.1 32).toInt = (S.1 32).toInt := (congrArg Int32.toInt (fc18.1 32 (by decide)).1).trans c40
                have b43 : 0 ≤ (S18.1 32).toInt ∧ (S18.1 32).toInt ≤ 1 := aw_bd_f hs (hI25).1 (by decide) rfl
                exact ⟨(hI35).1, fr36, Or.inr ⟨_, rfl, rfl, (aw_G_sm hI35.2 (aw_G_fill hG18 (fun _ => aw_find_res hG18 eJ1 ni1 ni2 hfn (by omega)) (fun z => absurd z (by rw [eT1]; exact ni 2)))), (show _ + 1 ≤ ((S18.1 30)).toInt by omega), fun y z => (by have y : ((S18.1 32)).toInt ≠ 0 := y; show 0 ≤ (b34).toInt ∧ (b34).toInt ≤ 7; omega)⟩⟩
              · have q37 : b34.toInt < (0 : Int) := aw_t_ge (a := b34.toInt) (b := (0 : Int)) rfl rfl q37
                refine aw_l2 aj_d235 rfl rfl hlv1_0 ?_
                refine aw_n aj_d235 rfl rfl ?_
                refine aw_l2 aj_d235 rfl rfl hlv1_0 ?_
                refine aw_g hU.1 aj_d235 rfl rfl (by decide) (v := .int (S18.1 34)) rfl ?_
                refine aw_k hU.1 aj_d235 rfl rfl [_, _] rfl rfl rfl (Nat.le_of_ble_eq_true rfl) (ar_tell hU (hI35).1 (by omega) (a := (4 : Int)) rfl (by omega)) ?_
                rintro _ S44 ⟨hT44, fc44, rfl, hz44, hw44⟩
                have hG44 := aw_G_tell (aw_G_sm hI35.2 hG18) fc44 hz44
                have b45 : 0 ≤ (S.1 32).toInt ∧ (S.1 32).toInt ≤ 1 := aw_bd_f hs (hI2).1 (by decide) rfl
                have c46 : (S8.1 32).toInt = (S.1 32).toInt := (congrArg Int32.toInt (fd8.1 32 (by decide)).1).trans rfl
                have b47 : 0 ≤ (S8.1 32).toInt ∧ (S8.1 32).toInt ≤ 1 := aw_bd_f hs (hI16).1 (by decide) rfl
                have c48 : (S18.1 32).toInt = (S.1 32).toInt := (congrArg Int32.toInt (fc18.1 32 (by decide)).1).trans c46
                have b49 : 0 ≤ (S18.1 32).toInt ∧ (S18.1 32).toInt ≤ 1 := aw_bd_f hs (hI25).1 (by decide) rfl
                have hz44 : ((S18.1 32)).toInt = 0 → (S44.1 24).toInt ≠ 0 := hz44
                have fr50 := aw_fr_tr fr36 (aw_fr_sub (F := [24, 25]) (A := []) (by decide) (by decide) fc44)
                have hI51 : aw_I s h (aw_sm S44) S44 := ⟨hT44, aw_sm_rf⟩
                show aw_W _ _ _ _ 86 lv1 [] _ _
                refine aw_n aj_d235 rfl rfl ?_
                refine aw_e aj_d235 rfl rfl ?_
                have b52 : 0 ≤ (S18.1 30).toInt ∧ (S18.1 30).toInt ≤ 1001 := aw_bd_f hs (hI25).1 (by decide) rfl
                have c53 : (S44.1 30).toInt = (S18.1 30).toInt := (congrArg Int32.toInt (fc44.1 30 (by decide)).1).trans rfl
                have b54 : 0 ≤ (S44.1 30).toInt ∧ (S44.1 30).toInt ≤ 1001 := aw_bd_f hs (hI51).1 (by decide) rfl
                have c55 : (S44.1 32).toInt = (S.1 32).toInt := (congrArg Int32.toInt (fc44.1 32 (by decide)).1).trans c48
                have b56 : 0 ≤ (S44.1 32).toInt ∧ (S44.1 32).toInt ≤ 1 := aw_bd_f hs (hI51).1 (by decide) rfl
                have c57 : (S44.1 38).toInt = (1 : Int) := (congrArg Int32.toInt (fc44.1 38 (by decide)).1).trans rfl
                have b58 : 0 ≤ (S44.1 38).toInt ∧ (S44.1 38).toInt ≤ 1 := aw_bd_f hs (hI51).1 (by decide) rfl
                have c59 : (S44.1 39).toInt = b34.toInt := (congrArg Int32.toInt (fc44.1 39 (by decide)).1).trans rfl
                exact ⟨(hI51).1, fr50, Or.inr ⟨_, rfl, rfl, (aw_G_ho hG44 (fun z => hz44 (by have z : ((S44.1 32)).toInt = 0 := z; omega))), (show _ + 1 ≤ ((S44.1 30)).toInt by omega), fun y z => (by have y : ((S44.1 32)).toInt ≠ 0 := y; show 0 ≤ ((S44.1 39)).toInt ∧ ((S44.1 39)).toInt ≤ 7; omega)⟩⟩
            · have q26 : (1 : Int) = (0 : Int) := aw_t_ne (a := (1 : Int)) (b := (0 : Int)) hb18 rfl q26
              exfalso
              omega
    · have q7 : (1 : Int) = (0 : Int) := aw_t_ne (a := (1 : Int)) (b := (0 : Int)) hb4 rfl q7
      exfalso
      omega
  · skip
    have pb4 : ¬ (((S.1 26)).toInt = 3 ∧ ((S.1 29)).toInt = (63 : Int)) := pb4
    show aw_W _ _ _ _ 6 lv1 [.int b4] _ _
    refine aw_z (tgt := 33) aj_d235 rfl rfl (fun q60 => ?_) (fun q60 => ?_)
    · have q60 : (0 : Int) ≠ (0 : Int) := aw_t_ne (a := (0 : Int)) (b := (0 : Int)) hb4 rfl q60
      exfalso
      omega
    · have q60 : (0 : Int) = (0 : Int) := aw_t_ne (a := (0 : Int)) (b := (0 : Int)) hb4 rfl q60
      refine aw_l2 aj_d235 rfl rfl hlv1_0 ?_
      refine aw_n aj_d235 rfl rfl ?_
      refine aw_p hU.1 aj_d235 rfl rfl (by decide) rfl ?_
      have hI61 := aw_I_f (aw_UV hU aw_Gs_sm) (k := 38) (v := (Int32.ofInt 0)) hI2 (by decide) (by decide) rfl (aw_bp (a := (0 : Int)) rfl (by omega) (by omega))
      have fr62 := aw_fr_f (k := 38) (v := (Int32.ofInt 0)) (by decide) fr3
      refine aw_l2 aj_d235 rfl rfl hlv1_0 ?_
      have b64 : 0 ≤ (S.1 30).toInt ∧ (S.1 30).toInt ≤ 1001 := aw_bd_f hs (hI2).1 (by decide) rfl
      refine aw_k hU.1 aj_d235 rfl rfl [] rfl rfl rfl (Nat.le_of_ble_eq_true rfl) (ar_whole hU (hI61).1 (aw_G_sm hI61.2 hG) (by omega)) ?_
      rintro _ S63 ⟨hT63, fc63, ⟨b63, rfl, hb63, hG63, ck63⟩ | ⟨b63, rfl, hb63, hG63, ck63, wj63, wn63⟩⟩
      · skip
        have ck63 : ((S.1 30)).toInt ≤ (S63.1 30).toInt := ck63
        have fr65 := aw_fr_tr fr62 (aw_fr_sub (F := [24, 25, 26, 27, 28, 29, 30, 31, 35, 36]) (A := []) (by decide) (by decide) fc63)
        have hI66 : aw_I s h (aw_sm S63) S63 := ⟨hT63, aw_sm_rf⟩
        show aw_W _ _ _ _ 18 lv1 [.int b63] _ _
        refine aw_z (tgt := 23) aj_d235 rfl rfl (fun q67 => ?_) (fun q67 => ?_)
        · have q67 : (0 : Int) ≠ (0 : Int) := aw_t_ne (a := (0 : Int)) (b := (0 : Int)) hb63 rfl q67
          exfalso
          omega
        · have q67 : (0 : Int) = (0 : Int) := aw_t_ne (a := (0 : Int)) (b := (0 : Int)) hb63 rfl q67
          refine aw_n aj_d235 rfl rfl ?_
          refine aw_e aj_d235 rfl rfl ?_
          have b68 : 0 ≤ (S63.1 30).toInt ∧ (S63.1 30).toInt ≤ 1001 := aw_bd_f hs (hI66).1 (by decide) rfl
          exact ⟨(hI66).1, fr65, Or.inl ⟨_, rfl, rfl, hG63, (show _ ≤ ((S63.1 30)).toInt by omega)⟩⟩
      · skip
        have ck63 : ((S.1 30)).toInt + 1 ≤ (S63.1 30).toInt := ck63
        have fr69 := aw_fr_tr fr62 (aw_fr_sub (F := [24, 25, 26, 27, 28, 29, 30, 31, 35, 36]) (A := []) (by decide) (by decide) fc63)
        have hI70 : aw_I s h (aw_sm S63) S63 := ⟨hT63, aw_sm_rf⟩
        show aw_W _ _ _ _ 18 lv1 [.int b63] _ _
        refine aw_z (tgt := 23) aj_d235 rfl rfl (fun q71 => ?_) (fun q71 => ?_)
        · have q71 : (1 : Int) ≠ (0 : Int) := aw_t_ne (a := (1 : Int)) (b := (0 : Int)) hb63 rfl q71
          refine aw_l2 aj_d235 rfl rfl hlv1_0 ?_
          refine aw_l2 aj_d235 rfl rfl hlv1_0 ?_
          have b72 : (-9999) ≤ (S63.1 35).toInt ∧ (S63.1 35).toInt ≤ 9999 := aw_bd_f hs (hI70).1 (by decide) rfl
          refine aw_g hU.1 aj_d235 rfl rfl (by decide) (v := .int (S63.1 35)) rfl ?_
          refine aw_p hU.1 aj_d235 rfl rfl (by decide) rfl ?_
          have hI73 := aw_I_f (aw_UV hU aw_Gs_sm) (k := 39) (v := (S63.1 35)) hI70 (by decide) (by decide) rfl (aw_full _)
          have fr74 := aw_fr_f (k := 39) (v := (S63.1 35)) (by decide) fr69
          refine aw_n aj_d235 rfl rfl ?_
          refine aw_e aj_d235 rfl rfl ?_
          have b75 : 0 ≤ (S63.1 30).toInt ∧ (S63.1 30).toInt ≤ 1001 := aw_bd_f hs (hI70).1 (by decide) rfl
          have b76 : 0 ≤ (S.1 32).toInt ∧ (S.1 32).toInt ≤ 1 := aw_bd_f hs (hI2).1 (by decide) rfl
          have c77 : (S63.1 32).toInt = (S.1 32).toInt := (congrArg Int32.toInt (fc63.1 32 (by decide)).1).trans rfl
          have b78 : 0 ≤ (S63.1 32).toInt ∧ (S63.1 32).toInt ≤ 1 := aw_bd_f hs (hI70).1 (by decide) rfl
          have c79 : (S63.1 38).toInt = (0 : Int) := (congrArg Int32.toInt (fc63.1 38 (by decide)).1).trans rfl
          have b80 : 0 ≤ (S63.1 38).toInt ∧ (S63.1 38).toInt ≤ 1 := aw_bd_f hs (hI70).1 (by decide) rfl
          exact ⟨(hI73).1, fr74, Or.inr ⟨_, rfl, rfl, (aw_G_sm hI73.2 hG63), (show _ + 1 ≤ ((S63.1 30)).toInt by omega), fun _ z => (by have z : ((S63.1 38)).toInt = 1 := z; omega)⟩⟩
        · have q71 : (1 : Int) = (0 : Int) := aw_t_ne (a := (1 : Int)) (b := (0 : Int)) hb63 rfl q71
          exfalso
          omega
end ARA3B
