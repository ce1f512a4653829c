/-! COLUMNS TAKEN (printed by wip/p2/ref/r09.py) -/
section ARA9
variable {tb : aj_T} {s : List Nat} {h : aj_H} {S S' S1 S2 : aj_S} {d n : Nat} {g g' : aw_gh} {F A : List Nat} {G : aj_S → Prop} {nm : Int64 → Prop} {fl : Bool} {la ho hu ht q : Nat} {f : Nat → Int32} {m : Int}
theorem ar_pig6 {f : Nat → Int32} {n : Nat} {c : Int32} (hk : ar_TK f n m) (h1 : 0 ≤ c.toInt) (h2 : c.toInt ≤ 5) (h3 : ∀ j, j < n → (f j).toInt ≠ c.toInt) (h4 : c.toInt < m ∨ c.toInt = -1) : (n : Int) + 1 ≤ m := by
  have := ar_TK_le (ar_TK_push (v := c) hk ⟨h1, by omega⟩ h3)
  omega
theorem ar_columns_L75_44 (hU : aw_U tb s h) (hd : 6 ≤ d + 1) (N56 : Nat) (S23 : aj_S) (x25 : Int32) (x26 : Int32) (ihL56_21 : ∀ (S23 : aj_S) (lv24 : aj_V) (x25 : Int32) (x26 : Int32), (aj_lv lv24 0 = some (.ref 117)) → (aj_lv lv24 1 = some (.int x25)) → (aj_lv lv24 3 = some (.int x26)) → (aw_I s h (aw_G g) S23) → (aw_fr [24, 25, 26, 27, 28, 29, 30, 31, 33, 34, 56] [15, 25] S S23) → (20 ≤ x25.toInt ∧ x25.toInt ≤ 48) → (0 ≤ x26.toInt ∧ x26.toInt ≤ 1) → (ar_TK (S23.2.2.1 25) ((S23.1 56).toInt).toNat (S23.2.2.1 15 (x25.toInt).toNat).toInt) → ((S.1 30).toInt + 0 ≤ (S23.1 30).toInt) → (1001 - (S23.1 30).toInt).toNat < N56 → aw_W tb h d aj_m261 56 lv24 [] S23 ((ar_QT s h g [24, 25, 26, 27, 28, 29, 30, 31, 33, 34, 56] [15, 25] S (fun _ => True)))) (hm56 : (1001 - (S23.1 30).toInt).toNat < N56 + 1) : ∀ (N : Nat) (S46 : aj_S) (lv47 : aj_V) (x48 : Int32) (x49 : Int32) (x50 : Int32) (x51 : Int32), (aj_lv lv47 0 = some (.ref 117)) → (aj_lv lv47 1 = some (.int x48)) → (aj_lv lv47 3 = some (.int x49)) → (aj_lv lv47 5 = some (.int x50)) → (aj_lv lv47 6 = some (.int x51)) → (aw_I s h (aw_G g) S46) → (aw_fr [24, 25, 26, 27, 28, 29, 30, 31, 33, 34, 56] [15, 25] S S46) → (20 ≤ x48.toInt ∧ x48.toInt ≤ 48) → (0 ≤ x49.toInt ∧ x49.toInt ≤ 1) → ((-1) ≤ x50.toInt ∧ x50.toInt ≤ 5) → (0 ≤ x51.toInt ∧ x51.toInt ≤ 6) → (ar_TK (S46.2.2.1 25) ((S46.1 56).toInt).toNat (S46.2.2.1 15 (x48.toInt).toNat).toInt) → ((S.1 30).toInt + 1 ≤ (S46.1 30).toInt) → ((S23.1 30).toInt + 1 ≤ (S46.1 30).toInt) → (x50.toInt < (S46.2.2.1 15 (x48.toInt).toNat).toInt ∨ x50.toInt = -1) → (x49.toInt = 0 → 0 ≤ x50.toInt → ∀ j, j < (x51.toInt).toNat → (S46.2.2.1 25 j).toInt ≠ x50.toInt) → (x51.toInt ≤ (S46.1 56).toInt) → (6 - x51.toInt).toNat < N → aw_W tb h d aj_m261 75 lv47 [] S46 ((ar_QT s h g [24, 25, 26, 27, 28, 29, 30, 31, 33, 34, 56] [15, 25] S (fun _ => True))) := by
  have hs : aw_sT s := aw_hy_sT hU.2.2
  intro N75
  induction N75 with
  | zero =>
    intro S46 lv47 x48 x49 x50 x51 hlv47_0 hlv47_1 hlv47_3 hlv47_5 hlv47_6 hI52 fr53 bx48 bx49 bx50 bx51 TK75 ck75 cA75 cb75 nb75 k75 hm75
    omega
  | succ N75 ihL75_44 =>
    intro S46 lv47 x48 x49 x50 x51 hlv47_0 hlv47_1 hlv47_3 hlv47_5 hlv47_6 hI52 fr53 bx48 bx49 bx50 bx51 TK75 ck75 cA75 cb75 nb75 k75 hm75
    have hI54 : aw_I s h (aw_sm S46) S46 := ⟨hI52.1, aw_sm_rf⟩
    have b55 : 0 ≤ (S46.1 30).toInt ∧ (S46.1 30).toInt ≤ 1001 := aw_bd_f hs (hI54).1 (by decide) rfl
    have b56 : 0 ≤ (S46.1 56).toInt ∧ (S46.1 56).toInt ≤ 6 := aw_bd_f hs (hI54).1 (by decide) rfl
    refine aw_l0 aj_d261 rfl rfl hlv47_6 ?_
    refine aw_l2 aj_d261 rfl rfl hlv47_0 ?_
    refine aw_g hU.1 aj_d261 rfl rfl (by decide) (v := .int (S46.1 56)) rfl ?_
    refine aw_c (tgt := 118) aj_d261 rfl rfl (fun q57 => ?_) (fun q57 => ?_)
    · have q57 : x51.toInt ≥ (S46.1 56).toInt := aw_t_ge (a := x51.toInt) (b := (S46.1 56).toInt) rfl rfl q57
      refine aw_l0 aj_d261 rfl rfl hlv47_3 ?_
      refine aw_z (tgt := 127) aj_d261 rfl rfl (fun q58 => ?_) (fun q58 => ?_)
      · have q58 : x49.toInt ≠ (0 : Int) := aw_t_ne (a := x49.toInt) (b := (0 : Int)) rfl rfl q58
        refine aw_n aj_d261 rfl rfl ?_
        refine aw_n aj_d261 rfl rfl ?_
        refine aw_t0 (j := 3) aj_d261 rfl (by decide) rfl ?_
        obtain ⟨lv59, elv59⟩ : ∃ l, l = aj_set1 lv47 3 (.int (Int32.ofInt 1)) := ⟨_, rfl⟩
        rw [← elv59]
        have hlv59_0 : aj_lv lv59 0 = some (.ref 117) := cw_e1 elv59 hlv47_0 (by decide) (Or.inl (by decide))
        have hlv59_1 : aj_lv lv59 1 = some (.int x48) := cw_e1 elv59 hlv47_1 (by decide) (Or.inl (by decide))
        have hlv59_5 : aj_lv lv59 5 = some (.int x50) := cw_e1 elv59 hlv47_5 (by decide) (Or.inl (by decide))
        have hlv59_3 : aj_lv lv59 3 = some (.int (Int32.ofInt 1)) := by rw [elv59]; exact ak_set1_eq _ _ _
        show aw_W _ _ _ _ 133 lv59 [] _ _
        refine aw_l0 aj_d261 rfl rfl hlv59_3 ?_
        refine aw_z (tgt := 158) aj_d261 rfl rfl (fun q60 => ?_) (fun q60 => ?_)
        · have q60 : (1 : Int) ≠ (0 : Int) := aw_t_ne (a := (1 : Int)) (b := (0 : Int)) rfl rfl q60
          refine aw_l2 aj_d261 rfl rfl hlv59_0 ?_
          refine aw_n aj_d261 rfl rfl ?_
          refine aw_k hU.1 aj_d261 rfl rfl [_] rfl rfl rfl (Nat.le_of_ble_eq_true rfl) (ar_isSign hU (by omega) (b := (44 : Int)) rfl) ?_
          have b63 : 0 ≤ (S46.1 26).toInt ∧ (S46.1 26).toInt ≤ 5 := aw_bd_f hs (hI54).1 (by decide) rfl
          rintro _ S62 ⟨eS62, b61, rfl, kb61⟩
          rw [eS62]
          rcases kb61 with ⟨hb61, pb61, qb61⟩ | ⟨hb61, pb61⟩
          · skip
            have pb61 : ((S46.1 26)).toInt = 3 := pb61
            have qb61 : ((S46.1 29)).toInt = (44 : Int) := qb61
            show aw_W _ _ _ _ 164 lv59 [.int b61] _ _
            refine aw_t0 (j := 4) aj_d261 rfl (by decide) rfl ?_
            obtain ⟨lv64, elv64⟩ : ∃ l, l = aj_set1 lv59 4 (.int b61) := ⟨_, rfl⟩
            rw [← elv64]
            have hlv64_0 : aj_lv lv64 0 = some (.ref 117) := cw_e1 elv64 hlv59_0 (by decide) (Or.inl (by decide))
            have hlv64_1 : aj_lv lv64 1 = some (.int x48) := cw_e1 elv64 hlv59_1 (by decide) (Or.inl (by decide))
            have hlv64_3 : aj_lv lv64 3 = some (.int (Int32.ofInt 1)) := cw_e1 elv64 hlv59_3 (by decide) (Or.inr rfl)
            have hlv64_4 : aj_lv lv64 4 = some (.int b61) := by rw [elv64]; exact ak_set1_eq _ _ _
            show aw_W _ _ _ _ 166 lv64 [] _ _
            refine aw_l0 aj_d261 rfl rfl hlv64_4 ?_
            refine aw_z (tgt := 180) aj_d261 rfl rfl (fun q65 => ?_) (fun q65 => ?_)
            · have q65 : (1 : Int) = (0 : Int) := aw_t_eq (a := (1 : Int)) (b := (0 : Int)) hb61 rfl q65
              exfalso
              omega
            · have q65 : (1 : Int) ≠ (0 : Int) := aw_t_eq (a := (1 : Int)) (b := (0 : Int)) hb61 rfl q65
              refine aw_l2 aj_d261 rfl rfl hlv64_0 ?_
              refine aw_k hU.1 aj_d261 rfl rfl [] rfl rfl rfl (Nat.le_of_ble_eq_true rfl) (ar_pass hU (hI54).1 hI52.2 (by omega) (show ((S46.1 26)).toInt ≠ 0 by omega) (show ¬ (((S46.1 26)).toInt = 3 ∧ ((S46.1 29)).toInt = 63) by omega) (show ((S46.1 26)).toInt = 4 → ((S46.1 29)).toInt = 3 ∨ 6 ≤ ((S46.1 29)).toInt by omega)) ?_
              rintro _ S66 ⟨hT66, fc66, ⟨b66, rfl, hb66, hG66, fd66, hz66⟩ | ⟨b66, rfl, hb66, hG66, ck66, fd66, cj66⟩⟩
              · skip
                have fr67 := aw_fr_tr fr53 (aw_fr_sub (F := [24, 25, 31]) (A := []) (by decide) (by decide) fd66)
                have hI68 : aw_I s h (aw_sm S66) S66 := ⟨hT66, aw_sm_rf⟩
                show aw_W _ _ _ _ 175 lv64 [.int b66] _ _
                refine aw_z (tgt := 180) aj_d261 rfl rfl (fun q69 => ?_) (fun q69 => ?_)
                · have q69 : (0 : Int) ≠ (0 : Int) := aw_t_ne (a := (0 : Int)) (b := (0 : Int)) hb66 rfl q69
                  exfalso
                  omega
                · have q69 : (0 : Int) = (0 : Int) := aw_t_ne (a := (0 : Int)) (b := (0 : Int)) hb66 rfl q69
                  refine aw_n aj_d261 rfl rfl ?_
                  refine aw_e aj_d261 rfl rfl ?_
                  have c70 : (S66.1 30).toInt = (S46.1 30).toInt := (congrArg Int32.toInt (fd66.1 30 (by decide)).1).trans rfl
                  have b71 : 0 ≤ (S66.1 30).toInt ∧ (S66.1 30).toInt ≤ 1001 := aw_bd_f hs (hI68).1 (by decide) rfl
                  exact ⟨(hI68).1, fr67, Or.inl ⟨_, rfl, rfl, hG66, (show _ ≤ ((S66.1 30)).toInt by omega)⟩⟩
              · skip
                have cj66 : (S66.1 30).toInt = ((S46.1 30)).toInt + 1 := cj66
                have fr72 := aw_fr_tr fr53 (aw_fr_sub (F := [26, 27, 28, 29, 30]) (A := []) (by decide) (by decide) fd66)
                have hI73 : aw_I s h (aw_sm S66) S66 := ⟨hT66, aw_sm_rf⟩
                show aw_W _ _ _ _ 175 lv64 [.int b66] _ _
                refine aw_z (tgt := 180) aj_d261 rfl rfl (fun q74 => ?_) (fun q74 => ?_)
                · have q74 : (1 : Int) ≠ (0 : Int) := aw_t_ne (a := (1 : Int)) (b := (0 : Int)) hb66 rfl q74
                  refine aw_n aj_d261 rfl rfl ?_
                  refine aw_l0 aj_d261 rfl rfl hlv64_4 ?_
                  refine aw_z (tgt := 183) aj_d261 rfl rfl (fun q75 => ?_) (fun q75 => ?_)
                  · have q75 : (1 : Int) = (0 : Int) := aw_t_eq (a := (1 : Int)) (b := (0 : Int)) hb61 rfl q75
                    exfalso
                    omega
                  · have q75 : (1 : Int) ≠ (0 : Int) := aw_t_eq (a := (1 : Int)) (b := (0 : Int)) hb61 rfl q75
                    have c76 : (S66.1 56).toInt = (S46.1 56).toInt := (congrArg Int32.toInt (fd66.1 56 (by decide)).1).trans rfl
                    have b77 : 0 ≤ (S66.1 56).toInt ∧ (S66.1 56).toInt ≤ 6 := aw_bd_f hs (hI73).1 (by decide) rfl
                    have b78 : 0 ≤ (S66.1 30).toInt ∧ (S66.1 30).toInt ≤ 1001 := aw_bd_f hs (hI73).1 (by decide) rfl
                    exact ihL56_21 S66 lv64 (x48) ((Int32.ofInt 1)) hlv64_0 hlv64_1 hlv64_3 ⟨(hI73).1, hG66⟩ fr72 (by omega) (by first | omega | decide) (by rw [show (S66.2.2.1 25) = S46.2.2.1 25 from ((fd66.2 25 (by decide)).1.trans rfl), show (S66.2.2.1 15) = S46.2.2.1 15 from ((fd66.2 15 (by decide)).1.trans rfl), show ((S66.1 56)).toInt = (S46.1 56).toInt from (by omega)]; exact TK75) (show _ ≤ ((S66.1 30)).toInt by omega) (show (1001 - ((S66.1 30)).toInt).toNat < _ by omega)
                · have q74 : (1 : Int) = (0 : Int) := aw_t_ne (a := (1 : Int)) (b := (0 : Int)) hb66 rfl q74
                  exfalso
                  omega
          · skip
            clear pb61
            show aw_W _ _ _ _ 164 lv59 [.int b61] _ _
            refine aw_t0 (j := 4) aj_d261 rfl (by decide) rfl ?_
            obtain ⟨lv79, elv79⟩ : ∃ l, l = aj_set1 lv59 4 (.int b61) := ⟨_, rfl⟩
            rw [← elv79]
            have hlv79_0 : aj_lv lv79 0 = some (.ref 117) := cw_e1 elv79 hlv59_0 (by decide) (Or.inl (by decide))
            have hlv79_1 : aj_lv lv79 1 = some (.int x48) := cw_e1 elv79 hlv59_1 (by decide) (Or.inl (by decide))
            have hlv79_3 : aj_lv lv79 3 = some (.int (Int32.ofInt 1)) := cw_e1 elv79 hlv59_3 (by decide) (Or.inr rfl)
            have hlv79_4 : aj_lv lv79 4 = some (.int b61) := by rw [elv79]; exact ak_set1_eq _ _ _
            show aw_W _ _ _ _ 166 lv79 [] _ _
            refine aw_l0 aj_d261 rfl rfl hlv79_4 ?_
            refine aw_z (tgt := 180) aj_d261 rfl rfl (fun q80 => ?_) (fun q80 => ?_)
            · have q80 : (0 : Int) = (0 : Int) := aw_t_eq (a := (0 : Int)) (b := (0 : Int)) hb61 rfl q80
              refine aw_n aj_d261 rfl rfl ?_
              refine aw_l0 aj_d261 rfl rfl hlv79_4 ?_
              refine aw_z (tgt := 183) aj_d261 rfl rfl (fun q81 => ?_) (fun q81 => ?_)
              · have q81 : (0 : Int) = (0 : Int) := aw_t_eq (a := (0 : Int)) (b := (0 : Int)) hb61 rfl q81
                refine aw_l0 aj_d261 rfl rfl hlv79_3 ?_
                refine aw_z (tgt := 194) aj_d261 rfl rfl (fun q82 => ?_) (fun q82 => ?_)
                · have q82 : (1 : Int) = (0 : Int) := aw_t_eq (a := (1 : Int)) (b := (0 : Int)) rfl rfl q82
                  exfalso
                  omega
                · have q82 : (1 : Int) ≠ (0 : Int) := aw_t_eq (a := (1 : Int)) (b := (0 : Int)) rfl rfl q82
                  refine aw_l2 aj_d261 rfl rfl hlv79_0 ?_
                  refine aw_g hU.1 aj_d261 rfl rfl (by decide) (v := .ref 132) rfl ?_
                  refine aw_l0 aj_d261 rfl rfl hlv79_1 ?_
                  refine aw_n aj_d261 rfl rfl ?_
                  refine aw_st (k := 15) hU.1 aj_d261 (Or.inl ⟨rfl, rfl⟩) rfl (by decide) (by decide) rfl (a := x48.toInt) rfl (by omega) (by omega) ?_
                  have hI83 := aw_I_a (aw_UV hU aw_Gs_sm) (k := 15) (j := (x48.toInt).toNat) (v := aj_nar 0 (Int32.ofInt (-1))) hI54 (by decide) (by decide) (by decide) rfl (by decide) (by decide) rfl (aw_bp (a := (-1 : Int)) rfl (by omega) (by omega))
                  have fr84 := aw_fr_a (k := 15) (j := (x48.toInt).toNat) (v := aj_nar 0 (Int32.ofInt (-1))) (by decide) fr53
                  refine aw_l2 aj_d261 rfl rfl hlv79_0 ?_
                  refine aw_n aj_d261 rfl rfl ?_
                  refine aw_k hU.1 aj_d261 rfl rfl [_] rfl rfl rfl (Nat.le_of_ble_eq_true rfl) (aw_toK hU aw_Gs_G (con := ac_c219_41) (by omega) (ar_219_41 hU.2.1 (aw_SPc hU.2.2 aw_Gs_G) aw_kpc (arc_214b hU) (arc_215 hU)) ⟨(hI83).1, (aw_G_sm hI83.2 hI52.2)⟩ ⟨(aw_g117 hU.2.2), (cw_gw (a := (41 : Int)) rfl (by omega) (by omega)), trivial⟩ (fun e he => nomatch he)) ?_
                  rintro r85 S85 ⟨hr85, hJ85, fc85, po85, -⟩
                  have hT85 := hJ85.1
                  replace fc85 := aw_fr_sub (F' := [24, 25, 26, 27, 28, 29, 30, 31]) (A' := []) (by decide) (by decide) fc85
                  rcases ar_bool hU (hI83).1 hT85 hr85 po85 with ⟨b85, rfl, hb85, cf85⟩ | ⟨b85, rfl, hb85, ck85, gq85⟩
                  · skip
                    have cf85 : (S46.1 30).toInt + 0 ≤ (S85.1 30).toInt := cf85
                    have fr86 := aw_fr_tr fr84 (aw_fr_sub (F := [24, 25, 26, 27, 28, 29, 30, 31]) (A := []) (by decide) (by decide) fc85)
                    have hI87 : aw_I s h (aw_sm S85) S85 := ⟨hT85, aw_sm_rf⟩
                    show aw_W _ _ _ _ 200 lv79 [.int b85] _ _
                    refine aw_e aj_d261 rfl (cw_irb rfl (by omega)) ?_
                    have b88 : 0 ≤ (S85.1 30).toInt ∧ (S85.1 30).toInt ≤ 1001 := aw_bd_f hs (hI87).1 (by decide) rfl
                    exact ⟨(hI87).1, fr86, Or.inl ⟨_, rfl, hb85, hJ85.2, (show _ ≤ ((S85.1 30)).toInt by omega)⟩⟩
                  · skip
                    have ck85 : (S46.1 30).toInt + 1 ≤ (S85.1 30).toInt := ck85
                    have fr89 := aw_fr_tr fr84 (aw_fr_sub (F := [24, 25, 26, 27, 28, 29, 30, 31]) (A := []) (by decide) (by decide) fc85)
                    have hI90 : aw_I s h (aw_sm S85) S85 := ⟨hT85, aw_sm_rf⟩
                    show aw_W _ _ _ _ 200 lv79 [.int b85] _ _
                    refine aw_e aj_d261 rfl (cw_irb rfl (by omega)) ?_
                    have b91 : 0 ≤ (S85.1 30).toInt ∧ (S85.1 30).toInt ≤ 1001 := aw_bd_f hs (hI90).1 (by decide) rfl
                    exact ⟨(hI90).1, fr89, Or.inr ⟨_, rfl, hb85, hJ85.2, (show _ + 1 ≤ ((S85.1 30)).toInt by omega), trivial⟩⟩
              · have q81 : (0 : Int) ≠ (0 : Int) := aw_t_eq (a := (0 : Int)) (b := (0 : Int)) hb61 rfl q81
                exfalso
                omega
            · have q80 : (0 : Int) ≠ (0 : Int) := aw_t_eq (a := (0 : Int)) (b := (0 : Int)) hb61 rfl q80
              exfalso
              omega
        · have q60 : (1 : Int) = (0 : Int) := aw_t_ne (a := (1 : Int)) (b := (0 : Int)) rfl rfl q60
          exfalso
          omega
      · have q58 : x49.toInt = (0 : Int) := aw_t_ne (a := x49.toInt) (b := (0 : Int)) rfl rfl q58
        refine aw_l0 aj_d261 rfl rfl hlv47_5 ?_
        refine aw_z (tgt := 131) aj_d261 rfl rfl (fun q92 => ?_) (fun q92 => ?_)
        · have q92 : x50.toInt ≥ (0 : Int) := aw_t_ge (a := x50.toInt) (b := (0 : Int)) rfl rfl q92
          refine aw_n aj_d261 rfl rfl ?_
          refine aw_t0 (j := 3) aj_d261 rfl (by decide) rfl ?_
          obtain ⟨lv93, elv93⟩ : ∃ l, l = aj_set1 lv47 3 (.int (Int32.ofInt 0)) := ⟨_, rfl⟩
          rw [← elv93]
          have hlv93_0 : aj_lv lv93 0 = some (.ref 117) := cw_e1 elv93 hlv47_0 (by decide) (Or.inl (by decide))
          have hlv93_1 : aj_lv lv93 1 = some (.int x48) := cw_e1 elv93 hlv47_1 (by decide) (Or.inl (by decide))
          have hlv93_5 : aj_lv lv93 5 = some (.int x50) := cw_e1 elv93 hlv47_5 (by decide) (Or.inl (by decide))
          have hlv93_3 : aj_lv lv93 3 = some (.int (Int32.ofInt 0)) := by rw [elv93]; exact ak_set1_eq _ _ _
          show aw_W _ _ _ _ 133 lv93 [] _ _
          refine aw_l0 aj_d261 rfl rfl hlv93_3 ?_
          refine aw_z (tgt := 158) aj_d261 rfl rfl (fun q94 => ?_) (fun q94 => ?_)
          · have q94 : (0 : Int) ≠ (0 : Int) := aw_t_ne (a := (0 : Int)) (b := (0 : Int)) rfl rfl q94
            exfalso
            omega
          · have q94 : (0 : Int) = (0 : Int) := aw_t_ne (a := (0 : Int)) (b := (0 : Int)) rfl rfl q94
            have pg := ar_TK_le TK75
            have bc6 := aw_bd_a hs hI54.1 (k := 15) (j := (x48.toInt).toNat) (by decide) (by decide) rfl (by decide) rfl (by omega)
            have pg6 : (S46.1 56).toInt < 6 := by
              by_cases z : (S46.1 56).toInt < 6
              · exact z
              · exfalso
                have bq := ar_pig6 TK75 (by omega) (by omega) (fun j hj => nb75 (by omega) (by omega) j (by omega)) cb75
                omega
            refine aw_l2 aj_d261 rfl rfl hlv93_0 ?_
            refine aw_g hU.1 aj_d261 rfl rfl (by decide) (v := .ref 142) rfl ?_
            refine aw_l2 aj_d261 rfl rfl hlv93_0 ?_
            refine aw_g hU.1 aj_d261 rfl rfl (by decide) (v := .int (S46.1 56)) rfl ?_
            refine aw_l0 aj_d261 rfl rfl hlv93_5 ?_
            refine aw_st (k := 25) hU.1 aj_d261 (Or.inl ⟨rfl, rfl⟩) rfl (by decide) (by decide) rfl (a := (S46.1 56).toInt) rfl (by omega) (by omega) ?_
            have hI95 := aw_I_a (aw_UV hU aw_Gs_sm) (k := 25) (j := ((S46.1 56).toInt).toNat) (v := aj_nar 0 x50) hI54 (by decide) (by decide) (by decide) rfl (by decide) (by decide) rfl (aw_bp (a := x50.toInt) rfl (by omega) (by omega))
            have fr96 := aw_fr_a (k := 25) (j := ((S46.1 56).toInt).toNat) (v := aj_nar 0 x50) (by decide) fr53
            refine aw_l2 aj_d261 rfl rfl hlv93_0 ?_
            refine aw_n aj_d261 rfl rfl ?_
            refine aw_g hU.1 aj_d261 rfl rfl (by decide) (v := .int (S46.1 56)) rfl ?_
            refine aw_n aj_d261 rfl rfl ?_
            refine aw_add aj_d261 rfl (a := (S46.1 56).toInt) (b := (1 : Int)) rfl rfl (by omega) (by omega) (fun x97 ex97 => ?_)
            refine aw_p hU.1 aj_d261 rfl rfl (by decide) rfl ?_
            have hI98 := aw_I_f (aw_UV hU aw_Gs_sm) (k := 56) (v := x97) hI95 (by decide) (by decide) rfl (aw_bp (a := x97.toInt) rfl (by omega) (by omega))
            have fr99 := aw_fr_f (k := 56) (v := x97) (by decide) fr96
            have TK100 : ar_TK (((aw_wf (aw_wa S46 25 ((S46.1 56).toInt).toNat (aj_nar 0 x50)) 56 x97)).2.2.1 25) ((((aw_wf (aw_wa S46 25 ((S46.1 56).toInt).toNat (aj_nar 0 x50)) 56 x97)).1 56).toInt).toNat (((aw_wf (aw_wa S46 25 ((S46.1 56).toInt).toNat (aj_nar 0 x50)) 56 x97)).2.2.1 15 (x48.toInt).toNat).toInt := by
              show ar_TK (upd (S46.2.2.1 25) ((S46.1 56).toInt).toNat x50) ((x97).toInt).toNat (S46.2.2.1 15 (x48.toInt).toNat).toInt
              rw [show ((x97).toInt).toNat = ((S46.1 56).toInt).toNat + 1 by omega]
              exact ar_TK_push TK75 (by omega) (fun j hj => nb75 (by omega) (by omega) j (by omega))
            refine aw_l2 aj_d261 rfl rfl hlv93_0 ?_
            refine aw_n aj_d261 rfl rfl ?_
            refine aw_k hU.1 aj_d261 rfl rfl [_] rfl rfl rfl (Nat.le_of_ble_eq_true rfl) (ar_isSign hU (by omega) (b := (44 : Int)) rfl) ?_
            have b103 : 0 ≤ (S46.1 26).toInt ∧ (S46.1 26).toInt ≤ 5 := aw_bd_f hs (hI54).1 (by decide) rfl
            rintro _ S102 ⟨eS102, b101, rfl, kb101⟩
            rw [eS102]
            rcases kb101 with ⟨hb101, pb101, qb101⟩ | ⟨hb101, pb101⟩
            · skip
              have pb101 : ((S46.1 26)).toInt = 3 := pb101
              have qb101 : ((S46.1 29)).toInt = (44 : Int) := qb101
              show aw_W _ _ _ _ 164 lv93 [.int b101] _ _
              refine aw_t0 (j := 4) aj_d261 rfl (by decide) rfl ?_
              obtain ⟨lv104, elv104⟩ : ∃ l, l = aj_set1 lv93 4 (.int b101) := ⟨_, rfl⟩
              rw [← elv104]
              have hlv104_0 : aj_lv lv104 0 = some (.ref 117) := cw_e1 elv104 hlv93_0 (by decide) (Or.inl (by decide))
              have hlv104_1 : aj_lv lv104 1 = some (.int x48) := cw_e1 elv104 hlv93_1 (by decide) (Or.inl (by decide))
              have hlv104_3 : aj_lv lv104 3 = some (.int (Int32.ofInt 0)) := cw_e1 elv104 hlv93_3 (by decide) (Or.inr rfl)
              have hlv104_4 : aj_lv lv104 4 = some (.int b101) := by rw [elv104]; exact ak_set1_eq _ _ _
              show aw_W _ _ _ _ 166 lv104 [] _ _
              refine aw_l0 aj_d261 rfl rfl hlv104_4 ?_
              refine aw_z (tgt := 180) aj_d261 rfl rfl (fun q105 => ?_) (fun q105 => ?_)
              · have q105 : (1 : Int) = (0 : Int) := aw_t_eq (a := (1 : Int)) (b := (0 : Int)) hb101 rfl q105
                exfalso
                omega
              · have q105 : (1 : Int) ≠ (0 : Int) := aw_t_eq (a := (1 : Int)) (b := (0 : Int)) hb101 rfl q105
                refine aw_l2 aj_d261 rfl rfl hlv104_0 ?_
                refine aw_k hU.1 aj_d261 rfl rfl [] rfl rfl rfl (Nat.le_of_ble_eq_true rfl) (ar_pass hU (hI98).1 (aw_G_sm hI98.2 hI52.2) (by omega) (show ((S46.1 26)).toInt ≠ 0 by omega) (show ¬ (((S46.1 26)).toInt = 3 ∧ ((S46.1 29)).toInt = 63) by omega) (show ((S46.1 26)).toInt = 4 → ((S46.1 29)).toInt = 3 ∨ 6 ≤ ((S46.1 29)).toInt by omega)) ?_
                rintro _ S106 ⟨hT106, fc106, ⟨b106, rfl, hb106, hG106, fd106, hz106⟩ | ⟨b106, rfl, hb106, hG106, ck106, fd106, cj106⟩⟩
                · skip
                  have fr107 := aw_fr_tr fr99 (aw_fr_sub (F := [24, 25, 31]) (A := []) (by decide) (by decide) fd106)
                  have hI108 : aw_I s h (aw_sm S106) S106 := ⟨hT106, aw_sm_rf⟩
                  show aw_W _ _ _ _ 175 lv104 [.int b106] _ _
                  refine aw_z (tgt := 180) aj_d261 rfl rfl (fun q109 => ?_) (fun q109 => ?_)
                  · have q109 : (0 : Int) ≠ (0 : Int) := aw_t_ne (a := (0 : Int)) (b := (0 : Int)) hb106 rfl q109
                    exfalso
                    omega
                  · have q109 : (0 : Int) = (0 : Int) := aw_t_ne (a := (0 : Int)) (b := (0 : Int)) hb106 rfl q109
                    refine aw_n aj_d261 rfl rfl ?_
                    refine aw_e aj_d261 rfl rfl ?_
                    have c110 : (S106.1 30).toInt = (S46.1 30).toInt := (congrArg Int32.toInt (fd106.1 30 (by decide)).1).trans rfl
                    have b111 : 0 ≤ (S106.1 30).toInt ∧ (S106.1 30).toInt ≤ 1001 := aw_bd_f hs (hI108).1 (by decide) rfl
                    exact ⟨(hI108).1, fr107, Or.inl ⟨_, rfl, rfl, hG106, (show _ ≤ ((S106.1 30)).toInt by omega)⟩⟩
                · skip
                  have cj106 : (S106.1 30).toInt = ((S46.1 30)).toInt + 1 := cj106
                  have TK106 : ar_TK (S106.2.2.1 25) ((S106.1 56).toInt).toNat (S106.2.2.1 15 (x48.toInt).toNat).toInt := by
                    rw [(fd106.2 25 (by decide)).1, (fd106.2 15 (by decide)).1, (fd106.1 56 (by decide)).1]
                    exact TK100
                  have fr112 := aw_fr_tr fr99 (aw_fr_sub (F := [26, 27, 28, 29, 30]) (A := []) (by decide) (by decide) fd106)
                  have hI113 : aw_I s h (aw_sm S106) S106 := ⟨hT106, aw_sm_rf⟩
                  show aw_W _ _ _ _ 175 lv104 [.int b106] _ _
                  refine aw_z (tgt := 180) aj_d261 rfl rfl (fun q114 => ?_) (fun q114 => ?_)
                  · have q114 : (1 : Int) ≠ (0 : Int) := aw_t_ne (a := (1 : Int)) (b := (0 : Int)) hb106 rfl q114
                    refine aw_n aj_d261 rfl rfl ?_
                    refine aw_l0 aj_d261 rfl rfl hlv104_4 ?_
                    refine aw_z (tgt := 183) aj_d261 rfl rfl (fun q115 => ?_) (fun q115 => ?_)
                    · have q115 : (1 : Int) = (0 : Int) := aw_t_eq (a := (1 : Int)) (b := (0 : Int)) hb101 rfl q115
                      exfalso
                      omega
                    · have q115 : (1 : Int) ≠ (0 : Int) := aw_t_eq (a := (1 : Int)) (b := (0 : Int)) hb101 rfl q115
                      have c116 : (S106.1 56).toInt = x97.toInt := (congrArg Int32.toInt (fd106.1 56 (by decide)).1).trans rfl
                      have b117 : 0 ≤ (S106.1 56).toInt ∧ (S106.1 56).toInt ≤ 6 := aw_bd_f hs (hI113).1 (by decide) rfl
                      have b118 : 0 ≤ (S106.1 30).toInt ∧ (S106.1 30).toInt ≤ 1001 := aw_bd_f hs (hI113).1 (by decide) rfl
                      exact ihL56_21 S106 lv104 (x48) ((Int32.ofInt 0)) hlv104_0 hlv104_1 hlv104_3 ⟨(hI113).1, hG106⟩ fr112 (by omega) (by first | omega | decide) TK106 (show _ ≤ ((S106.1 30)).toInt by omega) (show (1001 - ((S106.1 30)).toInt).toNat < _ by omega)
                  · have q114 : (1 : Int) = (0 : Int) := aw_t_ne (a := (1 : Int)) (b := (0 : Int)) hb106 rfl q114
                    exfalso
                    omega
            · skip
              clear pb101
              show aw_W _ _ _ _ 164 lv93 [.int b101] _ _
              refine aw_t0 (j := 4) aj_d261 rfl (by decide) rfl ?_
              obtain ⟨lv119, elv119⟩ : ∃ l, l = aj_set1 lv93 4 (.int b101) := ⟨_, rfl⟩
              rw [← elv119]
              have hlv119_0 : aj_lv lv119 0 = some (.ref 117) := cw_e1 elv119 hlv93_0 (by decide) (Or.inl (by decide))
              have hlv119_1 : aj_lv lv119 1 = some (.int x48) := cw_e1 elv119 hlv93_1 (by decide) (Or.inl (by decide))
              have hlv119_3 : aj_lv lv119 3 = some (.int (Int32.ofInt 0)) := cw_e1 elv119 hlv93_3 (by decide) (Or.inr rfl)
              have hlv119_4 : aj_lv lv119 4 = some (.int b101) := by rw [elv119]; exact ak_set1_eq _ _ _
              show aw_W _ _ _ _ 166 lv119 [] _ _
              refine aw_l0 aj_d261 rfl rfl hlv119_4 ?_
              refine aw_z (tgt := 180) aj_d261 rfl rfl (fun q120 => ?_) (fun q120 => ?_)
              · have q120 : (0 : Int) = (0 : Int) := aw_t_eq (a := (0 : Int)) (b := (0 : Int)) hb101 rfl q120
                refine aw_n aj_d261 rfl rfl ?_
                refine aw_l0 aj_d261 rfl rfl hlv119_4 ?_
                refine aw_z (tgt := 183) aj_d261 rfl rfl (fun q121 => ?_) (fun q121 => ?_)
                · have q121 : (0 : Int) = (0 : Int) := aw_t_eq (a := (0 : Int)) (b := (0 : Int)) hb101 rfl q121
                  refine aw_l0 aj_d261 rfl rfl hlv119_3 ?_
                  refine aw_z (tgt := 194) aj_d261 rfl rfl (fun q122 => ?_) (fun q122 => ?_)
                  · have q122 : (0 : Int) = (0 : Int) := aw_t_eq (a := (0 : Int)) (b := (0 : Int)) rfl rfl q122
                    refine aw_l2 aj_d261 rfl rfl hlv119_0 ?_
                    refine aw_n aj_d261 rfl rfl ?_
                    refine aw_k hU.1 aj_d261 rfl rfl [_] rfl rfl rfl (Nat.le_of_ble_eq_true rfl) (aw_toK hU aw_Gs_G (con := ac_c219_41) (by omega) (ar_219_41 hU.2.1 (aw_SPc hU.2.2 aw_Gs_G) aw_kpc (arc_214b hU) (arc_215 hU)) ⟨(hI98).1, (aw_G_sm hI98.2 hI52.2)⟩ ⟨(aw_g117 hU.2.2), (cw_gw (a := (41 : Int)) rfl (by omega) (by omega)), trivial⟩ (fun e he => nomatch he)) ?_
                    rintro r123 S123 ⟨hr123, hJ123, fc123, po123, -⟩
                    have hT123 := hJ123.1
                    replace fc123 := aw_fr_sub (F' := [24, 25, 26, 27, 28, 29, 30, 31]) (A' := []) (by decide) (by decide) fc123
                    rcases ar_bool hU (hI98).1 hT123 hr123 po123 with ⟨b123, rfl, hb123, cf123⟩ | ⟨b123, rfl, hb123, ck123, gq123⟩
                    · skip
                      have cf123 : (S46.1 30).toInt + 0 ≤ (S123.1 30).toInt := cf123
                      have fr124 := aw_fr_tr fr99 (aw_fr_sub (F := [24, 25, 26, 27, 28, 29, 30, 31]) (A := []) (by decide) (by decide) fc123)
                      have hI125 : aw_I s h (aw_sm S123) S123 := ⟨hT123, aw_sm_rf⟩
                      show aw_W _ _ _ _ 200 lv119 [.int b123] _ _
                      refine aw_e aj_d261 rfl (cw_irb rfl (by omega)) ?_
                      have b126 : 0 ≤ (S123.1 30).toInt ∧ (S123.1 30).toInt ≤ 1001 := aw_bd_f hs (hI125).1 (by decide) rfl
                      exact ⟨(hI125).1, fr124, Or.inl ⟨_, rfl, hb123, hJ123.2, (show _ ≤ ((S123.1 30)).toInt by omega)⟩⟩
                    · skip
                      have ck123 : (S46.1 30).toInt + 1 ≤ (S123.1 30).toInt := ck123
                      have fr127 := aw_fr_tr fr99 (aw_fr_sub (F := [24, 25, 26, 27, 28, 29, 30, 31]) (A := []) (by decide) (by decide) fc123)
                      have hI128 : aw_I s h (aw_sm S123) S123 := ⟨hT123, aw_sm_rf⟩
                      show aw_W _ _ _ _ 200 lv119 [.int b123] _ _
                      refine aw_e aj_d261 rfl (cw_irb rfl (by omega)) ?_
                      have b129 : 0 ≤ (S123.1 30).toInt ∧ (S123.1 30).toInt ≤ 1001 := aw_bd_f hs (hI128).1 (by decide) rfl
                      exact ⟨(hI128).1, fr127, Or.inr ⟨_, rfl, hb123, hJ123.2, (show _ + 1 ≤ ((S123.1 30)).toInt by omega), trivial⟩⟩
                  · have q122 : (0 : Int) ≠ (0 : Int) := aw_t_eq (a := (0 : Int)) (b := (0 : Int)) rfl rfl q122
                    exfalso
                    omega
                · have q121 : (0 : Int) ≠ (0 : Int) := aw_t_eq (a := (0 : Int)) (b := (0 : Int)) hb101 rfl q121
                  exfalso
                  omega
              · have q120 : (0 : Int) ≠ (0 : Int) := aw_t_eq (a := (0 : Int)) (b := (0 : Int)) hb101 rfl q120
                exfalso
                omega
        · have q92 : x50.toInt < (0 : Int) := aw_t_ge (a := x50.toInt) (b := (0 : Int)) rfl rfl q92
          refine aw_n aj_d261 rfl rfl ?_
          refine aw_n aj_d261 rfl rfl ?_
          refine aw_t0 (j := 3) aj_d261 rfl (by decide) rfl ?_
          obtain ⟨lv130, elv130⟩ : ∃ l, l = aj_set1 lv47 3 (.int (Int32.ofInt 1)) := ⟨_, rfl⟩
          rw [← elv130]
          have hlv130_0 : aj_lv lv130 0 = some (.ref 117) := cw_e1 elv130 hlv47_0 (by decide) (Or.inl (by decide))
          have hlv130_1 : aj_lv lv130 1 = some (.int x48) := cw_e1 elv130 hlv47_1 (by decide) (Or.inl (by decide))
          have hlv130_5 : aj_lv lv130 5 = some (.int x50) := cw_e1 elv130 hlv47_5 (by decide) (Or.inl (by decide))
          have hlv130_3 : aj_lv lv130 3 = some (.int (Int32.ofInt 1)) := by rw [elv130]; exact ak_set1_eq _ _ _
          show aw_W _ _ _ _ 133 lv130 [] _ _
          refine aw_l0 aj_d261 rfl rfl hlv130_3 ?_
          refine aw_z (tgt := 158) aj_d261 rfl rfl (fun q131 => ?_) (fun q131 => ?_)
          · have q131 : (1 : Int) ≠ (0 : Int) := aw_t_ne (a := (1 : Int)) (b := (0 : Int)) rfl rfl q131
            refine aw_l2 aj_d261 rfl rfl hlv130_0 ?_
            refine aw_n aj_d261 rfl rfl ?_
            refine aw_k hU.1 aj_d261 rfl rfl [_] rfl rfl rfl (Nat.le_of_ble_eq_true rfl) (ar_isSign hU (by omega) (b := (44 : Int)) rfl) ?_
            have b134 : 0 ≤ (S46.1 26).toInt ∧ (S46.1 26).toInt ≤ 5 := aw_bd_f hs (hI54).1 (by decide) rfl
            rintro _ S133 ⟨eS133, b132, rfl, kb132⟩
            rw [eS133]
            rcases kb132 with ⟨hb132, pb132, qb132⟩ | ⟨hb132, pb132⟩
            · skip
              have pb132 : ((S46.1 26)).toInt = 3 := pb132
              have qb132 : ((S46.1 29)).toInt = (44 : Int) := qb132
              show aw_W _ _ _ _ 164 lv130 [.int b132] _ _
              refine aw_t0 (j := 4) aj_d261 rfl (by decide) rfl ?_
              obtain ⟨lv135, elv135⟩ : ∃ l, l = aj_set1 lv130 4 (.int b132) := ⟨_, rfl⟩
              rw [← elv135]
              have hlv135_0 : aj_lv lv135 0 = some (.ref 117) := cw_e1 elv135 hlv130_0 (by decide) (Or.inl (by decide))
              have hlv135_1 : aj_lv lv135 1 = some (.int x48) := cw_e1 elv135 hlv130_1 (by decide) (Or.inl (by decide))
              have hlv135_3 : aj_lv lv135 3 = some (.int (Int32.ofInt 1)) := cw_e1 elv135 hlv130_3 (by decide) (Or.inr rfl)
              have hlv135_4 : aj_lv lv135 4 = some (.int b132) := by rw [elv135]; exact ak_set1_eq _ _ _
              show aw_W _ _ _ _ 166 lv135 [] _ _
              refine aw_l0 aj_d261 rfl rfl hlv135_4 ?_
              refine aw_z (tgt := 180) aj_d261 rfl rfl (fun q136 => ?_) (fun q136 => ?_)
              · have q136 : (1 : Int) = (0 : Int) := aw_t_eq (a := (1 : Int)) (b := (0 : Int)) hb132 rfl q136
                exfalso
                omega
              · have q136 : (1 : Int) ≠ (0 : Int) := aw_t_eq (a := (1 : Int)) (b := (0 : Int)) hb132 rfl q136
                refine aw_l2 aj_d261 rfl rfl hlv135_0 ?_
                refine aw_k hU.1 aj_d261 rfl rfl [] rfl rfl rfl (Nat.le_of_ble_eq_true rfl) (ar_pass hU (hI54).1 hI52.2 (by omega) (show ((S46.1 26)).toInt ≠ 0 by omega) (show ¬ (((S46.1 26)).toInt = 3 ∧ ((S46.1 29)).toInt = 63) by omega) (show ((S46.1 26)).toInt = 4 → ((S46.1 29)).toInt = 3 ∨ 6 ≤ ((S46.1 29)).toInt by omega)) ?_
                rintro _ S137 ⟨hT137, fc137, ⟨b137, rfl, hb137, hG137, fd137, hz137⟩ | ⟨b137, rfl, hb137, hG137, ck137, fd137, cj137⟩⟩
                · skip
                  have fr138 := aw_fr_tr fr53 (aw_fr_sub (F := [24, 25, 31]) (A := []) (by decide) (by decide) fd137)
                  have hI139 : aw_I s h (aw_sm S137) S137 := ⟨hT137, aw_sm_rf⟩
                  show aw_W _ _ _ _ 175 lv135 [.int b137] _ _
                  refine aw_z (tgt := 180) aj_d261 rfl rfl (fun q140 => ?_) (fun q140 => ?_)
                  · have q140 : (0 : Int) ≠ (0 : Int) := aw_t_ne (a := (0 : Int)) (b := (0 : Int)) hb137 rfl q140
                    exfalso
                    omega
                  · have q140 : (0 : Int) = (0 : Int) := aw_t_ne (a := (0 : Int)) (b := (0 : Int)) hb137 rfl q140
                    refine aw_n aj_d261 rfl rfl ?_
                    refine aw_e aj_d261 rfl rfl ?_
                    have c141 : (S137.1 30).toInt = (S46.1 30).toInt := (congrArg Int32.toInt (fd137.1 30 (by decide)).1).trans rfl
                    have b142 : 0 ≤ (S137.1 30).toInt ∧ (S137.1 30).toInt ≤ 1001 := aw_bd_f hs (hI139).1 (by decide) rfl
                    exact ⟨(hI139).1, fr138, Or.inl ⟨_, rfl, rfl, hG137, (show _ ≤ ((S137.1 30)).toInt by omega)⟩⟩
                · skip
                  have cj137 : (S137.1 30).toInt = ((S46.1 30)).toInt + 1 := cj137
                  have fr143 := aw_fr_tr fr53 (aw_fr_sub (F := [26, 27, 28, 29, 30]) (A := []) (by decide) (by decide) fd137)
                  have hI144 : aw_I s h (aw_sm S137) S137 := ⟨hT137, aw_sm_rf⟩
                  show aw_W _ _ _ _ 175 lv135 [.int b137] _ _
                  refine aw_z (tgt := 180) aj_d261 rfl rfl (fun q145 => ?_) (fun q145 => ?_)
                  · have q145 : (1 : Int) ≠ (0 : Int) := aw_t_ne (a := (1 : Int)) (b := (0 : Int)) hb137 rfl q145
                    refine aw_n aj_d261 rfl rfl ?_
                    refine aw_l0 aj_d261 rfl rfl hlv135_4 ?_
                    refine aw_z (tgt := 183) aj_d261 rfl rfl (fun q146 => ?_) (fun q146 => ?_)
                    · have q146 : (1 : Int) = (0 : Int) := aw_t_eq (a := (1 : Int)) (b := (0 : Int)) hb132 rfl q146
                      exfalso
                      omega
                    · have q146 : (1 : Int) ≠ (0 : Int) := aw_t_eq (a := (1 : Int)) (b := (0 : Int)) hb132 rfl q146
                      have c147 : (S137.1 56).toInt = (S46.1 56).toInt := (congrArg Int32.toInt (fd137.1 56 (by decide)).1).trans rfl
                      have b148 : 0 ≤ (S137.1 56).toInt ∧ (S137.1 56).toInt ≤ 6 := aw_bd_f hs (hI144).1 (by decide) rfl
                      have b149 : 0 ≤ (S137.1 30).toInt ∧ (S137.1 30).toInt ≤ 1001 := aw_bd_f hs (hI144).1 (by decide) rfl
                      exact ihL56_21 S137 lv135 (x48) ((Int32.ofInt 1)) hlv135_0 hlv135_1 hlv135_3 ⟨(hI144).1, hG137⟩ fr143 (by omega) (by first | omega | decide) (by rw [show (S137.2.2.1 25) = S46.2.2.1 25 from ((fd137.2 25 (by decide)).1.trans rfl), show (S137.2.2.1 15) = S46.2.2.1 15 from ((fd137.2 15 (by decide)).1.trans rfl), show ((S137.1 56)).toInt = (S46.1 56).toInt from (by omega)]; exact TK75) (show _ ≤ ((S137.1 30)).toInt by omega) (show (1001 - ((S137.1 30)).toInt).toNat < _ by omega)
                  · have q145 : (1 : Int) = (0 : Int) := aw_t_ne (a := (1 : Int)) (b := (0 : Int)) hb137 rfl q145
                    exfalso
                    omega
            · skip
              clear pb132
              show aw_W _ _ _ _ 164 lv130 [.int b132] _ _
              refine aw_t0 (j := 4) aj_d261 rfl (by decide) rfl ?_
              obtain ⟨lv150, elv150⟩ : ∃ l, l = aj_set1 lv130 4 (.int b132) := ⟨_, rfl⟩
              rw [← elv150]
              have hlv150_0 : aj_lv lv150 0 = some (.ref 117) := cw_e1 elv150 hlv130_0 (by decide) (Or.inl (by decide))
              have hlv150_1 : aj_lv lv150 1 = some (.int x48) := cw_e1 elv150 hlv130_1 (by decide) (Or.inl (by decide))
              have hlv150_3 : aj_lv lv150 3 = some (.int (Int32.ofInt 1)) := cw_e1 elv150 hlv130_3 (by decide) (Or.inr rfl)
              have hlv150_4 : aj_lv lv150 4 = some (.int b132) := by rw [elv150]; exact ak_set1_eq _ _ _
              show aw_W _ _ _ _ 166 lv150 [] _ _
              refine aw_l0 aj_d261 rfl rfl hlv150_4 ?_
              refine aw_z (tgt := 180) aj_d261 rfl rfl (fun q151 => ?_) (fun q151 => ?_)
              · have q151 : (0 : Int) = (0 : Int) := aw_t_eq (a := (0 : Int)) (b := (0 : Int)) hb132 rfl q151
                refine aw_n aj_d261 rfl rfl ?_
                refine aw_l0 aj_d261 rfl rfl hlv150_4 ?_
                refine aw_z (tgt := 183) aj_d261 rfl rfl (fun q152 => ?_) (fun q152 => ?_)
                · have q152 : (0 : Int) = (0 : Int) := aw_t_eq (a := (0 : Int)) (b := (0 : Int)) hb132 rfl q152
                  refine aw_l0 aj_d261 rfl rfl hlv150_3 ?_
                  refine aw_z (tgt := 194) aj_d261 rfl rfl (fun q153 => ?_) (fun q153 => ?_)
                  · have q153 : (1 : Int) = (0 : Int) := aw_t_eq (a := (1 : Int)) (b := (0 : Int)) rfl rfl q153
                    exfalso
                    omega
                  · have q153 : (1 : Int) ≠ (0 : Int) := aw_t_eq (a := (1 : Int)) (b := (0 : Int)) rfl rfl q153
                    refine aw_l2 aj_d261 rfl rfl hlv150_0 ?_
                    refine aw_g hU.1 aj_d261 rfl rfl (by decide) (v := .ref 132) rfl ?_
                    refine aw_l0 aj_d261 rfl rfl hlv150_1 ?_
                    refine aw_n aj_d261 rfl rfl ?_
                    refine aw_st (k := 15) hU.1 aj_d261 (Or.inl ⟨rfl, rfl⟩) rfl (by decide) (by decide) rfl (a := x48.toInt) rfl (by omega) (by omega) ?_
                    have hI154 := aw_I_a (aw_UV hU aw_Gs_sm) (k := 15) (j := (x48.toInt).toNat) (v := aj_nar 0 (Int32.ofInt (-1))) hI54 (by decide) (by decide) (by decide) rfl (by decide) (by decide) rfl (aw_bp (a := (-1 : Int)) rfl (by omega) (by omega))
                    have fr155 := aw_fr_a (k := 15) (j := (x48.toInt).toNat) (v := aj_nar 0 (Int32.ofInt (-1))) (by decide) fr53
                    refine aw_l2 aj_d261 rfl rfl hlv150_0 ?_
                    refine aw_n aj_d261 rfl rfl ?_
                    refine aw_k hU.1 aj_d261 rfl rfl [_] rfl rfl rfl (Nat.le_of_ble_eq_true rfl) (aw_toK hU aw_Gs_G (con := ac_c219_41) (by omega) (ar_219_41 hU.2.1 (aw_SPc hU.2.2 aw_Gs_G) aw_kpc (arc_214b hU) (arc_215 hU)) ⟨(hI154).1, (aw_G_sm hI154.2 hI52.2)⟩ ⟨(aw_g117 hU.2.2), (cw_gw (a := (41 : Int)) rfl (by omega) (by omega)), trivial⟩ (fun e he => nomatch he)) ?_
                    rintro r156 S156 ⟨hr156, hJ156, fc156, po156, -⟩
                    have hT156 := hJ156.1
                    replace fc156 := aw_fr_sub (F' := [24, 25, 26, 27, 28, 29, 30, 31]) (A' := []) (by decide) (by decide) fc156
                    rcases ar_bool hU (hI154).1 hT156 hr156 po156 with ⟨b156, rfl, hb156, cf156⟩ | ⟨b156, rfl, hb156, ck156, gq156⟩
                    · skip
                      have cf156 : (S46.1 30).toInt + 0 ≤ (S156.1 30).toInt := cf156
                      have fr157 := aw_fr_tr fr155 (aw_fr_sub (F := [24, 25, 26, 27, 28, 29, 30, 31]) (A := []) (by decide) (by decide) fc156)
                      have hI158 : aw_I s h (aw_sm S156) S156 := ⟨hT156, aw_sm_rf⟩
                      show aw_W _ _ _ _ 200 lv150 [.int b156] _ _
                      refine aw_e aj_d261 rfl (cw_irb rfl (by omega)) ?_
                      have b159 : 0 ≤ (S156.1 30).toInt ∧ (S156.1 30).toInt ≤ 1001 := aw_bd_f hs (hI158).1 (by decide) rfl
                      exact ⟨(hI158).1, fr157, Or.inl ⟨_, rfl, hb156, hJ156.2, (show _ ≤ ((S156.1 30)).toInt by omega)⟩⟩
                    · skip
                      have ck156 : (S46.1 30).toInt + 1 ≤ (S156.1 30).toInt := ck156
                      have fr160 := aw_fr_tr fr155 (aw_fr_sub (F := [24, 25, 26, 27, 28, 29, 30, 31]) (A := []) (by decide) (by decide) fc156)
                      have hI161 : aw_I s h (aw_sm S156) S156 := ⟨hT156, aw_sm_rf⟩
                      show aw_W _ _ _ _ 200 lv150 [.int b156] _ _
                      refine aw_e aj_d261 rfl (cw_irb rfl (by omega)) ?_
                      have b162 : 0 ≤ (S156.1 30).toInt ∧ (S156.1 30).toInt ≤ 1001 := aw_bd_f hs (hI161).1 (by decide) rfl
                      exact ⟨(hI161).1, fr160, Or.inr ⟨_, rfl, hb156, hJ156.2, (show _ + 1 ≤ ((S156.1 30)).toInt by omega), trivial⟩⟩
                · have q152 : (0 : Int) ≠ (0 : Int) := aw_t_eq (a := (0 : Int)) (b := (0 : Int)) hb132 rfl q152
                  exfalso
                  omega
              · have q151 : (0 : Int) ≠ (0 : Int) := aw_t_eq (a := (0 : Int)) (b := (0 : Int)) hb132 rfl q151
                exfalso
                omega
          · have q131 : (1 : Int) = (0 : Int) := aw_t_ne (a := (1 : Int)) (b := (0 : Int)) rfl rfl q131
            exfalso
            omega
    · have q57 : x51.toInt < (S46.1 56).toInt := aw_t_ge (a := x51.toInt) (b := (S46.1 56).toInt) rfl rfl q57
      refine aw_l0 aj_d261 rfl rfl hlv47_5 ?_
      refine aw_z (tgt := 112) aj_d261 rfl rfl (fun q163 => ?_) (fun q163 => ?_)
      · have q163 : x50.toInt < (0 : Int) := aw_t_lt (a := x50.toInt) (b := (0 : Int)) rfl rfl q163
        refine aw_inc aj_d261 rfl hlv47_6 (a := x51.toInt) rfl (by omega) (by omega) (by decide) (by decide) (fun x164 ex164 => ?_)
        obtain ⟨lv165, elv165⟩ : ∃ l, l = aj_set1 lv47 6 (.int x164) := ⟨_, rfl⟩
        rw [← elv165]
        have hlv165_0 : aj_lv lv165 0 = some (.ref 117) := cw_e1 elv165 hlv47_0 (by decide) (Or.inl (by decide))
        have hlv165_1 : aj_lv lv165 1 = some (.int x48) := cw_e1 elv165 hlv47_1 (by decide) (Or.inl (by decide))
        have hlv165_3 : aj_lv lv165 3 = some (.int x49) := cw_e1 elv165 hlv47_3 (by decide) (Or.inl (by decide))
        have hlv165_5 : aj_lv lv165 5 = some (.int x50) := cw_e1 elv165 hlv47_5 (by decide) (Or.inr rfl)
        have hlv165_6 : aj_lv lv165 6 = some (.int x164) := by rw [elv165]; exact ak_set1_eq _ _ _
        show aw_W _ _ _ _ 115 lv165 [] _ _
        refine aw_n aj_d261 rfl rfl ?_
        exact ihL75_44 S46 lv165 (x48) (x49) (x50) (x164) hlv165_0 hlv165_1 hlv165_3 hlv165_5 hlv165_6 ⟨(hI54).1, hI52.2⟩ fr53 (by omega) (by omega) (by omega) (by omega) TK75 (show _ ≤ ((S46.1 30)).toInt by omega) (show _ ≤ ((S46.1 30)).toInt by omega) cb75 (fun z0 z1 j hj => by
            by_cases ej : j = (x51.toInt).toNat
            · subst ej
              omega
            · exact nb75 z0 z1 j (by omega)) (show _ ≤ ((S46.1 56)).toInt by omega) (by omega)
      · have q163 : x50.toInt ≥ (0 : Int) := aw_t_lt (a := x50.toInt) (b := (0 : Int)) rfl rfl q163
        refine aw_l2 aj_d261 rfl rfl hlv47_0 ?_
        refine aw_g hU.1 aj_d261 rfl rfl (by decide) (v := .ref 142) rfl ?_
        refine aw_l0 aj_d261 rfl rfl hlv47_6 ?_
        refine aw_ld (k := 25) hU.1 aj_d261 (Or.inl ⟨rfl, rfl⟩) rfl (by decide) (by decide) rfl (a := x51.toInt) rfl (by omega) (by omega) (fun x166 ex166 => ?_)
        have bx166 : 0 ≤ x166.toInt ∧ x166.toInt ≤ 5 := by
          rw [ex166]
          exact aw_bd_a hs (hI54).1 (k := 25) (by decide) (by decide) rfl (by decide) rfl (by omega)
        refine aw_l0 aj_d261 rfl rfl hlv47_5 ?_
        refine aw_c (tgt := 112) aj_d261 rfl rfl (fun q167 => ?_) (fun q167 => ?_)
        · have q167 : x166.toInt ≠ x50.toInt := aw_t_ne (a := x166.toInt) (b := x50.toInt) rfl rfl q167
          refine aw_inc aj_d261 rfl hlv47_6 (a := x51.toInt) rfl (by omega) (by omega) (by decide) (by decide) (fun x168 ex168 => ?_)
          obtain ⟨lv169, elv169⟩ : ∃ l, l = aj_set1 lv47 6 (.int x168) := ⟨_, rfl⟩
          rw [← elv169]
          have hlv169_0 : aj_lv lv169 0 = some (.ref 117) := cw_e1 elv169 hlv47_0 (by decide) (Or.inl (by decide))
          have hlv169_1 : aj_lv lv169 1 = some (.int x48) := cw_e1 elv169 hlv47_1 (by decide) (Or.inl (by decide))
          have hlv169_3 : aj_lv lv169 3 = some (.int x49) := cw_e1 elv169 hlv47_3 (by decide) (Or.inl (by decide))
          have hlv169_5 : aj_lv lv169 5 = some (.int x50) := cw_e1 elv169 hlv47_5 (by decide) (Or.inr rfl)
          have hlv169_6 : aj_lv lv169 6 = some (.int x168) := by rw [elv169]; exact ak_set1_eq _ _ _
          show aw_W _ _ _ _ 115 lv169 [] _ _
          refine aw_n aj_d261 rfl rfl ?_
          exact ihL75_44 S46 lv169 (x48) (x49) (x50) (x168) hlv169_0 hlv169_1 hlv169_3 hlv169_5 hlv169_6 ⟨(hI54).1, hI52.2⟩ fr53 (by omega) (by omega) (by omega) (by omega) TK75 (show _ ≤ ((S46.1 30)).toInt by omega) (show _ ≤ ((S46.1 30)).toInt by omega) cb75 (fun z0 z1 j hj => by
              by_cases ej : j = (x51.toInt).toNat
              · subst ej
                have y := congrArg Int32.toInt ex166
                show (S46.2.2.1 25 (x51.toInt).toNat).toInt ≠ _
                have y2 : x166.toInt = (S46.2.2.1 25 (x51.toInt).toNat).toInt := y
                omega
              · exact nb75 z0 z1 j (by omega)) (show _ ≤ ((S46.1 56)).toInt by omega) (by omega)
        · have q167 : x166.toInt = x50.toInt := aw_t_ne (a := x166.toInt) (b := x50.toInt) rfl rfl q167
          refine aw_l2 aj_d261 rfl rfl hlv47_0 ?_
          refine aw_n aj_d261 rfl rfl ?_
          refine aw_l2 aj_d261 rfl rfl hlv47_0 ?_
          refine aw_g hU.1 aj_d261 rfl rfl (by decide) (v := .int (S46.1 34)) rfl ?_
          refine aw_k hU.1 aj_d261 rfl rfl [_, _] rfl rfl rfl (Nat.le_of_ble_eq_true rfl) (ar_tell hU (hI54).1 (by omega) (a := (3 : Int)) rfl (by omega)) ?_
          rintro _ S170 ⟨hT170, fc170, rfl, hz170, hw170⟩
          have hG170 := aw_G_tell hI52.2 fc170 hz170
          have b171 : 0 ≤ (S46.1 32).toInt ∧ (S46.1 32).toInt ≤ 1 := aw_bd_f hs (hI54).1 (by decide) rfl
          have hz170 : ((S46.1 32)).toInt = 0 → (S170.1 24).toInt ≠ 0 := hz170
          have fr172 := aw_fr_tr fr53 (aw_fr_sub (F := [24, 25]) (A := []) (by decide) (by decide) fc170)
          have hI173 : aw_I s h (aw_sm S170) S170 := ⟨hT170, aw_sm_rf⟩
          show aw_W _ _ _ _ 110 lv47 [] _ _
          refine aw_n aj_d261 rfl rfl ?_
          refine aw_t0 (j := 3) aj_d261 rfl (by decide) rfl ?_
          obtain ⟨lv174, elv174⟩ : ∃ l, l = aj_set1 lv47 3 (.int (Int32.ofInt 1)) := ⟨_, rfl⟩
          rw [← elv174]
          have hlv174_0 : aj_lv lv174 0 = some (.ref 117) := cw_e1 elv174 hlv47_0 (by decide) (Or.inl (by decide))
          have hlv174_1 : aj_lv lv174 1 = some (.int x48) := cw_e1 elv174 hlv47_1 (by decide) (Or.inl (by decide))
          have hlv174_5 : aj_lv lv174 5 = some (.int x50) := cw_e1 elv174 hlv47_5 (by decide) (Or.inl (by decide))
          have hlv174_6 : aj_lv lv174 6 = some (.int x51) := cw_e1 elv174 hlv47_6 (by decide) (Or.inl (by decide))
          have hlv174_3 : aj_lv lv174 3 = some (.int (Int32.ofInt 1)) := by rw [elv174]; exact ak_set1_eq _ _ _
          show aw_W _ _ _ _ 112 lv174 [] _ _
          refine aw_inc aj_d261 rfl hlv174_6 (a := x51.toInt) rfl (by omega) (by omega) (by decide) (by decide) (fun x175 ex175 => ?_)
          obtain ⟨lv176, elv176⟩ : ∃ l, l = aj_set1 lv174 6 (.int x175) := ⟨_, rfl⟩
          rw [← elv176]
          have hlv176_0 : aj_lv lv176 0 = some (.ref 117) := cw_e1 elv176 hlv174_0 (by decide) (Or.inl (by decide))
          have hlv176_1 : aj_lv lv176 1 = some (.int x48) := cw_e1 elv176 hlv174_1 (by decide) (Or.inl (by decide))
          have hlv176_5 : aj_lv lv176 5 = some (.int x50) := cw_e1 elv176 hlv174_5 (by decide) (Or.inr rfl)
          have hlv176_3 : aj_lv lv176 3 = some (.int (Int32.ofInt 1)) := cw_e1 elv176 hlv174_3 (by decide) (Or.inl (by decide))
          have hlv176_6 : aj_lv lv176 6 = some (.int x175) := by rw [elv176]; exact ak_set1_eq _ _ _
          show aw_W _ _ _ _ 115 lv176 [] _ _
          refine aw_n aj_d261 rfl rfl ?_
          have c177 : (S170.1 56).toInt = (S46.1 56).toInt := (congrArg Int32.toInt (fc170.1 56 (by decide)).1).trans rfl
          have b178 : 0 ≤ (S170.1 56).toInt ∧ (S170.1 56).toInt ≤ 6 := aw_bd_f hs (hI173).1 (by decide) rfl
          have c179 : (S170.1 30).toInt = (S46.1 30).toInt := (congrArg Int32.toInt (fc170.1 30 (by decide)).1).trans rfl
          have b180 : 0 ≤ (S170.1 30).toInt ∧ (S170.1 30).toInt ≤ 1001 := aw_bd_f hs (hI173).1 (by decide) rfl
          exact ihL75_44 S170 lv176 (x48) ((Int32.ofInt 1)) (x50) (x175) hlv176_0 hlv176_1 hlv176_3 hlv176_5 hlv176_6 ⟨(hI173).1, hG170⟩ fr172 (by omega) (by first | omega | decide) (by omega) (by omega) (by rw [show (S170.2.2.1 25) = S46.2.2.1 25 from ((fc170.2 25 (by decide)).1.trans rfl), show (S170.2.2.1 15) = S46.2.2.1 15 from ((fc170.2 15 (by decide)).1.trans rfl), show ((S170.1 56)).toInt = (S46.1 56).toInt from (by omega)]; exact TK75) (show _ ≤ ((S170.1 30)).toInt by omega) (show _ ≤ ((S170.1 30)).toInt by omega) (by rw [show (S170.2.2.1 15) = S46.2.2.1 15 from ((fc170.2 15 (by decide)).1.trans rfl)]; exact cb75) (fun z => absurd z (by decide)) (show _ ≤ ((S170.1 56)).toInt by omega) (by omega)
theorem ar_columns_L56_21 (hU : aw_U tb s h) (hd : 6 ≤ d + 1)  : ∀ (N : Nat) (S23 : aj_S) (lv24 : aj_V) (x25 : Int32) (x26 : Int32), (aj_lv lv24 0 = some (.ref 117)) → (aj_lv lv24 1 = some (.int x25)) → (aj_lv lv24 3 = some (.int x26)) → (aw_I s h (aw_G g) S23) → (aw_fr [24, 25, 26, 27, 28, 29, 30, 31, 33, 34, 56] [15, 25] S S23) → (20 ≤ x25.toInt ∧ x25.toInt ≤ 48) → (0 ≤ x26.toInt ∧ x26.toInt ≤ 1) → (ar_TK (S23.2.2.1 25) ((S23.1 56).toInt).toNat (S23.2.2.1 15 (x25.toInt).toNat).toInt) → ((S.1 30).toInt + 0 ≤ (S23.1 30).toInt) → (1001 - (S23.1 30).toInt).toNat < N → aw_W tb h d aj_m261 56 lv24 [] S23 ((ar_QT s h g [24, 25, 26, 27, 28, 29, 30, 31, 33, 34, 56] [15, 25] S (fun _ => True))) := by
  have hs : aw_sT s := aw_hy_sT hU.2.2
  intro N56
  induction N56 with
  | zero =>
    intro S23 lv24 x25 x26 hlv24_0 hlv24_1 hlv24_3 hI27 fr28 bx25 bx26 TK56 ck56 hm56
    omega
  | succ N56 ihL56_21 =>
    intro S23 lv24 x25 x26 hlv24_0 hlv24_1 hlv24_3 hI27 fr28 bx25 bx26 TK56 ck56 hm56
    have hI29 : aw_I s h (aw_sm S23) S23 := ⟨hI27.1, aw_sm_rf⟩
    have b30 : 0 ≤ (S23.1 30).toInt ∧ (S23.1 30).toInt ≤ 1001 := aw_bd_f hs (hI29).1 (by decide) rfl
    have b31 : 0 ≤ (S23.1 56).toInt ∧ (S23.1 56).toInt ≤ 6 := aw_bd_f hs (hI29).1 (by decide) rfl
    refine aw_l2 aj_d261 rfl rfl hlv24_0 ?_
    refine aw_k hU.1 aj_d261 rfl rfl [] rfl rfl rfl (Nat.le_of_ble_eq_true rfl) (ar_named hU (hI29).1 hI27.2 (by omega)) ?_
    rintro _ S32 ⟨hT32, fc32, ⟨b32, rfl, hb32, hG32, ck32, hz32⟩ | ⟨b32, rfl, hb32, hG32, ck32, cj32, k132, nm32⟩⟩
    · skip
      have ck32 : ((S23.1 30)).toInt ≤ (S32.1 30).toInt := ck32
      have fr33 := aw_fr_tr fr28 (aw_fr_sub (F := [24, 25, 26, 27, 28, 29, 30, 31, 33, 34]) (A := []) (by decide) (by decide) fc32)
      have hI34 : aw_I s h (aw_sm S32) S32 := ⟨hT32, aw_sm_rf⟩
      show aw_W _ _ _ _ 60 lv24 [.int b32] _ _
      refine aw_z (tgt := 65) aj_d261 rfl rfl (fun q35 => ?_) (fun q35 => ?_)
      · have q35 : (0 : Int) ≠ (0 : Int) := aw_t_ne (a := (0 : Int)) (b := (0 : Int)) hb32 rfl q35
        exfalso
        omega
      · have q35 : (0 : Int) = (0 : Int) := aw_t_ne (a := (0 : Int)) (b := (0 : Int)) hb32 rfl q35
        refine aw_n aj_d261 rfl rfl ?_
        refine aw_e aj_d261 rfl rfl ?_
        have b36 : 0 ≤ (S32.1 30).toInt ∧ (S32.1 30).toInt ≤ 1001 := aw_bd_f hs (hI34).1 (by decide) rfl
        exact ⟨(hI34).1, fr33, Or.inl ⟨_, rfl, rfl, hG32, (show _ ≤ ((S32.1 30)).toInt by omega)⟩⟩
    · skip
      have cj32 : (S32.1 30).toInt = ((S23.1 30)).toInt + 1 := cj32
      have fr37 := aw_fr_tr fr28 (aw_fr_sub (F := [24, 25, 26, 27, 28, 29, 30, 31, 33, 34]) (A := []) (by decide) (by decide) fc32)
      have hI38 : aw_I s h (aw_sm S32) S32 := ⟨hT32, aw_sm_rf⟩
      show aw_W _ _ _ _ 60 lv24 [.int b32] _ _
      refine aw_z (tgt := 65) aj_d261 rfl rfl (fun q39 => ?_) (fun q39 => ?_)
      · have q39 : (1 : Int) ≠ (0 : Int) := aw_t_ne (a := (1 : Int)) (b := (0 : Int)) hb32 rfl q39
        refine aw_l2 aj_d261 rfl rfl hlv24_0 ?_
        refine aw_l0 aj_d261 rfl rfl hlv24_1 ?_
        refine aw_k hU.1 aj_d261 rfl rfl [_] rfl rfl rfl (Nat.le_of_ble_eq_true rfl) (ar_told hU (hI38).1 hG32 (by omega) (x := x25) (by omega)) ?_
        rintro _ S40 ⟨hT40, fc40, b40, rfl, hG40, cb40, bb40⟩
        have fr41 := aw_fr_tr fr37 (aw_fr_sub (F := [24, 25]) (A := []) (by decide) (by decide) fc40)
        have hI42 : aw_I s h (aw_sm S40) S40 := ⟨hT40, aw_sm_rf⟩
        show aw_W _ _ _ _ 70 lv24 [.int b40] _ _
        refine aw_t0 (j := 5) aj_d261 rfl (by decide) rfl ?_
        obtain ⟨lv43, elv43⟩ : ∃ l, l = aj_set1 lv24 5 (.int b40) := ⟨_, rfl⟩
        rw [← elv43]
        have hlv43_0 : aj_lv lv43 0 = some (.ref 117) := cw_e1 elv43 hlv24_0 (by decide) (Or.inl (by decide))
        have hlv43_1 : aj_lv lv43 1 = some (.int x25) := cw_e1 elv43 hlv24_1 (by decide) (Or.inl (by decide))
        have hlv43_3 : aj_lv lv43 3 = some (.int x26) := cw_e1 elv43 hlv24_3 (by decide) (Or.inl (by decide))
        have hlv43_5 : aj_lv lv43 5 = some (.int b40) := by rw [elv43]; exact ak_set1_eq _ _ _
        show aw_W _ _ _ _ 72 lv43 [] _ _
        refine aw_n aj_d261 rfl rfl ?_
        refine aw_t0 (j := 6) aj_d261 rfl (by decide) rfl ?_
        obtain ⟨lv44, elv44⟩ : ∃ l, l = aj_set1 lv43 6 (.int (Int32.ofInt 0)) := ⟨_, rfl⟩
        rw [← elv44]
        have hlv44_0 : aj_lv lv44 0 = some (.ref 117) := cw_e1 elv44 hlv43_0 (by decide) (Or.inl (by decide))
        have hlv44_1 : aj_lv lv44 1 = some (.int x25) := cw_e1 elv44 hlv43_1 (by decide) (Or.inl (by decide))
        have hlv44_3 : aj_lv lv44 3 = some (.int x26) := cw_e1 elv44 hlv43_3 (by decide) (Or.inl (by decide))
        have hlv44_5 : aj_lv lv44 5 = some (.int b40) := cw_e1 elv44 hlv43_5 (by decide) (Or.inr rfl)
        have hlv44_6 : aj_lv lv44 6 = some (.int (Int32.ofInt 0)) := by rw [elv44]; exact ak_set1_eq _ _ _
        show aw_W _ _ _ _ 75 lv44 [] _ _
        have c181 : (S32.1 56).toInt = (S23.1 56).toInt := (congrArg Int32.toInt (fc32.1 56 (by decide)).1).trans rfl
        have b182 : 0 ≤ (S32.1 56).toInt ∧ (S32.1 56).toInt ≤ 6 := aw_bd_f hs (hI38).1 (by decide) rfl
        have c183 : (S40.1 56).toInt = (S23.1 56).toInt := (congrArg Int32.toInt (fc40.1 56 (by decide)).1).trans c181
        have b184 : 0 ≤ (S40.1 56).toInt ∧ (S40.1 56).toInt ≤ 6 := aw_bd_f hs (hI42).1 (by decide) rfl
        have b185 : 0 ≤ (S32.1 30).toInt ∧ (S32.1 30).toInt ≤ 1001 := aw_bd_f hs (hI38).1 (by decide) rfl
        have c186 : (S40.1 30).toInt = (S32.1 30).toInt := (congrArg Int32.toInt (fc40.1 30 (by decide)).1).trans rfl
        have b187 : 0 ≤ (S40.1 30).toInt ∧ (S40.1 30).toInt ≤ 1001 := aw_bd_f hs (hI42).1 (by decide) rfl
        exact (ar_columns_L75_44 hU hd N56 S23 x25 x26 ihL56_21 hm56) _ S40 lv44 (x25) (x26) (b40) ((Int32.ofInt 0)) hlv44_0 hlv44_1 hlv44_3 hlv44_5 hlv44_6 ⟨(hI42).1, hG40⟩ fr41 (by omega) (by omega) (by omega) (by first | omega | decide) (by rw [show (S40.2.2.1 25) = S23.2.2.1 25 from ((fc40.2 25 (by decide)).1.trans ((fc32.2 25 (by decide)).1.trans rfl)), show (S40.2.2.1 15) = S23.2.2.1 15 from ((fc40.2 15 (by decide)).1.trans ((fc32.2 15 (by decide)).1.trans rfl)), show ((S40.1 56)).toInt = (S23.1 56).toInt from (by omega)]; exact TK56) (show _ ≤ ((S40.1 30)).toInt by omega) (show _ ≤ ((S40.1 30)).toInt by omega) (by rw [show (S40.2.2.1 15) = S32.2.2.1 15 from (fc40.2 15 (by decide)).1]; rcases cb40 with z | z <;> omega) (fun _ _ j hj => absurd hj (Nat.not_lt_zero _)) (show (0 : Int) ≤ ((S40.1 56)).toInt by omega) (Nat.lt_succ_self _)
      · have q39 : (1 : Int) = (0 : Int) := aw_t_ne (a := (1 : Int)) (b := (0 : Int)) hb32 rfl q39
        exfalso
        omega
theorem ar_columns_L75_231 (hU : aw_U tb s h) (hd : 6 ≤ d + 1) (N56 : Nat) (S210 : aj_S) (x212 : Int32) (x213 : Int32) (ihL56_208 : ∀ (S210 : aj_S) (lv211 : aj_V) (x212 : Int32) (x213 : Int32), (aj_lv lv211 0 = some (.ref 117)) → (aj_lv lv211 1 = some (.int x212)) → (aj_lv lv211 3 = some (.int x213)) → (aw_I s h (aw_G g) S210) → (aw_fr [24, 25, 26, 27, 28, 29, 30, 31, 33, 34, 56] [15, 25] S S210) → (20 ≤ x212.toInt ∧ x212.toInt ≤ 48) → (0 ≤ x213.toInt ∧ x213.toInt ≤ 1) → (ar_TK (S210.2.2.1 25) ((S210.1 56).toInt).toNat (S210.2.2.1 15 (x212.toInt).toNat).toInt) → ((S.1 30).toInt + 0 ≤ (S210.1 30).toInt) → (1001 - (S210.1 30).toInt).toNat < N56 → aw_W tb h d aj_m261 56 lv211 [] S210 ((ar_QT s h g [24, 25, 26, 27, 28, 29, 30, 31, 33, 34, 56] [15, 25] S (fun _ => True)))) (hm56 : (1001 - (S210.1 30).toInt).toNat < N56 + 1) : ∀ (N : Nat) (S233 : aj_S) (lv234 : aj_V) (x235 : Int32) (x236 : Int32) (x237 : Int32) (x238 : Int32), (aj_lv lv234 0 = some (.ref 117)) → (aj_lv lv234 1 = some (.int x235)) → (aj_lv lv234 3 = some (.int x236)) → (aj_lv lv234 5 = some (.int x237)) → (aj_lv lv234 6 = some (.int x238)) → (aw_I s h (aw_G g) S233) → (aw_fr [24, 25, 26, 27, 28, 29, 30, 31, 33, 34, 56] [15, 25] S S233) → (20 ≤ x235.toInt ∧ x235.toInt ≤ 48) → (0 ≤ x236.toInt ∧ x236.toInt ≤ 1) → ((-1) ≤ x237.toInt ∧ x237.toInt ≤ 5) → (0 ≤ x238.toInt ∧ x238.toInt ≤ 6) → (ar_TK (S233.2.2.1 25) ((S233.1 56).toInt).toNat (S233.2.2.1 15 (x235.toInt).toNat).toInt) → ((S.1 30).toInt + 1 ≤ (S233.1 30).toInt) → ((S210.1 30).toInt + 1 ≤ (S233.1 30).toInt) → (x237.toInt < (S233.2.2.1 15 (x235.toInt).toNat).toInt ∨ x237.toInt = -1) → (x236.toInt = 0 → 0 ≤ x237.toInt → ∀ j, j < (x238.toInt).toNat → (S233.2.2.1 25 j).toInt ≠ x237.toInt) → (x238.toInt ≤ (S233.1 56).toInt) → (6 - x238.toInt).toNat < N → aw_W tb h d aj_m261 75 lv234 [] S233 ((ar_QT s h g [24, 25, 26, 27, 28, 29, 30, 31, 33, 34, 56] [15, 25] S (fun _ => True))) := by
  have hs : aw_sT s := aw_hy_sT hU.2.2
  intro N75
  induction N75 with
  | zero =>
    intro S233 lv234 x235 x236 x237 x238 hlv234_0 hlv234_1 hlv234_3 hlv234_5 hlv234_6 hI239 fr240 bx235 bx236 bx237 bx238 TK75 ck75 cA75 cb75 nb75 k75 hm75
    omega
  | succ N75 ihL75_231 =>
    intro S233 lv234 x235 x236 x237 x238 hlv234_0 hlv234_1 hlv234_3 hlv234_5 hlv234_6 hI239 fr240 bx235 bx236 bx237 bx238 TK75 ck75 cA75 cb75 nb75 k75 hm75
    have hI241 : aw_I s h (aw_sm S233) S233 := ⟨hI239.1, aw_sm_rf⟩
    have b242 : 0 ≤ (S233.1 30).toInt ∧ (S233.1 30).toInt ≤ 1001 := aw_bd_f hs (hI241).1 (by decide) rfl
    have b243 : 0 ≤ (S233.1 56).toInt ∧ (S233.1 56).toInt ≤ 6 := aw_bd_f hs (hI241).1 (by decide) rfl
    refine aw_l0 aj_d261 rfl rfl hlv234_6 ?_
    refine aw_l2 aj_d261 rfl rfl hlv234_0 ?_
    refine aw_g hU.1 aj_d261 rfl rfl (by decide) (v := .int (S233.1 56)) rfl ?_
    refine aw_c (tgt := 118) aj_d261 rfl rfl (fun q244 => ?_) (fun q244 => ?_)
    · have q244 : x238.toInt ≥ (S233.1 56).toInt := aw_t_ge (a := x238.toInt) (b := (S233.1 56).toInt) rfl rfl q244
      refine aw_l0 aj_d261 rfl rfl hlv234_3 ?_
      refine aw_z (tgt := 127) aj_d261 rfl rfl (fun q245 => ?_) (fun q245 => ?_)
      · have q245 : x236.toInt ≠ (0 : Int) := aw_t_ne (a := x236.toInt) (b := (0 : Int)) rfl rfl q245
        refine aw_n aj_d261 rfl rfl ?_
        refine aw_n aj_d261 rfl rfl ?_
        refine aw_t0 (j := 3) aj_d261 rfl (by decide) rfl ?_
        obtain ⟨lv246, elv246⟩ : ∃ l, l = aj_set1 lv234 3 (.int (Int32.ofInt 1)) := ⟨_, rfl⟩
        rw [← elv246]
        have hlv246_0 : aj_lv lv246 0 = some (.ref 117) := cw_e1 elv246 hlv234_0 (by decide) (Or.inl (by decide))
        have hlv246_1 : aj_lv lv246 1 = some (.int x235) := cw_e1 elv246 hlv234_1 (by decide) (Or.inl (by decide))
        have hlv246_5 : aj_lv lv246 5 = some (.int x237) := cw_e1 elv246 hlv234_5 (by decide) (Or.inl (by decide))
        have hlv246_3 : aj_lv lv246 3 = some (.int (Int32.ofInt 1)) := by rw [elv246]; exact ak_set1_eq _ _ _
        show aw_W _ _ _ _ 133 lv246 [] _ _
        refine aw_l0 aj_d261 rfl rfl hlv246_3 ?_
        refine aw_z (tgt := 158) aj_d261 rfl rfl (fun q247 => ?_) (fun q247 => ?_)
        · have q247 : (1 : Int) ≠ (0 : Int) := aw_t_ne (a := (1 : Int)) (b := (0 : Int)) rfl rfl q247
          refine aw_l2 aj_d261 rfl rfl hlv246_0 ?_
          refine aw_n aj_d261 rfl rfl ?_
          refine aw_k hU.1 aj_d261 rfl rfl [_] rfl rfl rfl (Nat.le_of_ble_eq_true rfl) (ar_isSign hU (by omega) (b := (44 : Int)) rfl) ?_
          have b250 : 0 ≤ (S233.1 26).toInt ∧ (S233.1 26).toInt ≤ 5 := aw_bd_f hs (hI241).1 (by decide) rfl
          rintro _ S249 ⟨eS249, b248, rfl, kb248⟩
          rw [eS249]
          rcases kb248 with ⟨hb248, pb248, qb248⟩ | ⟨hb248, pb248⟩
          · skip
            have pb248 : ((S233.1 26)).toInt = 3 := pb248
            have qb248 : ((S233.1 29)).toInt = (44 : Int) := qb248
            show aw_W _ _ _ _ 164 lv246 [.int b248] _ _
            refine aw_t0 (j := 4) aj_d261 rfl (by decide) rfl ?_
            obtain ⟨lv251, elv251⟩ : ∃ l, l = aj_set1 lv246 4 (.int b248) := ⟨_, rfl⟩
            rw [← elv251]
            have hlv251_0 : aj_lv lv251 0 = some (.ref 117) := cw_e1 elv251 hlv246_0 (by decide) (Or.inl (by decide))
            have hlv251_1 : aj_lv lv251 1 = some (.int x235) := cw_e1 elv251 hlv246_1 (by decide) (Or.inl (by decide))
            have hlv251_3 : aj_lv lv251 3 = some (.int (Int32.ofInt 1)) := cw_e1 elv251 hlv246_3 (by decide) (Or.inr rfl)
            have hlv251_4 : aj_lv lv251 4 = some (.int b248) := by rw [elv251]; exact ak_set1_eq _ _ _
            show aw_W _ _ _ _ 166 lv251 [] _ _
            refine aw_l0 aj_d261 rfl rfl hlv251_4 ?_
            refine aw_z (tgt := 180) aj_d261 rfl rfl (fun q252 => ?_) (fun q252 => ?_)
            · have q252 : (1 : Int) = (0 : Int) := aw_t_eq (a := (1 : Int)) (b := (0 : Int)) hb248 rfl q252
              exfalso
              omega
            · have q252 : (1 : Int) ≠ (0 : Int) := aw_t_eq (a := (1 : Int)) (b := (0 : Int)) hb248 rfl q252
              refine aw_l2 aj_d261 rfl rfl hlv251_0 ?_
              refine aw_k hU.1 aj_d261 rfl rfl [] rfl rfl rfl (Nat.le_of_ble_eq_true rfl) (ar_pass hU (hI241).1 hI239.2 (by omega) (show ((S233.1 26)).toInt ≠ 0 by omega) (show ¬ (((S233.1 26)).toInt = 3 ∧ ((S233.1 29)).toInt = 63) by omega) (show ((S233.1 26)).toInt = 4 → ((S233.1 29)).toInt = 3 ∨ 6 ≤ ((S233.1 29)).toInt by omega)) ?_
              rintro _ S253 ⟨hT253, fc253, ⟨b253, rfl, hb253, hG253, fd253, hz253⟩ | ⟨b253, rfl, hb253, hG253, ck253, fd253, cj253⟩⟩
              · skip
                have fr254 := aw_fr_tr fr240 (aw_fr_sub (F := [24, 25, 31]) (A := []) (by decide) (by decide) fd253)
                have hI255 : aw_I s h (aw_sm S253) S253 := ⟨hT253, aw_sm_rf⟩
                show aw_W _ _ _ _ 175 lv251 [.int b253] _ _
                refine aw_z (tgt := 180) aj_d261 rfl rfl (fun q256 => ?_) (fun q256 => ?_)
                · have q256 : (0 : Int) ≠ (0 : Int) := aw_t_ne (a := (0 : Int)) (b := (0 : Int)) hb253 rfl q256
                  exfalso
                  omega
                · have q256 : (0 : Int) = (0 : Int) := aw_t_ne (a := (0 : Int)) (b := (0 : Int)) hb253 rfl q256
                  refine aw_n aj_d261 rfl rfl ?_
                  refine aw_e aj_d261 rfl rfl ?_
                  have c257 : (S253.1 30).toInt = (S233.1 30).toInt := (congrArg Int32.toInt (fd253.1 30 (by decide)).1).trans rfl
                  have b258 : 0 ≤ (S253.1 30).toInt ∧ (S253.1 30).toInt ≤ 1001 := aw_bd_f hs (hI255).1 (by decide) rfl
                  exact ⟨(hI255).1, fr254, Or.inl ⟨_, rfl, rfl, hG253, (show _ ≤ ((S253.1 30)).toInt by omega)⟩⟩
              · skip
                have cj253 : (S253.1 30).toInt = ((S233.1 30)).toInt + 1 := cj253
                have fr259 := aw_fr_tr fr240 (aw_fr_sub (F := [26, 27, 28, 29, 30]) (A := []) (by decide) (by decide) fd253)
                have hI260 : aw_I s h (aw_sm S253) S253 := ⟨hT253, aw_sm_rf⟩
                show aw_W _ _ _ _ 175 lv251 [.int b253] _ _
                refine aw_z (tgt := 180) aj_d261 rfl rfl (fun q261 => ?_) (fun q261 => ?_)
                · have q261 : (1 : Int) ≠ (0 : Int) := aw_t_ne (a := (1 : Int)) (b := (0 : Int)) hb253 rfl q261
                  refine aw_n aj_d261 rfl rfl ?_
                  refine aw_l0 aj_d261 rfl rfl hlv251_4 ?_
                  refine aw_z (tgt := 183) aj_d261 rfl rfl (fun q262 => ?_) (fun q262 => ?_)
                  · have q262 : (1 : Int) = (0 : Int) := aw_t_eq (a := (1 : Int)) (b := (0 : Int)) hb248 rfl q262
                    exfalso
                    omega
                  · have q262 : (1 : Int) ≠ (0 : Int) := aw_t_eq (a := (1 : Int)) (b := (0 : Int)) hb248 rfl q262
                    have c263 : (S253.1 56).toInt = (S233.1 56).toInt := (congrArg Int32.toInt (fd253.1 56 (by decide)).1).trans rfl
                    have b264 : 0 ≤ (S253.1 56).toInt ∧ (S253.1 56).toInt ≤ 6 := aw_bd_f hs (hI260).1 (by decide) rfl
                    have b265 : 0 ≤ (S253.1 30).toInt ∧ (S253.1 30).toInt ≤ 1001 := aw_bd_f hs (hI260).1 (by decide) rfl
                    exact ihL56_208 S253 lv251 (x235) ((Int32.ofInt 1)) hlv251_0 hlv251_1 hlv251_3 ⟨(hI260).1, hG253⟩ fr259 (by omega) (by first | omega | decide) (by rw [show (S253.2.2.1 25) = S233.2.2.1 25 from ((fd253.2 25 (by decide)).1.trans rfl), show (S253.2.2.1 15) = S233.2.2.1 15 from ((fd253.2 15 (by decide)).1.trans rfl), show ((S253.1 56)).toInt = (S233.1 56).toInt from (by omega)]; exact TK75) (show _ ≤ ((S253.1 30)).toInt by omega) (show (1001 - ((S253.1 30)).toInt).toNat < _ by omega)
                · have q261 : (1 : Int) = (0 : Int) := aw_t_ne (a := (1 : Int)) (b := (0 : Int)) hb253 rfl q261
                  exfalso
                  omega
          · skip
            clear pb248
            show aw_W _ _ _ _ 164 lv246 [.int b248] _ _
            refine aw_t0 (j := 4) aj_d261 rfl (by decide) rfl ?_
            obtain ⟨lv266, elv266⟩ : ∃ l, l = aj_set1 lv246 4 (.int b248) := ⟨_, rfl⟩
            rw [← elv266]
            have hlv266_0 : aj_lv lv266 0 = some (.ref 117) := cw_e1 elv266 hlv246_0 (by decide) (Or.inl (by decide))
            have hlv266_1 : aj_lv lv266 1 = some (.int x235) := cw_e1 elv266 hlv246_1 (by decide) (Or.inl (by decide))
            have hlv266_3 : aj_lv lv266 3 = some (.int (Int32.ofInt 1)) := cw_e1 elv266 hlv246_3 (by decide) (Or.inr rfl)
            have hlv266_4 : aj_lv lv266 4 = some (.int b248) := by rw [elv266]; exact ak_set1_eq _ _ _
            show aw_W _ _ _ _ 166 lv266 [] _ _
            refine aw_l0 aj_d261 rfl rfl hlv266_4 ?_
            refine aw_z (tgt := 180) aj_d261 rfl rfl (fun q267 => ?_) (fun q267 => ?_)
            · have q267 : (0 : Int) = (0 : Int) := aw_t_eq (a := (0 : Int)) (b := (0 : Int)) hb248 rfl q267
              refine aw_n aj_d261 rfl rfl ?_
              refine aw_l0 aj_d261 rfl rfl hlv266_4 ?_
              refine aw_z (tgt := 183) aj_d261 rfl rfl (fun q268 => ?_) (fun q268 => ?_)
              · have q268 : (0 : Int) = (0 : Int) := aw_t_eq (a := (0 : Int)) (b := (0 : Int)) hb248 rfl q268
                refine aw_l0 aj_d261 rfl rfl hlv266_3 ?_
                refine aw_z (tgt := 194) aj_d261 rfl rfl (fun q269 => ?_) (fun q269 => ?_)
                · have q269 : (1 : Int) = (0 : Int) := aw_t_eq (a := (1 : Int)) (b := (0 : Int)) rfl rfl q269
                  exfalso
                  omega
                · have q269 : (1 : Int) ≠ (0 : Int) := aw_t_eq (a := (1 : Int)) (b := (0 : Int)) rfl rfl q269
                  refine aw_l2 aj_d261 rfl rfl hlv266_0 ?_
                  refine aw_g hU.1 aj_d261 rfl rfl (by decide) (v := .ref 132) rfl ?_
                  refine aw_l0 aj_d261 rfl rfl hlv266_1 ?_
                  refine aw_n aj_d261 rfl rfl ?_
                  refine aw_st (k := 15) hU.1 aj_d261 (Or.inl ⟨rfl, rfl⟩) rfl (by decide) (by decide) rfl (a := x235.toInt) rfl (by omega) (by omega) ?_
                  have hI270 := aw_I_a (aw_UV hU aw_Gs_sm) (k := 15) (j := (x235.toInt).toNat) (v := aj_nar 0 (Int32.ofInt (-1))) hI241 (by decide) (by decide) (by decide) rfl (by decide) (by decide) rfl (aw_bp (a := (-1 : Int)) rfl (by omega) (by omega))
                  have fr271 := aw_fr_a (k := 15) (j := (x235.toInt).toNat) (v := aj_nar 0 (Int32.ofInt (-1))) (by decide) fr240
                  refine aw_l2 aj_d261 rfl rfl hlv266_0 ?_
                  refine aw_n aj_d261 rfl rfl ?_
                  refine aw_k hU.1 aj_d261 rfl rfl [_] rfl rfl rfl (Nat.le_of_ble_eq_true rfl) (aw_toK hU aw_Gs_G (con := ac_c219_41) (by omega) (ar_219_41 hU.2.1 (aw_SPc hU.2.2 aw_Gs_G) aw_kpc (arc_214b hU) (arc_215 hU)) ⟨(hI270).1, (aw_G_sm hI270.2 hI239.2)⟩ ⟨(aw_g117 hU.2.2), (cw_gw (a := (41 : Int)) rfl (by omega) (by omega)), trivial⟩ (fun e he => nomatch he)) ?_
                  rintro r272 S272 ⟨hr272, hJ272, fc272, po272, -⟩
                  have hT272 := hJ272.1
                  replace fc272 := aw_fr_sub (F' := [24, 25, 26, 27, 28, 29, 30, 31]) (A' := []) (by decide) (by decide) fc272
                  rcases ar_bool hU (hI270).1 hT272 hr272 po272 with ⟨b272, rfl, hb272, cf272⟩ | ⟨b272, rfl, hb272, ck272, gq272⟩
                  · skip
                    have cf272 : (S233.1 30).toInt + 0 ≤ (S272.1 30).toInt := cf272
                    have fr273 := aw_fr_tr fr271 (aw_fr_sub (F := [24, 25, 26, 27, 28, 29, 30, 31]) (A := []) (by decide) (by decide) fc272)
                    have hI274 : aw_I s h (aw_sm S272) S272 := ⟨hT272, aw_sm_rf⟩
                    show aw_W _ _ _ _ 200 lv266 [.int b272] _ _
                    refine aw_e aj_d261 rfl (cw_irb rfl (by omega)) ?_
                    have b275 : 0 ≤ (S272.1 30).toInt ∧ (S272.1 30).toInt ≤ 1001 := aw_bd_f hs (hI274).1 (by decide) rfl
                    exact ⟨(hI274).1, fr273, Or.inl ⟨_, rfl, hb272, hJ272.2, (show _ ≤ ((S272.1 30)).toInt by omega)⟩⟩
                  · skip
                    have ck272 : (S233.1 30).toInt + 1 ≤ (S272.1 30).toInt := ck272
                    have fr276 := aw_fr_tr fr271 (aw_fr_sub (F := [24, 25, 26, 27, 28, 29, 30, 31]) (A := []) (by decide) (by decide) fc272)
                    have hI277 : aw_I s h (aw_sm S272) S272 := ⟨hT272, aw_sm_rf⟩
                    show aw_W _ _ _ _ 200 lv266 [.int b272] _ _
                    refine aw_e aj_d261 rfl (cw_irb rfl (by omega)) ?_
                    have b278 : 0 ≤ (S272.1 30).toInt ∧ (S272.1 30).toInt ≤ 1001 := aw_bd_f hs (hI277).1 (by decide) rfl
                    exact ⟨(hI277).1, fr276, Or.inr ⟨_, rfl, hb272, hJ272.2, (show _ + 1 ≤ ((S272.1 30)).toInt by omega), trivial⟩⟩
              · have q268 : (0 : Int) ≠ (0 : Int) := aw_t_eq (a := (0 : Int)) (b := (0 : Int)) hb248 rfl q268
                exfalso
                omega
            · have q267 : (0 : Int) ≠ (0 : Int) := aw_t_eq (a := (0 : Int)) (b := (0 : Int)) hb248 rfl q267
              exfalso
              omega
        · have q247 : (1 : Int) = (0 : Int) := aw_t_ne (a := (1 : Int)) (b := (0 : Int)) rfl rfl q247
          exfalso
          omega
      · have q245 : x236.toInt = (0 : Int) := aw_t_ne (a := x236.toInt) (b := (0 : Int)) rfl rfl q245
        refine aw_l0 aj_d261 rfl rfl hlv234_5 ?_
        refine aw_z (tgt := 131) aj_d261 rfl rfl (fun q279 => ?_) (fun q279 => ?_)
        · have q279 : x237.toInt ≥ (0 : Int) := aw_t_ge (a := x237.toInt) (b := (0 : Int)) rfl rfl q279
          refine aw_n aj_d261 rfl rfl ?_
          refine aw_t0 (j := 3) aj_d261 rfl (by decide) rfl ?_
          obtain ⟨lv280, elv280⟩ : ∃ l, l = aj_set1 lv234 3 (.int (Int32.ofInt 0)) := ⟨_, rfl⟩
          rw [← elv280]
          have hlv280_0 : aj_lv lv280 0 = some (.ref 117) := cw_e1 elv280 hlv234_0 (by decide) (Or.inl (by decide))
          have hlv280_1 : aj_lv lv280 1 = some (.int x235) := cw_e1 elv280 hlv234_1 (by decide) (Or.inl (by decide))
          have hlv280_5 : aj_lv lv280 5 = some (.int x237) := cw_e1 elv280 hlv234_5 (by decide) (Or.inl (by decide))
          have hlv280_3 : aj_lv lv280 3 = some (.int (Int32.ofInt 0)) := by rw [elv280]; exact ak_set1_eq _ _ _
          show aw_W _ _ _ _ 133 lv280 [] _ _
          refine aw_l0 aj_d261 rfl rfl hlv280_3 ?_
          refine aw_z (tgt := 158) aj_d261 rfl rfl (fun q281 => ?_) (fun q281 => ?_)
          · have q281 : (0 : Int) ≠ (0 : Int) := aw_t_ne (a := (0 : Int)) (b := (0 : Int)) rfl rfl q281
            exfalso
            omega
          · have q281 : (0 : Int) = (0 : Int) := aw_t_ne (a := (0 : Int)) (b := (0 : Int)) rfl rfl q281
            have pg := ar_TK_le TK75
            have bc6 := aw_bd_a hs hI241.1 (k := 15) (j := (x235.toInt).toNat) (by decide) (by decide) rfl (by decide) rfl (by omega)
            have pg6 : (S233.1 56).toInt < 6 := by
              by_cases z : (S233.1 56).toInt < 6
              · exact z
              · exfalso
                have bq := ar_pig6 TK75 (by omega) (by omega) (fun j hj => nb75 (by omega) (by omega) j (by omega)) cb75
                omega
            refine aw_l2 aj_d261 rfl rfl hlv280_0 ?_
            refine aw_g hU.1 aj_d261 rfl rfl (by decide) (v := .ref 142) rfl ?_
            refine aw_l2 aj_d261 rfl rfl hlv280_0 ?_
            refine aw_g hU.1 aj_d261 rfl rfl (by decide) (v := .int (S233.1 56)) rfl ?_
            refine aw_l0 aj_d261 rfl rfl hlv280_5 ?_
            refine aw_st (k := 25) hU.1 aj_d261 (Or.inl ⟨rfl, rfl⟩) rfl (by decide) (by decide) rfl (a := (S233.1 56).toInt) rfl (by omega) (by omega) ?_
            have hI282 := aw_I_a (aw_UV hU aw_Gs_sm) (k := 25) (j := ((S233.1 56).toInt).toNat) (v := aj_nar 0 x237) hI241 (by decide) (by decide) (by decide) rfl (by decide) (by decide) rfl (aw_bp (a := x237.toInt) rfl (by omega) (by omega))
            have fr283 := aw_fr_a (k := 25) (j := ((S233.1 56).toInt).toNat) (v := aj_nar 0 x237) (by decide) fr240
            refine aw_l2 aj_d261 rfl rfl hlv280_0 ?_
            refine aw_n aj_d261 rfl rfl ?_
            refine aw_g hU.1 aj_d261 rfl rfl (by decide) (v := .int (S233.1 56)) rfl ?_
            refine aw_n aj_d261 rfl rfl ?_
            refine aw_add aj_d261 rfl (a := (S233.1 56).toInt) (b := (1 : Int)) rfl rfl (by omega) (by omega) (fun x284 ex284 => ?_)
            refine aw_p hU.1 aj_d261 rfl rfl (by decide) rfl ?_
            have hI285 := aw_I_f (aw_UV hU aw_Gs_sm) (k := 56) (v := x284) hI282 (by decide) (by decide) rfl (aw_bp (a := x284.toInt) rfl (by omega) (by omega))
            have fr286 := aw_fr_f (k := 56) (v := x284) (by decide) fr283
            have TK287 : ar_TK (((aw_wf (aw_wa S233 25 ((S233.1 56).toInt).toNat (aj_nar 0 x237)) 56 x284)).2.2.1 25) ((((aw_wf (aw_wa S233 25 ((S233.1 56).toInt).toNat (aj_nar 0 x237)) 56 x284)).1 56).toInt).toNat (((aw_wf (aw_wa S233 25 ((S233.1 56).toInt).toNat (aj_nar 0 x237)) 56 x284)).2.2.1 15 (x235.toInt).toNat).toInt := by
              show ar_TK (upd (S233.2.2.1 25) ((S233.1 56).toInt).toNat x237) ((x284).toInt).toNat (S233.2.2.1 15 (x235.toInt).toNat).toInt
              rw [show ((x284).toInt).toNat = ((S233.1 56).toInt).toNat + 1 by omega]
              exact ar_TK_push TK75 (by omega) (fun j hj => nb75 (by omega) (by omega) j (by omega))
            refine aw_l2 aj_d261 rfl rfl hlv280_0 ?_
            refine aw_n aj_d261 rfl rfl ?_
            refine aw_k hU.1 aj_d261 rfl rfl [_] rfl rfl rfl (Nat.le_of_ble_eq_true rfl) (ar_isSign hU (by omega) (b := (44 : Int)) rfl) ?_
            have b290 : 0 ≤ (S233.1 26).toInt ∧ (S233.1 26).toInt ≤ 5 := aw_bd_f hs (hI241).1 (by decide) rfl
            rintro _ S289 ⟨eS289, b288, rfl, kb288⟩
            rw [eS289]
            rcases kb288 with ⟨hb288, pb288, qb288⟩ | ⟨hb288, pb288⟩
            · skip
              have pb288 : ((S233.1 26)).toInt = 3 := pb288
              have qb288 : ((S233.1 29)).toInt = (44 : Int) := qb288
              show aw_W _ _ _ _ 164 lv280 [.int b288] _ _
              refine aw_t0 (j := 4) aj_d261 rfl (by decide) rfl ?_
              obtain ⟨lv291, elv291⟩ : ∃ l, l = aj_set1 lv280 4 (.int b288) := ⟨_, rfl⟩
              rw [← elv291]
              have hlv291_0 : aj_lv lv291 0 = some (.ref 117) := cw_e1 elv291 hlv280_0 (by decide) (Or.inl (by decide))
              have hlv291_1 : aj_lv lv291 1 = some (.int x235) := cw_e1 elv291 hlv280_1 (by decide) (Or.inl (by decide))
              have hlv291_3 : aj_lv lv291 3 = some (.int (Int32.ofInt 0)) := cw_e1 elv291 hlv280_3 (by decide) (Or.inr rfl)
              have hlv291_4 : aj_lv lv291 4 = some (.int b288) := by rw [elv291]; exact ak_set1_eq _ _ _
              show aw_W _ _ _ _ 166 lv291 [] _ _
              refine aw_l0 aj_d261 rfl rfl hlv291_4 ?_
              refine aw_z (tgt := 180) aj_d261 rfl rfl (fun q292 => ?_) (fun q292 => ?_)
              · have q292 : (1 : Int) = (0 : Int) := aw_t_eq (a := (1 : Int)) (b := (0 : Int)) hb288 rfl q292
                exfalso
                omega
              · have q292 : (1 : Int) ≠ (0 : Int) := aw_t_eq (a := (1 : Int)) (b := (0 : Int)) hb288 rfl q292
                refine aw_l2 aj_d261 rfl rfl hlv291_0 ?_
                refine aw_k hU.1 aj_d261 rfl rfl [] rfl rfl rfl (Nat.le_of_ble_eq_true rfl) (ar_pass hU (hI285).1 (aw_G_sm hI285.2 hI239.2) (by omega) (show ((S233.1 26)).toInt ≠ 0 by omega) (show ¬ (((S233.1 26)).toInt = 3 ∧ ((S233.1 29)).toInt = 63) by omega) (show ((S233.1 26)).toInt = 4 → ((S233.1 29)).toInt = 3 ∨ 6 ≤ ((S233.1 29)).toInt by omega)) ?_
                rintro _ S293 ⟨hT293, fc293, ⟨b293, rfl, hb293, hG293, fd293, hz293⟩ | ⟨b293, rfl, hb293, hG293, ck293, fd293, cj293⟩⟩
                · skip
                  have fr294 := aw_fr_tr fr286 (aw_fr_sub (F := [24, 25, 31]) (A := []) (by decide) (by decide) fd293)
                  have hI295 : aw_I s h (aw_sm S293) S293 := ⟨hT293, aw_sm_rf⟩
                  show aw_W _ _ _ _ 175 lv291 [.int b293] _ _
                  refine aw_z (tgt := 180) aj_d261 rfl rfl (fun q296 => ?_) (fun q296 => ?_)
                  · have q296 : (0 : Int) ≠ (0 : Int) := aw_t_ne (a := (0 : Int)) (b := (0 : Int)) hb293 rfl q296
                    exfalso
                    omega
                  · have q296 : (0 : Int) = (0 : Int) := aw_t_ne (a := (0 : Int)) (b := (0 : Int)) hb293 rfl q296
                    refine aw_n aj_d261 rfl rfl ?_
                    refine aw_e aj_d261 rfl rfl ?_
                    have c297 : (S293.1 30).toInt = (S233.1 30).toInt := (congrArg Int32.toInt (fd293.1 30 (by decide)).1).trans rfl
                    have b298 : 0 ≤ (S293.1 30).toInt ∧ (S293.1 30).toInt ≤ 1001 := aw_bd_f hs (hI295).1 (by decide) rfl
                    exact ⟨(hI295).1, fr294, Or.inl ⟨_, rfl, rfl, hG293, (show _ ≤ ((S293.1 30)).toInt by omega)⟩⟩
                · skip
                  have cj293 : (S293.1 30).toInt = ((S233.1 30)).toInt + 1 := cj293
                  have TK293 : ar_TK (S293.2.2.1 25) ((S293.1 56).toInt).toNat (S293.2.2.1 15 (x235.toInt).toNat).toInt := by
                    rw [(fd293.2 25 (by decide)).1, (fd293.2 15 (by decide)).1, (fd293.1 56 (by decide)).1]
                    exact TK287
                  have fr299 := aw_fr_tr fr286 (aw_fr_sub (F := [26, 27, 28, 29, 30]) (A := []) (by decide) (by decide) fd293)
                  have hI300 : aw_I s h (aw_sm S293) S293 := ⟨hT293, aw_sm_rf⟩
                  show aw_W _ _ _ _ 175 lv291 [.int b293] _ _
                  refine aw_z (tgt := 180) aj_d261 rfl rfl (fun q301 => ?_) (fun q301 => ?_)
                  · have q301 : (1 : Int) ≠ (0 : Int) := aw_t_ne (a := (1 : Int)) (b := (0 : Int)) hb293 rfl q301
                    refine aw_n aj_d261 rfl rfl ?_
                    refine aw_l0 aj_d261 rfl rfl hlv291_4 ?_
                    refine aw_z (tgt := 183) aj_d261 rfl rfl (fun q302 => ?_) (fun q302 => ?_)
                    · have q302 : (1 : Int) = (0 : Int) := aw_t_eq (a := (1 : Int)) (b := (0 : Int)) hb288 rfl q302
                      exfalso
                      omega
                    · have q302 : (1 : Int) ≠ (0 : Int) := aw_t_eq (a := (1 : Int)) (b := (0 : Int)) hb288 rfl q302
                      have c303 : (S293.1 56).toInt = x284.toInt := (congrArg Int32.toInt (fd293.1 56 (by decide)).1).trans rfl
                      have b304 : 0 ≤ (S293.1 56).toInt ∧ (S293.1 56).toInt ≤ 6 := aw_bd_f hs (hI300).1 (by decide) rfl
                      have b305 : 0 ≤ (S293.1 30).toInt ∧ (S293.1 30).toInt ≤ 1001 := aw_bd_f hs (hI300).1 (by decide) rfl
                      exact ihL56_208 S293 lv291 (x235) ((Int32.ofInt 0)) hlv291_0 hlv291_1 hlv291_3 ⟨(hI300).1, hG293⟩ fr299 (by omega) (by first | omega | decide) TK293 (show _ ≤ ((S293.1 30)).toInt by omega) (show (1001 - ((S293.1 30)).toInt).toNat < _ by omega)
                  · have q301 : (1 : Int) = (0 : Int) := aw_t_ne (a := (1 : Int)) (b := (0 : Int)) hb293 rfl q301
                    exfalso
                    omega
            · skip
              clear pb288
              show aw_W _ _ _ _ 164 lv280 [.int b288] _ _
              refine aw_t0 (j := 4) aj_d261 rfl (by decide) rfl ?_
              obtain ⟨lv306, elv306⟩ : ∃ l, l = aj_set1 lv280 4 (.int b288) := ⟨_, rfl⟩
              rw [← elv306]
              have hlv306_0 : aj_lv lv306 0 = some (.ref 117) := cw_e1 elv306 hlv280_0 (by decide) (Or.inl (by decide))
              have hlv306_1 : aj_lv lv306 1 = some (.int x235) := cw_e1 elv306 hlv280_1 (by decide) (Or.inl (by decide))
              have hlv306_3 : aj_lv lv306 3 = some (.int (Int32.ofInt 0)) := cw_e1 elv306 hlv280_3 (by decide) (Or.inr rfl)
              have hlv306_4 : aj_lv lv306 4 = some (.int b288) := by rw [elv306]; exact ak_set1_eq _ _ _
              show aw_W _ _ _ _ 166 lv306 [] _ _
              refine aw_l0 aj_d261 rfl rfl hlv306_4 ?_
              refine aw_z (tgt := 180) aj_d261 rfl rfl (fun q307 => ?_) (fun q307 => ?_)
              · have q307 : (0 : Int) = (0 : Int) := aw_t_eq (a := (0 : Int)) (b := (0 : Int)) hb288 rfl q307
                refine aw_n aj_d261 rfl rfl ?_
                refine aw_l0 aj_d261 rfl rfl hlv306_4 ?_
                refine aw_z (tgt := 183) aj_d261 rfl rfl (fun q308 => ?_) (fun q308 => ?_)
                · have q308 : (0 : Int) = (0 : Int) := aw_t_eq (a := (0 : Int)) (b := (0 : Int)) hb288 rfl q308
                  refine aw_l0 aj_d261 rfl rfl hlv306_3 ?_
                  refine aw_z (tgt := 194) aj_d261 rfl rfl (fun q309 => ?_) (fun q309 => ?_)
                  · have q309 : (0 : Int) = (0 : Int) := aw_t_eq (a := (0 : Int)) (b := (0 : Int)) rfl rfl q309
                    refine aw_l2 aj_d261 rfl rfl hlv306_0 ?_
                    refine aw_n aj_d261 rfl rfl ?_
                    refine aw_k hU.1 aj_d261 rfl rfl [_] rfl rfl rfl (Nat.le_of_ble_eq_true rfl) (aw_toK hU aw_Gs_G (con := ac_c219_41) (by omega) (ar_219_41 hU.2.1 (aw_SPc hU.2.2 aw_Gs_G) aw_kpc (arc_214b hU) (arc_215 hU)) ⟨(hI285).1, (aw_G_sm hI285.2 hI239.2)⟩ ⟨(aw_g117 hU.2.2), (cw_gw (a := (41 : Int)) rfl (by omega) (by omega)), trivial⟩ (fun e he => nomatch he)) ?_
                    rintro r310 S310 ⟨hr310, hJ310, fc310, po310, -⟩
                    have hT310 := hJ310.1
                    replace fc310 := aw_fr_sub (F' := [24, 25, 26, 27, 28, 29, 30, 31]) (A' := []) (by decide) (by decide) fc310
                    rcases ar_bool hU (hI285).1 hT310 hr310 po310 with ⟨b310, rfl, hb310, cf310⟩ | ⟨b310, rfl, hb310, ck310, gq310⟩
                    · skip
                      have cf310 : (S233.1 30).toInt + 0 ≤ (S310.1 30).toInt := cf310
                      have fr311 := aw_fr_tr fr286 (aw_fr_sub (F := [24, 25, 26, 27, 28, 29, 30, 31]) (A := []) (by decide) (by decide) fc310)
                      have hI312 : aw_I s h (aw_sm S310) S310 := ⟨hT310, aw_sm_rf⟩
                      show aw_W _ _ _ _ 200 lv306 [.int b310] _ _
                      refine aw_e aj_d261 rfl (cw_irb rfl (by omega)) ?_
                      have b313 : 0 ≤ (S310.1 30).toInt ∧ (S310.1 30).toInt ≤ 1001 := aw_bd_f hs (hI312).1 (by decide) rfl
                      exact ⟨(hI312).1, fr311, Or.inl ⟨_, rfl, hb310, hJ310.2, (show _ ≤ ((S310.1 30)).toInt by omega)⟩⟩
                    · skip
                      have ck310 : (S233.1 30).toInt + 1 ≤ (S310.1 30).toInt := ck310
                      have fr314 := aw_fr_tr fr286 (aw_fr_sub (F := [24, 25, 26, 27, 28, 29, 30, 31]) (A := []) (by decide) (by decide) fc310)
                      have hI315 : aw_I s h (aw_sm S310) S310 := ⟨hT310, aw_sm_rf⟩
                      show aw_W _ _ _ _ 200 lv306 [.int b310] _ _
                      refine aw_e aj_d261 rfl (cw_irb rfl (by omega)) ?_
                      have b316 : 0 ≤ (S310.1 30).toInt ∧ (S310.1 30).toInt ≤ 1001 := aw_bd_f hs (hI315).1 (by decide) rfl
                      exact ⟨(hI315).1, fr314, Or.inr ⟨_, rfl, hb310, hJ310.2, (show _ + 1 ≤ ((S310.1 30)).toInt by omega), trivial⟩⟩
                  · have q309 : (0 : Int) ≠ (0 : Int) := aw_t_eq (a := (0 : Int)) (b := (0 : Int)) rfl rfl q309
                    exfalso
                    omega
                · have q308 : (0 : Int) ≠ (0 : Int) := aw_t_eq (a := (0 : Int)) (b := (0 : Int)) hb288 rfl q308
                  exfalso
                  omega
              · have q307 : (0 : Int) ≠ (0 : Int) := aw_t_eq (a := (0 : Int)) (b := (0 : Int)) hb288 rfl q307
                exfalso
                omega
        · have q279 : x237.toInt < (0 : Int) := aw_t_ge (a := x237.toInt) (b := (0 : Int)) rfl rfl q279
          refine aw_n aj_d261 rfl rfl ?_
          refine aw_n aj_d261 rfl rfl ?_
          refine aw_t0 (j := 3) aj_d261 rfl (by decide) rfl ?_
          obtain ⟨lv317, elv317⟩ : ∃ l, l = aj_set1 lv234 3 (.int (Int32.ofInt 1)) := ⟨_, rfl⟩
          rw [← elv317]
          have hlv317_0 : aj_lv lv317 0 = some (.ref 117) := cw_e1 elv317 hlv234_0 (by decide) (Or.inl (by decide))
          have hlv317_1 : aj_lv lv317 1 = some (.int x235) := cw_e1 elv317 hlv234_1 (by decide) (Or.inl (by decide))
          have hlv317_5 : aj_lv lv317 5 = some (.int x237) := cw_e1 elv317 hlv234_5 (by decide) (Or.inl (by decide))
          have hlv317_3 : aj_lv lv317 3 = some (.int (Int32.ofInt 1)) := by rw [elv317]; exact ak_set1_eq _ _ _
          show aw_W _ _ _ _ 133 lv317 [] _ _
          refine aw_l0 aj_d261 rfl rfl hlv317_3 ?_
          refine aw_z (tgt := 158) aj_d261 rfl rfl (fun q318 => ?_) (fun q318 => ?_)
          · have q318 : (1 : Int) ≠ (0 : Int) := aw_t_ne (a := (1 : Int)) (b := (0 : Int)) rfl rfl q318
            refine aw_l2 aj_d261 rfl rfl hlv317_0 ?_
            refine aw_n aj_d261 rfl rfl ?_
            refine aw_k hU.1 aj_d261 rfl rfl [_] rfl rfl rfl (Nat.le_of_ble_eq_true rfl) (ar_isSign hU (by omega) (b := (44 : Int)) rfl) ?_
            have b321 : 0 ≤ (S233.1 26).toInt ∧ (S233.1 26).toInt ≤ 5 := aw_bd_f hs (hI241).1 (by decide) rfl
            rintro _ S320 ⟨eS320, b319, rfl, kb319⟩
            rw [eS320]
            rcases kb319 with ⟨hb319, pb319, qb319⟩ | ⟨hb319, pb319⟩
            · skip
              have pb319 : ((S233.1 26)).toInt = 3 := pb319
              have qb319 : ((S233.1 29)).toInt = (44 : Int) := qb319
              show aw_W _ _ _ _ 164 lv317 [.int b319] _ _
              refine aw_t0 (j := 4) aj_d261 rfl (by decide) rfl ?_
              obtain ⟨lv322, elv322⟩ : ∃ l, l = aj_set1 lv317 4 (.int b319) := ⟨_, rfl⟩
              rw [← elv322]
              have hlv322_0 : aj_lv lv322 0 = some (.ref 117) := cw_e1 elv322 hlv317_0 (by decide) (Or.inl (by decide))
              have hlv322_1 : aj_lv lv322 1 = some (.int x235) := cw_e1 elv322 hlv317_1 (by decide) (Or.inl (by decide))
              have hlv322_3 : aj_lv lv322 3 = some (.int (Int32.ofInt 1)) := cw_e1 elv322 hlv317_3 (by decide) (Or.inr rfl)
              have hlv322_4 : aj_lv lv322 4 = some (.int b319) := by rw [elv322]; exact ak_set1_eq _ _ _
              show aw_W _ _ _ _ 166 lv322 [] _ _
              refine aw_l0 aj_d261 rfl rfl hlv322_4 ?_
              refine aw_z (tgt := 180) aj_d261 rfl rfl (fun q323 => ?_) (fun q323 => ?_)
              · have q323 : (1 : Int) = (0 : Int) := aw_t_eq (a := (1 : Int)) (b := (0 : Int)) hb319 rfl q323
                exfalso
                omega
              · have q323 : (1 : Int) ≠ (0 : Int) := aw_t_eq (a := (1 : Int)) (b := (0 : Int)) hb319 rfl q323
                refine aw_l2 aj_d261 rfl rfl hlv322_0 ?_
                refine aw_k hU.1 aj_d261 rfl rfl [] rfl rfl rfl (Nat.le_of_ble_eq_true rfl) (ar_pass hU (hI241).1 hI239.2 (by omega) (show ((S233.1 26)).toInt ≠ 0 by omega) (show ¬ (((S233.1 26)).toInt = 3 ∧ ((S233.1 29)).toInt = 63) by omega) (show ((S233.1 26)).toInt = 4 → ((S233.1 29)).toInt = 3 ∨ 6 ≤ ((S233.1 29)).toInt by omega)) ?_
                rintro _ S324 ⟨hT324, fc324, ⟨b324, rfl, hb324, hG324, fd324, hz324⟩ | ⟨b324, rfl, hb324, hG324, ck324, fd324, cj324⟩⟩
                · skip
                  have fr325 := aw_fr_tr fr240 (aw_fr_sub (F := [24, 25, 31]) (A := []) (by decide) (by decide) fd324)
                  have hI326 : aw_I s h (aw_sm S324) S324 := ⟨hT324, aw_sm_rf⟩
                  show aw_W _ _ _ _ 175 lv322 [.int b324] _ _
                  refine aw_z (tgt := 180) aj_d261 rfl rfl (fun q327 => ?_) (fun q327 => ?_)
                  · have q327 : (0 : Int) ≠ (0 : Int) := aw_t_ne (a := (0 : Int)) (b := (0 : Int)) hb324 rfl q327
                    exfalso
                    omega
                  · have q327 : (0 : Int) = (0 : Int) := aw_t_ne (a := (0 : Int)) (b := (0 : Int)) hb324 rfl q327
                    refine aw_n aj_d261 rfl rfl ?_
                    refine aw_e aj_d261 rfl rfl ?_
                    have c328 : (S324.1 30).toInt = (S233.1 30).toInt := (congrArg Int32.toInt (fd324.1 30 (by decide)).1).trans rfl
                    have b329 : 0 ≤ (S324.1 30).toInt ∧ (S324.1 30).toInt ≤ 1001 := aw_bd_f hs (hI326).1 (by decide) rfl
                    exact ⟨(hI326).1, fr325, Or.inl ⟨_, rfl, rfl, hG324, (show _ ≤ ((S324.1 30)).toInt by omega)⟩⟩
                · skip
                  have cj324 : (S324.1 30).toInt = ((S233.1 30)).toInt + 1 := cj324
                  have fr330 := aw_fr_tr fr240 (aw_fr_sub (F := [26, 27, 28, 29, 30]) (A := []) (by decide) (by decide) fd324)
                  have hI331 : aw_I s h (aw_sm S324) S324 := ⟨hT324, aw_sm_rf⟩
                  show aw_W _ _ _ _ 175 lv322 [.int b324] _ _
                  refine aw_z (tgt := 180) aj_d261 rfl rfl (fun q332 => ?_) (fun q332 => ?_)
                  · have q332 : (1 : Int) ≠ (0 : Int) := aw_t_ne (a := (1 : Int)) (b := (0 : Int)) hb324 rfl q332
                    refine aw_n aj_d261 rfl rfl ?_
                    refine aw_l0 aj_d261 rfl rfl hlv322_4 ?_
                    refine aw_z (tgt := 183) aj_d261 rfl rfl (fun q333 => ?_) (fun q333 => ?_)
                    · have q333 : (1 : Int) = (0 : Int) := aw_t_eq (a := (1 : Int)) (b := (0 : Int)) hb319 rfl q333
                      exfalso
                      omega
                    · have q333 : (1 : Int) ≠ (0 : Int) := aw_t_eq (a := (1 : Int)) (b := (0 : Int)) hb319 rfl q333
                      have c334 : (S324.1 56).toInt = (S233.1 56).toInt := (congrArg Int32.toInt (fd324.1 56 (by decide)).1).trans rfl
                      have b335 : 0 ≤ (S324.1 56).toInt ∧ (S324.1 56).toInt ≤ 6 := aw_bd_f hs (hI331).1 (by decide) rfl
                      have b336 : 0 ≤ (S324.1 30).toInt ∧ (S324.1 30).toInt ≤ 1001 := aw_bd_f hs (hI331).1 (by decide) rfl
                      exact ihL56_208 S324 lv322 (x235) ((Int32.ofInt 1)) hlv322_0 hlv322_1 hlv322_3 ⟨(hI331).1, hG324⟩ fr330 (by omega) (by first | omega | decide) (by rw [show (S324.2.2.1 25) = S233.2.2.1 25 from ((fd324.2 25 (by decide)).1.trans rfl), show (S324.2.2.1 15) = S233.2.2.1 15 from ((fd324.2 15 (by decide)).1.trans rfl), show ((S324.1 56)).toInt = (S233.1 56).toInt from (by omega)]; exact TK75) (show _ ≤ ((S324.1 30)).toInt by omega) (show (1001 - ((S324.1 30)).toInt).toNat < _ by omega)
                  · have q332 : (1 : Int) = (0 : Int) := aw_t_ne (a := (1 : Int)) (b := (0 : Int)) hb324 rfl q332
                    exfalso
                    omega
            · skip
              clear pb319
              show aw_W _ _ _ _ 164 lv317 [.int b319] _ _
              refine aw_t0 (j := 4) aj_d261 rfl (by decide) rfl ?_
              obtain ⟨lv337, elv337⟩ : ∃ l, l = aj_set1 lv317 4 (.int b319) := ⟨_, rfl⟩
              rw [← elv337]
              have hlv337_0 : aj_lv lv337 0 = some (.ref 117) := cw_e1 elv337 hlv317_0 (by decide) (Or.inl (by decide))
              have hlv337_1 : aj_lv lv337 1 = some (.int x235) := cw_e1 elv337 hlv317_1 (by decide) (Or.inl (by decide))
              have hlv337_3 : aj_lv lv337 3 = some (.int (Int32.ofInt 1)) := cw_e1 elv337 hlv317_3 (by decide) (Or.inr rfl)
              have hlv337_4 : aj_lv lv337 4 = some (.int b319) := by rw [elv337]; exact ak_set1_eq _ _ _
              show aw_W _ _ _ _ 166 lv337 [] _ _
              refine aw_l0 aj_d261 rfl rfl hlv337_4 ?_
              refine aw_z (tgt := 180) aj_d261 rfl rfl (fun q338 => ?_) (fun q338 => ?_)
              · have q338 : (0 : Int) = (0 : Int) := aw_t_eq (a := (0 : Int)) (b := (0 : Int)) hb319 rfl q338
                refine aw_n aj_d261 rfl rfl ?_
                refine aw_l0 aj_d261 rfl rfl hlv337_4 ?_
                refine aw_z (tgt := 183) aj_d261 rfl rfl (fun q339 => ?_) (fun q339 => ?_)
                · have q339 : (0 : Int) = (0 : Int) := aw_t_eq (a := (0 : Int)) (b := (0 : Int)) hb319 rfl q339
                  refine aw_l0 aj_d261 rfl rfl hlv337_3 ?_
                  refine aw_z (tgt := 194) aj_d261 rfl rfl (fun q340 => ?_) (fun q340 => ?_)
                  · have q340 : (1 : Int) = (0 : Int) := aw_t_eq (a := (1 : Int)) (b := (0 : Int)) rfl rfl q340
                    exfalso
                    omega
                  · have q340 : (1 : Int) ≠ (0 : Int) := aw_t_eq (a := (1 : Int)) (b := (0 : Int)) rfl rfl q340
                    refine aw_l2 aj_d261 rfl rfl hlv337_0 ?_
                    refine aw_g hU.1 aj_d261 rfl rfl (by decide) (v := .ref 132) rfl ?_
                    refine aw_l0 aj_d261 rfl rfl hlv337_1 ?_
                    refine aw_n aj_d261 rfl rfl ?_
                    refine aw_st (k := 15) hU.1 aj_d261 (Or.inl ⟨rfl, rfl⟩) rfl (by decide) (by decide) rfl (a := x235.toInt) rfl (by omega) (by omega) ?_
                    have hI341 := aw_I_a (aw_UV hU aw_Gs_sm) (k := 15) (j := (x235.toInt).toNat) (v := aj_nar 0 (Int32.ofInt (-1))) hI241 (by decide) (by decide) (by decide) rfl (by decide) (by decide) rfl (aw_bp (a := (-1 : Int)) rfl (by omega) (by omega))
                    have fr342 := aw_fr_a (k := 15) (j := (x235.toInt).toNat) (v := aj_nar 0 (Int32.ofInt (-1))) (by decide) fr240
                    refine aw_l2 aj_d261 rfl rfl hlv337_0 ?_
                    refine aw_n aj_d261 rfl rfl ?_
                    refine aw_k hU.1 aj_d261 rfl rfl [_] rfl rfl rfl (Nat.le_of_ble_eq_true rfl) (aw_toK hU aw_Gs_G (con := ac_c219_41) (by omega) (ar_219_41 hU.2.1 (aw_SPc hU.2.2 aw_Gs_G) aw_kpc (arc_214b hU) (arc_215 hU)) ⟨(hI341).1, (aw_G_sm hI341.2 hI239.2)⟩ ⟨(aw_g117 hU.2.2), (cw_gw (a := (41 : Int)) rfl (by omega) (by omega)), trivial⟩ (fun e he => nomatch he)) ?_
                    rintro r343 S343 ⟨hr343, hJ343, fc343, po343, -⟩
                    have hT343 := hJ343.1
                    replace fc343 := aw_fr_sub (F' := [24, 25, 26, 27, 28, 29, 30, 31]) (A' := []) (by decide) (by decide) fc343
                    rcases ar_bool hU (hI341).1 hT343 hr343 po343 with ⟨b343, rfl, hb343, cf343⟩ | ⟨b343, rfl, hb343, ck343, gq343⟩
                    · skip
                      have cf343 : (S233.1 30).toInt + 0 ≤ (S343.1 30).toInt := cf343
                      have fr344 := aw_fr_tr fr342 (aw_fr_sub (F := [24, 25, 26, 27, 28, 29, 30, 31]) (A := []) (by decide) (by decide) fc343)
                      have hI345 : aw_I s h (aw_sm S343) S343 := ⟨hT343, aw_sm_rf⟩
                      show aw_W _ _ _ _ 200 lv337 [.int b343] _ _
                      refine aw_e aj_d261 rfl (cw_irb rfl (by omega)) ?_
                      have b346 : 0 ≤ (S343.1 30).toInt ∧ (S343.1 30).toInt ≤ 1001 := aw_bd_f hs (hI345).1 (by decide) rfl
                      exact ⟨(hI345).1, fr344, Or.inl ⟨_, rfl, hb343, hJ343.2, (show _ ≤ ((S343.1 30)).toInt by omega)⟩⟩
                    · skip
                      have ck343 : (S233.1 30).toInt + 1 ≤ (S343.1 30).toInt := ck343
                      have fr347 := aw_fr_tr fr342 (aw_fr_sub (F := [24, 25, 26, 27, 28, 29, 30, 31]) (A := []) (by decide) (by decide) fc343)
                      have hI348 : aw_I s h (aw_sm S343) S343 := ⟨hT343, aw_sm_rf⟩
                      show aw_W _ _ _ _ 200 lv337 [.int b343] _ _
                      refine aw_e aj_d261 rfl (cw_irb rfl (by omega)) ?_
                      have b349 : 0 ≤ (S343.1 30).toInt ∧ (S343.1 30).toInt ≤ 1001 := aw_bd_f hs (hI348).1 (by decide) rfl
                      exact ⟨(hI348).1, fr347, Or.inr ⟨_, rfl, hb343, hJ343.2, (show _ + 1 ≤ ((S343.1 30)).toInt by omega), trivial⟩⟩
                · have q339 : (0 : Int) ≠ (0 : Int) := aw_t_eq (a := (0 : Int)) (b := (0 : Int)) hb319 rfl q339
                  exfalso
                  omega
              · have q338 : (0 : Int) ≠ (0 : Int) := aw_t_eq (a := (0 : Int)) (b := (0 : Int)) hb319 rfl q338
                exfalso
                omega
          · have q318 : (1 : Int) = (0 : Int) := aw_t_ne (a := (1 : Int)) (b := (0 : Int)) rfl rfl q318
            exfalso
            omega
    · have q244 : x238.toInt < (S233.1 56).toInt := aw_t_ge (a := x238.toInt) (b := (S233.1 56).toInt) rfl rfl q244
      refine aw_l0 aj_d261 rfl rfl hlv234_5 ?_
      refine aw_z (tgt := 112) aj_d261 rfl rfl (fun q350 => ?_) (fun q350 => ?_)
      · have q350 : x237.toInt < (0 : Int) := aw_t_lt (a := x237.toInt) (b := (0 : Int)) rfl rfl q350
        refine aw_inc aj_d261 rfl hlv234_6 (a := x238.toInt) rfl (by omega) (by omega) (by decide) (by decide) (fun x351 ex351 => ?_)
        obtain ⟨lv352, elv352⟩ : ∃ l, l = aj_set1 lv234 6 (.int x351) := ⟨_, rfl⟩
        rw [← elv352]
        have hlv352_0 : aj_lv lv352 0 = some (.ref 117) := cw_e1 elv352 hlv234_0 (by decide) (Or.inl (by decide))
        have hlv352_1 : aj_lv lv352 1 = some (.int x235) := cw_e1 elv352 hlv234_1 (by decide) (Or.inl (by decide))
        have hlv352_3 : aj_lv lv352 3 = some (.int x236) := cw_e1 elv352 hlv234_3 (by decide) (Or.inl (by decide))
        have hlv352_5 : aj_lv lv352 5 = some (.int x237) := cw_e1 elv352 hlv234_5 (by decide) (Or.inr rfl)
        have hlv352_6 : aj_lv lv352 6 = some (.int x351) := by rw [elv352]; exact ak_set1_eq _ _ _
        show aw_W _ _ _ _ 115 lv352 [] _ _
        refine aw_n aj_d261 rfl rfl ?_
        exact ihL75_231 S233 lv352 (x235) (x236) (x237) (x351) hlv352_0 hlv352_1 hlv352_3 hlv352_5 hlv352_6 ⟨(hI241).1, hI239.2⟩ fr240 (by omega) (by omega) (by omega) (by omega) TK75 (show _ ≤ ((S233.1 30)).toInt by omega) (show _ ≤ ((S233.1 30)).toInt by omega) cb75 (fun z0 z1 j hj => by
            by_cases ej : j = (x238.toInt).toNat
            · subst ej
              omega
            · exact nb75 z0 z1 j (by omega)) (show _ ≤ ((S233.1 56)).toInt by omega) (by omega)
      · have q350 : x237.toInt ≥ (0 : Int) := aw_t_lt (a := x237.toInt) (b := (0 : Int)) rfl rfl q350
        refine aw_l2 aj_d261 rfl rfl hlv234_0 ?_
        refine aw_g hU.1 aj_d261 rfl rfl (by decide) (v := .ref 142) rfl ?_
        refine aw_l0 aj_d261 rfl rfl hlv234_6 ?_
        refine aw_ld (k := 25) hU.1 aj_d261 (Or.inl ⟨rfl, rfl⟩) rfl (by decide) (by decide) rfl (a := x238.toInt) rfl (by omega) (by omega) (fun x353 ex353 => ?_)
        have bx353 : 0 ≤ x353.toInt ∧ x353.toInt ≤ 5 := by
          rw [ex353]
          exact aw_bd_a hs (hI241).1 (k := 25) (by decide) (by decide) rfl (by decide) rfl (by omega)
        refine aw_l0 aj_d261 rfl rfl hlv234_5 ?_
        refine aw_c (tgt := 112) aj_d261 rfl rfl (fun q354 => ?_) (fun q354 => ?_)
        · have q354 : x353.toInt ≠ x237.toInt := aw_t_ne (a := x353.toInt) (b := x237.toInt) rfl rfl q354
          refine aw_inc aj_d261 rfl hlv234_6 (a := x238.toInt) rfl (by omega) (by omega) (by decide) (by decide) (fun x355 ex355 => ?_)
          obtain ⟨lv356, elv356⟩ : ∃ l, l = aj_set1 lv234 6 (.int x355) := ⟨_, rfl⟩
          rw [← elv356]
          have hlv356_0 : aj_lv lv356 0 = some (.ref 117) := cw_e1 elv356 hlv234_0 (by decide) (Or.inl (by decide))
          have hlv356_1 : aj_lv lv356 1 = some (.int x235) := cw_e1 elv356 hlv234_1 (by decide) (Or.inl (by decide))
          have hlv356_3 : aj_lv lv356 3 = some (.int x236) := cw_e1 elv356 hlv234_3 (by decide) (Or.inl (by decide))
          have hlv356_5 : aj_lv lv356 5 = some (.int x237) := cw_e1 elv356 hlv234_5 (by decide) (Or.inr rfl)
          have hlv356_6 : aj_lv lv356 6 = some (.int x355) := by rw [elv356]; exact ak_set1_eq _ _ _
          show aw_W _ _ _ _ 115 lv356 [] _ _
          refine aw_n aj_d261 rfl rfl ?_
          exact ihL75_231 S233 lv356 (x235) (x236) (x237) (x355) hlv356_0 hlv356_1 hlv356_3 hlv356_5 hlv356_6 ⟨(hI241).1, hI239.2⟩ fr240 (by omega) (by omega) (by omega) (by omega) TK75 (show _ ≤ ((S233.1 30)).toInt by omega) (show _ ≤ ((S233.1 30)).toInt by omega) cb75 (fun z0 z1 j hj => by
              by_cases ej : j = (x238.toInt).toNat
              · subst ej
                have y := congrArg Int32.toInt ex353
                show (S233.2.2.1 25 (x238.toInt).toNat).toInt ≠ _
                have y2 : x353.toInt = (S233.2.2.1 25 (x238.toInt).toNat).toInt := y
                omega
              · exact nb75 z0 z1 j (by omega)) (show _ ≤ ((S233.1 56)).toInt by omega) (by omega)
        · have q354 : x353.toInt = x237.toInt := aw_t_ne (a := x353.toInt) (b := x237.toInt) rfl rfl q354
          refine aw_l2 aj_d261 rfl rfl hlv234_0 ?_
          refine aw_n aj_d261 rfl rfl ?_
          refine aw_l2 aj_d261 rfl rfl hlv234_0 ?_
          refine aw_g hU.1 aj_d261 rfl rfl (by decide) (v := .int (S233.1 34)) rfl ?_
          refine aw_k hU.1 aj_d261 rfl rfl [_, _] rfl rfl rfl (Nat.le_of_ble_eq_true rfl) (ar_tell hU (hI241).1 (by omega) (a := (3 : Int)) rfl (by omega)) ?_
          rintro _ S357 ⟨hT357, fc357, rfl, hz357, hw357⟩
          have hG357 := aw_G_tell hI239.2 fc357 hz357
          have b358 : 0 ≤ (S233.1 32).toInt ∧ (S233.1 32).toInt ≤ 1 := aw_bd_f hs (hI241).1 (by decide) rfl
          have hz357 : ((S233.1 32)).toInt = 0 → (S357.1 24).toInt ≠ 0 := hz357
          have fr359 := aw_fr_tr fr240 (aw_fr_sub (F := [24, 25]) (A := []) (by decide) (by decide) fc357)
          have hI360 : aw_I s h (aw_sm S357) S357 := ⟨hT357, aw_sm_rf⟩
          show aw_W _ _ _ _ 110 lv234 [] _ _
          refine aw_n aj_d261 rfl rfl ?_
          refine aw_t0 (j := 3) aj_d261 rfl (by decide) rfl ?_
          obtain ⟨lv361, elv361⟩ : ∃ l, l = aj_set1 lv234 3 (.int (Int32.ofInt 1)) := ⟨_, rfl⟩
          rw [← elv361]
          have hlv361_0 : aj_lv lv361 0 = some (.ref 117) := cw_e1 elv361 hlv234_0 (by decide) (Or.inl (by decide))
          have hlv361_1 : aj_lv lv361 1 = some (.int x235) := cw_e1 elv361 hlv234_1 (by decide) (Or.inl (by decide))
          have hlv361_5 : aj_lv lv361 5 = some (.int x237) := cw_e1 elv361 hlv234_5 (by decide) (Or.inl (by decide))
          have hlv361_6 : aj_lv lv361 6 = some (.int x238) := cw_e1 elv361 hlv234_6 (by decide) (Or.inl (by decide))
          have hlv361_3 : aj_lv lv361 3 = some (.int (Int32.ofInt 1)) := by rw [elv361]; exact ak_set1_eq _ _ _
          show aw_W _ _ _ _ 112 lv361 [] _ _
          refine aw_inc aj_d261 rfl hlv361_6 (a := x238.toInt) rfl (by omega) (by omega) (by decide) (by decide) (fun x362 ex362 => ?_)
          obtain ⟨lv363, elv363⟩ : ∃ l, l = aj_set1 lv361 6 (.int x362) := ⟨_, rfl⟩
          rw [← elv363]
          have hlv363_0 : aj_lv lv363 0 = some (.ref 117) := cw_e1 elv363 hlv361_0 (by decide) (Or.inl (by decide))
          have hlv363_1 : aj_lv lv363 1 = some (.int x235) := cw_e1 elv363 hlv361_1 (by decide) (Or.inl (by decide))
          have hlv363_5 : aj_lv lv363 5 = some (.int x237) := cw_e1 elv363 hlv361_5 (by decide) (Or.inr rfl)
          have hlv363_3 : aj_lv lv363 3 = some (.int (Int32.ofInt 1)) := cw_e1 elv363 hlv361_3 (by decide) (Or.inl (by decide))
          have hlv363_6 : aj_lv lv363 6 = some (.int x362) := by rw [elv363]; exact ak_set1_eq _ _ _
          show aw_W _ _ _ _ 115 lv363 [] _ _
          refine aw_n aj_d261 rfl rfl ?_
          have c364 : (S357.1 56).toInt = (S233.1 56).toInt := (congrArg Int32.toInt (fc357.1 56 (by decide)).1).trans rfl
          have b365 : 0 ≤ (S357.1 56).toInt ∧ (S357.1 56).toInt ≤ 6 := aw_bd_f hs (hI360).1 (by decide) rfl
          have c366 : (S357.1 30).toInt = (S233.1 30).toInt := (congrArg Int32.toInt (fc357.1 30 (by decide)).1).trans rfl
          have b367 : 0 ≤ (S357.1 30).toInt ∧ (S357.1 30).toInt ≤ 1001 := aw_bd_f hs (hI360).1 (by decide) rfl
          exact ihL75_231 S357 lv363 (x235) ((Int32.ofInt 1)) (x237) (x362) hlv363_0 hlv363_1 hlv363_3 hlv363_5 hlv363_6 ⟨(hI360).1, hG357⟩ fr359 (by omega) (by first | omega | decide) (by omega) (by omega) (by rw [show (S357.2.2.1 25) = S233.2.2.1 25 from ((fc357.2 25 (by decide)).1.trans rfl), show (S357.2.2.1 15) = S233.2.2.1 15 from ((fc357.2 15 (by decide)).1.trans rfl), show ((S357.1 56)).toInt = (S233.1 56).toInt from (by omega)]; exact TK75) (show _ ≤ ((S357.1 30)).toInt by omega) (show _ ≤ ((S357.1 30)).toInt by omega) (by rw [show (S357.2.2.1 15) = S233.2.2.1 15 from ((fc357.2 15 (by decide)).1.trans rfl)]; exact cb75) (fun z => absurd z (by decide)) (show _ ≤ ((S357.1 56)).toInt by omega) (by omega)
theorem ar_columns_L56_208 (hU : aw_U tb s h) (hd : 6 ≤ d + 1)  : ∀ (N : Nat) (S210 : aj_S) (lv211 : aj_V) (x212 : Int32) (x213 : Int32), (aj_lv lv211 0 = some (.ref 117)) → (aj_lv lv211 1 = some (.int x212)) → (aj_lv lv211 3 = some (.int x213)) → (aw_I s h (aw_G g) S210) → (aw_fr [24, 25, 26, 27, 28, 29, 30, 31, 33, 34, 56] [15, 25] S S210) → (20 ≤ x212.toInt ∧ x212.toInt ≤ 48) → (0 ≤ x213.toInt ∧ x213.toInt ≤ 1) → (ar_TK (S210.2.2.1 25) ((S210.1 56).toInt).toNat (S210.2.2.1 15 (x212.toInt).toNat).toInt) → ((S.1 30).toInt + 0 ≤ (S210.1 30).toInt) → (1001 - (S210.1 30).toInt).toNat < N → aw_W tb h d aj_m261 56 lv211 [] S210 ((ar_QT s h g [24, 25, 26, 27, 28, 29, 30, 31, 33, 34, 56] [15, 25] S (fun _ => True))) := by
  have hs : aw_sT s := aw_hy_sT hU.2.2
  intro N56
  induction N56 with
  | zero =>
    intro S210 lv211 x212 x213 hlv211_0 hlv211_1 hlv211_3 hI214 fr215 bx212 bx213 TK56 ck56 hm56
    omega
  | succ N56 ihL56_208 =>
    intro S210 lv211 x212 x213 hlv211_0 hlv211_1 hlv211_3 hI214 fr215 bx212 bx213 TK56 ck56 hm56
    have hI216 : aw_I s h (aw_sm S210) S210 := ⟨hI214.1, aw_sm_rf⟩
    have b217 : 0 ≤ (S210.1 30).toInt ∧ (S210.1 30).toInt ≤ 1001 := aw_bd_f hs (hI216).1 (by decide) rfl
    have b218 : 0 ≤ (S210.1 56).toInt ∧ (S210.1 56).toInt ≤ 6 := aw_bd_f hs (hI216).1 (by decide) rfl
    refine aw_l2 aj_d261 rfl rfl hlv211_0 ?_
    refine aw_k hU.1 aj_d261 rfl rfl [] rfl rfl rfl (Nat.le_of_ble_eq_true rfl) (ar_named hU (hI216).1 hI214.2 (by omega)) ?_
    rintro _ S219 ⟨hT219, fc219, ⟨b219, rfl, hb219, hG219, ck219, hz219⟩ | ⟨b219, rfl, hb219, hG219, ck219, cj219, k1219, nm219⟩⟩
    · skip
      have ck219 : ((S210.1 30)).toInt ≤ (S219.1 30).toInt := ck219
      have fr220 := aw_fr_tr fr215 (aw_fr_sub (F := [24, 25, 26, 27, 28, 29, 30, 31, 33, 34]) (A := []) (by decide) (by decide) fc219)
      have hI221 : aw_I s h (aw_sm S219) S219 := ⟨hT219, aw_sm_rf⟩
      show aw_W _ _ _ _ 60 lv211 [.int b219] _ _
      refine aw_z (tgt := 65) aj_d261 rfl rfl (fun q222 => ?_) (fun q222 => ?_)
      · have q222 : (0 : Int) ≠ (0 : Int) := aw_t_ne (a := (0 : Int)) (b := (0 : Int)) hb219 rfl q222
        exfalso
        omega
      · have q222 : (0 : Int) = (0 : Int) := aw_t_ne (a := (0 : Int)) (b := (0 : Int)) hb219 rfl q222
        refine aw_n aj_d261 rfl rfl ?_
        refine aw_e aj_d261 rfl rfl ?_
        have b223 : 0 ≤ (S219.1 30).toInt ∧ (S219.1 30).toInt ≤ 1001 := aw_bd_f hs (hI221).1 (by decide) rfl
        exact ⟨(hI221).1, fr220, Or.inl ⟨_, rfl, rfl, hG219, (show _ ≤ ((S219.1 30)).toInt by omega)⟩⟩
    · skip
      have cj219 : (S219.1 30).toInt = ((S210.1 30)).toInt + 1 := cj219
      have fr224 := aw_fr_tr fr215 (aw_fr_sub (F := [24, 25, 26, 27, 28, 29, 30, 31, 33, 34]) (A := []) (by decide) (by decide) fc219)
      have hI225 : aw_I s h (aw_sm S219) S219 := ⟨hT219, aw_sm_rf⟩
      show aw_W _ _ _ _ 60 lv211 [.int b219] _ _
      refine aw_z (tgt := 65) aj_d261 rfl rfl (fun q226 => ?_) (fun q226 => ?_)
      · have q226 : (1 : Int) ≠ (0 : Int) := aw_t_ne (a := (1 : Int)) (b := (0 : Int)) hb219 rfl q226
        refine aw_l2 aj_d261 rfl rfl hlv211_0 ?_
        refine aw_l0 aj_d261 rfl rfl hlv211_1 ?_
        refine aw_k hU.1 aj_d261 rfl rfl [_] rfl rfl rfl (Nat.le_of_ble_eq_true rfl) (ar_told hU (hI225).1 hG219 (by omega) (x := x212) (by omega)) ?_
        rintro _ S227 ⟨hT227, fc227, b227, rfl, hG227, cb227, bb227⟩
        have fr228 := aw_fr_tr fr224 (aw_fr_sub (F := [24, 25]) (A := []) (by decide) (by decide) fc227)
        have hI229 : aw_I s h (aw_sm S227) S227 := ⟨hT227, aw_sm_rf⟩
        show aw_W _ _ _ _ 70 lv211 [.int b227] _ _
        refine aw_t0 (j := 5) aj_d261 rfl (by decide) rfl ?_
        obtain ⟨lv230, elv230⟩ : ∃ l, l = aj_set1 lv211 5 (.int b227) := ⟨_, rfl⟩
        rw [← elv230]
        have hlv230_0 : aj_lv lv230 0 = some (.ref 117) := cw_e1 elv230 hlv211_0 (by decide) (Or.inl (by decide))
        have hlv230_1 : aj_lv lv230 1 = some (.int x212) := cw_e1 elv230 hlv211_1 (by decide) (Or.inl (by decide))
        have hlv230_3 : aj_lv lv230 3 = some (.int x213) := cw_e1 elv230 hlv211_3 (by decide) (Or.inl (by decide))
        have hlv230_5 : aj_lv lv230 5 = some (.int b227) := by rw [elv230]; exact ak_set1_eq _ _ _
        show aw_W _ _ _ _ 72 lv230 [] _ _
        refine aw_n aj_d261 rfl rfl ?_
        refine aw_t0 (j := 6) aj_d261 rfl (by decide) rfl ?_
        obtain ⟨lv231, elv231⟩ : ∃ l, l = aj_set1 lv230 6 (.int (Int32.ofInt 0)) := ⟨_, rfl⟩
        rw [← elv231]
        have hlv231_0 : aj_lv lv231 0 = some (.ref 117) := cw_e1 elv231 hlv230_0 (by decide) (Or.inl (by decide))
        have hlv231_1 : aj_lv lv231 1 = some (.int x212) := cw_e1 elv231 hlv230_1 (by decide) (Or.inl (by decide))
        have hlv231_3 : aj_lv lv231 3 = some (.int x213) := cw_e1 elv231 hlv230_3 (by decide) (Or.inl (by decide))
        have hlv231_5 : aj_lv lv231 5 = some (.int b227) := cw_e1 elv231 hlv230_5 (by decide) (Or.inr rfl)
        have hlv231_6 : aj_lv lv231 6 = some (.int (Int32.ofInt 0)) := by rw [elv231]; exact ak_set1_eq _ _ _
        show aw_W _ _ _ _ 75 lv231 [] _ _
        have c368 : (S219.1 56).toInt = (S210.1 56).toInt := (congrArg Int32.toInt (fc219.1 56 (by decide)).1).trans rfl
        have b369 : 0 ≤ (S219.1 56).toInt ∧ (S219.1 56).toInt ≤ 6 := aw_bd_f hs (hI225).1 (by decide) rfl
        have c370 : (S227.1 56).toInt = (S210.1 56).toInt := (congrArg Int32.toInt (fc227.1 56 (by decide)).1).trans c368
        have b371 : 0 ≤ (S227.1 56).toInt ∧ (S227.1 56).toInt ≤ 6 := aw_bd_f hs (hI229).1 (by decide) rfl
        have b372 : 0 ≤ (S219.1 30).toInt ∧ (S219.1 30).toInt ≤ 1001 := aw_bd_f hs (hI225).1 (by decide) rfl
        have c373 : (S227.1 30).toInt = (S219.1 30).toInt := (congrArg Int32.toInt (fc227.1 30 (by decide)).1).trans rfl
        have b374 : 0 ≤ (S227.1 30).toInt ∧ (S227.1 30).toInt ≤ 1001 := aw_bd_f hs (hI229).1 (by decide) rfl
        exact (ar_columns_L75_231 hU hd N56 S210 x212 x213 ihL56_208 hm56) _ S227 lv231 (x212) (x213) (b227) ((Int32.ofInt 0)) hlv231_0 hlv231_1 hlv231_3 hlv231_5 hlv231_6 ⟨(hI229).1, hG227⟩ fr228 (by omega) (by omega) (by omega) (by first | omega | decide) (by rw [show (S227.2.2.1 25) = S210.2.2.1 25 from ((fc227.2 25 (by decide)).1.trans ((fc219.2 25 (by decide)).1.trans rfl)), show (S227.2.2.1 15) = S210.2.2.1 15 from ((fc227.2 15 (by decide)).1.trans ((fc219.2 15 (by decide)).1.trans rfl)), show ((S227.1 56)).toInt = (S210.1 56).toInt from (by omega)]; exact TK56) (show _ ≤ ((S227.1 30)).toInt by omega) (show _ ≤ ((S227.1 30)).toInt by omega) (by rw [show (S227.2.2.1 15) = S219.2.2.1 15 from (fc227.2 15 (by decide)).1]; rcases cb227 with z | z <;> omega) (fun _ _ j hj => absurd hj (Nat.not_lt_zero _)) (show (0 : Int) ≤ ((S227.1 56)).toInt by omega) (Nat.lt_succ_self _)
      · have q226 : (1 : Int) = (0 : Int) := aw_t_ne (a := (1 : Int)) (b := (0 : Int)) hb219 rfl q226
        exfalso
        omega
theorem ar_columns_L75_413 (hU : aw_U tb s h) (hd : 6 ≤ d + 1) (N56 : Nat) (S392 : aj_S) (x394 : Int32) (x395 : Int32) (ihL56_390 : ∀ (S392 : aj_S) (lv393 : aj_V) (x394 : Int32) (x395 : Int32), (aj_lv lv393 0 = some (.ref 117)) → (aj_lv lv393 1 = some (.int x394)) → (aj_lv lv393 3 = some (.int x395)) → (aw_I s h (aw_G g) S392) → (aw_fr [24, 25, 26, 27, 28, 29, 30, 31, 33, 34, 56] [15, 25] S S392) → (20 ≤ x394.toInt ∧ x394.toInt ≤ 48) → (0 ≤ x395.toInt ∧ x395.toInt ≤ 1) → (ar_TK (S392.2.2.1 25) ((S392.1 56).toInt).toNat (S392.2.2.1 15 (x394.toInt).toNat).toInt) → ((S.1 30).toInt + 0 ≤ (S392.1 30).toInt) → (1001 - (S392.1 30).toInt).toNat < N56 → aw_W tb h d aj_m261 56 lv393 [] S392 ((ar_QT s h g [24, 25, 26, 27, 28, 29, 30, 31, 33, 34, 56] [15, 25] S (fun _ => True)))) (hm56 : (1001 - (S392.1 30).toInt).toNat < N56 + 1) : ∀ (N : Nat) (S415 : aj_S) (lv416 : aj_V) (x417 : Int32) (x418 : Int32) (x419 : Int32) (x420 : Int32), (aj_lv lv416 0 = some (.ref 117)) → (aj_lv lv416 1 = some (.int x417)) → (aj_lv lv416 3 = some (.int x418)) → (aj_lv lv416 5 = some (.int x419)) → (aj_lv lv416 6 = some (.int x420)) → (aw_I s h (aw_G g) S415) → (aw_fr [24, 25, 26, 27, 28, 29, 30, 31, 33, 34, 56] [15, 25] S S415) → (20 ≤ x417.toInt ∧ x417.toInt ≤ 48) → (0 ≤ x418.toInt ∧ x418.toInt ≤ 1) → ((-1) ≤ x419.toInt ∧ x419.toInt ≤ 5) → (0 ≤ x420.toInt ∧ x420.toInt ≤ 6) → (ar_TK (S415.2.2.1 25) ((S415.1 56).toInt).toNat (S415.2.2.1 15 (x417.toInt).toNat).toInt) → ((S.1 30).toInt + 1 ≤ (S415.1 30).toInt) → ((S392.1 30).toInt + 1 ≤ (S415.1 30).toInt) → (x419.toInt < (S415.2.2.1 15 (x417.toInt).toNat).toInt ∨ x419.toInt = -1) → (x418.toInt = 0 → 0 ≤ x419.toInt → ∀ j, j < (x420.toInt).toNat → (S415.2.2.1 25 j).toInt ≠ x419.toInt) → (x420.toInt ≤ (S415.1 56).toInt) → (6 - x420.toInt).toNat < N → aw_W tb h d aj_m261 75 lv416 [] S415 ((ar_QT s h g [24, 25, 26, 27, 28, 29, 30, 31, 33, 34, 56] [15, 25] S (fun _ => True))) := by
  have hs : aw_sT s := aw_hy_sT hU.2.2
  intro N75
  induction N75 with
  | zero =>
    intro S415 lv416 x417 x418 x419 x420 hlv416_0 hlv416_1 hlv416_3 hlv416_5 hlv416_6 hI421 fr422 bx417 bx418 bx419 bx420 TK75 ck75 cA75 cb75 nb75 k75 hm75
    omega
  | succ N75 ihL75_413 =>
    intro S415 lv416 x417 x418 x419 x420 hlv416_0 hlv416_1 hlv416_3 hlv416_5 hlv416_6 hI421 fr422 bx417 bx418 bx419 bx420 TK75 ck75 cA75 cb75 nb75 k75 hm75
    have hI423 : aw_I s h (aw_sm S415) S415 := ⟨hI421.1, aw_sm_rf⟩
    have b424 : 0 ≤ (S415.1 30).toInt ∧ (S415.1 30).toInt ≤ 1001 := aw_bd_f hs (hI423).1 (by decide) rfl
    have b425 : 0 ≤ (S415.1 56).toInt ∧ (S415.1 56).toInt ≤ 6 := aw_bd_f hs (hI423).1 (by decide) rfl
    refine aw_l0 aj_d261 rfl rfl hlv416_6 ?_
    refine aw_l2 aj_d261 rfl rfl hlv416_0 ?_
    refine aw_g hU.1 aj_d261 rfl rfl (by decide) (v := .int (S415.1 56)) rfl ?_
    refine aw_c (tgt := 118) aj_d261 rfl rfl (fun q426 => ?_) (fun q426 => ?_)
    · have q426 : x420.toInt ≥ (S415.1 56).toInt := aw_t_ge (a := x420.toInt) (b := (S415.1 56).toInt) rfl rfl q426
      refine aw_l0 aj_d261 rfl rfl hlv416_3 ?_
      refine aw_z (tgt := 127) aj_d261 rfl rfl (fun q427 => ?_) (fun q427 => ?_)
      · have q427 : x418.toInt ≠ (0 : Int) := aw_t_ne (a := x418.toInt) (b := (0 : Int)) rfl rfl q427
        refine aw_n aj_d261 rfl rfl ?_
        refine aw_n aj_d261 rfl rfl ?_
        refine aw_t0 (j := 3) aj_d261 rfl (by decide) rfl ?_
        obtain ⟨lv428, elv428⟩ : ∃ l, l = aj_set1 lv416 3 (.int (Int32.ofInt 1)) := ⟨_, rfl⟩
        rw [← elv428]
        have hlv428_0 : aj_lv lv428 0 = some (.ref 117) := cw_e1 elv428 hlv416_0 (by decide) (Or.inl (by decide))
        have hlv428_1 : aj_lv lv428 1 = some (.int x417) := cw_e1 elv428 hlv416_1 (by decide) (Or.inl (by decide))
        have hlv428_5 : aj_lv lv428 5 = some (.int x419) := cw_e1 elv428 hlv416_5 (by decide) (Or.inl (by decide))
        have hlv428_3 : aj_lv lv428 3 = some (.int (Int32.ofInt 1)) := by rw [elv428]; exact ak_set1_eq _ _ _
        show aw_W _ _ _ _ 133 lv428 [] _ _
        refine aw_l0 aj_d261 rfl rfl hlv428_3 ?_
        refine aw_z (tgt := 158) aj_d261 rfl rfl (fun q429 => ?_) (fun q429 => ?_)
        · have q429 : (1 : Int) ≠ (0 : Int) := aw_t_ne (a := (1 : Int)) (b := (0 : Int)) rfl rfl q429
          refine aw_l2 aj_d261 rfl rfl hlv428_0 ?_
          refine aw_n aj_d261 rfl rfl ?_
          refine aw_k hU.1 aj_d261 rfl rfl [_] rfl rfl rfl (Nat.le_of_ble_eq_true rfl) (ar_isSign hU (by omega) (b := (44 : Int)) rfl) ?_
          have b432 : 0 ≤ (S415.1 26).toInt ∧ (S415.1 26).toInt ≤ 5 := aw_bd_f hs (hI423).1 (by decide) rfl
          rintro _ S431 ⟨eS431, b430, rfl, kb430⟩
          rw [eS431]
          rcases kb430 with ⟨hb430, pb430, qb430⟩ | ⟨hb430, pb430⟩
          · skip
            have pb430 : ((S415.1 26)).toInt = 3 := pb430
            have qb430 : ((S415.1 29)).toInt = (44 : Int) := qb430
            show aw_W _ _ _ _ 164 lv428 [.int b430] _ _
            refine aw_t0 (j := 4) aj_d261 rfl (by decide) rfl ?_
            obtain ⟨lv433, elv433⟩ : ∃ l, l = aj_set1 lv428 4 (.int b430) := ⟨_, rfl⟩
            rw [← elv433]
            have hlv433_0 : aj_lv lv433 0 = some (.ref 117) := cw_e1 elv433 hlv428_0 (by decide) (Or.inl (by decide))
            have hlv433_1 : aj_lv lv433 1 = some (.int x417) := cw_e1 elv433 hlv428_1 (by decide) (Or.inl (by decide))
            have hlv433_3 : aj_lv lv433 3 = some (.int (Int32.ofInt 1)) := cw_e1 elv433 hlv428_3 (by decide) (Or.inr rfl)
            have hlv433_4 : aj_lv lv433 4 = some (.int b430) := by rw [elv433]; exact ak_set1_eq _ _ _
            show aw_W _ _ _ _ 166 lv433 [] _ _
            refine aw_l0 aj_d261 rfl rfl hlv433_4 ?_
            refine aw_z (tgt := 180) aj_d261 rfl rfl (fun q434 => ?_) (fun q434 => ?_)
            · have q434 : (1 : Int) = (0 : Int) := aw_t_eq (a := (1 : Int)) (b := (0 : Int)) hb430 rfl q434
              exfalso
              omega
            · have q434 : (1 : Int) ≠ (0 : Int) := aw_t_eq (a := (1 : Int)) (b := (0 : Int)) hb430 rfl q434
              refine aw_l2 aj_d261 rfl rfl hlv433_0 ?_
              refine aw_k hU.1 aj_d261 rfl rfl [] rfl rfl rfl (Nat.le_of_ble_eq_true rfl) (ar_pass hU (hI423).1 hI421.2 (by omega) (show ((S415.1 26)).toInt ≠ 0 by omega) (show ¬ (((S415.1 26)).toInt = 3 ∧ ((S415.1 29)).toInt = 63) by omega) (show ((S415.1 26)).toInt = 4 → ((S415.1 29)).toInt = 3 ∨ 6 ≤ ((S415.1 29)).toInt by omega)) ?_
              rintro _ S435 ⟨hT435, fc435, ⟨b435, rfl, hb435, hG435, fd435, hz435⟩ | ⟨b435, rfl, hb435, hG435, ck435, fd435, cj435⟩⟩
              · skip
                have fr436 := aw_fr_tr fr422 (aw_fr_sub (F := [24, 25, 31]) (A := []) (by decide) (by decide) fd435)
                have hI437 : aw_I s h (aw_sm S435) S435 := ⟨hT435, aw_sm_rf⟩
                show aw_W _ _ _ _ 175 lv433 [.int b435] _ _
                refine aw_z (tgt := 180) aj_d261 rfl rfl (fun q438 => ?_) (fun q438 => ?_)
                · have q438 : (0 : Int) ≠ (0 : Int) := aw_t_ne (a := (0 : Int)) (b := (0 : Int)) hb435 rfl q438
                  exfalso
                  omega
                · have q438 : (0 : Int) = (0 : Int) := aw_t_ne (a := (0 : Int)) (b := (0 : Int)) hb435 rfl q438
                  refine aw_n aj_d261 rfl rfl ?_
                  refine aw_e aj_d261 rfl rfl ?_
                  have c439 : (S435.1 30).toInt = (S415.1 30).toInt := (congrArg Int32.toInt (fd435.1 30 (by decide)).1).trans rfl
                  have b440 : 0 ≤ (S435.1 30).toInt ∧ (S435.1 30).toInt ≤ 1001 := aw_bd_f hs (hI437).1 (by decide) rfl
                  exact ⟨(hI437).1, fr436, Or.inl ⟨_, rfl, rfl, hG435, (show _ ≤ ((S435.1 30)).toInt by omega)⟩⟩
              · skip
                have cj435 : (S435.1 30).toInt = ((S415.1 30)).toInt + 1 := cj435
                have fr441 := aw_fr_tr fr422 (aw_fr_sub (F := [26, 27, 28, 29, 30]) (A := []) (by decide) (by decide) fd435)
                have hI442 : aw_I s h (aw_sm S435) S435 := ⟨hT435, aw_sm_rf⟩
                show aw_W _ _ _ _ 175 lv433 [.int b435] _ _
                refine aw_z (tgt := 180) aj_d261 rfl rfl (fun q443 => ?_) (fun q443 => ?_)
                · have q443 : (1 : Int) ≠ (0 : Int) := aw_t_ne (a := (1 : Int)) (b := (0 : Int)) hb435 rfl q443
                  refine aw_n aj_d261 rfl rfl ?_
                  refine aw_l0 aj_d261 rfl rfl hlv433_4 ?_
                  refine aw_z (tgt := 183) aj_d261 rfl rfl (fun q444 => ?_) (fun q444 => ?_)
                  · have q444 : (1 : Int) = (0 : Int) := aw_t_eq (a := (1 : Int)) (b := (0 : Int)) hb430 rfl q444
                    exfalso
                    omega
                  · have q444 : (1 : Int) ≠ (0 : Int) := aw_t_eq (a := (1 : Int)) (b := (0 : Int)) hb430 rfl q444
                    have c445 : (S435.1 56).toInt = (S415.1 56).toInt := (congrArg Int32.toInt (fd435.1 56 (by decide)).1).trans rfl
                    have b446 : 0 ≤ (S435.1 56).toInt ∧ (S435.1 56).toInt ≤ 6 := aw_bd_f hs (hI442).1 (by decide) rfl
                    have b447 : 0 ≤ (S435.1 30).toInt ∧ (S435.1 30).toInt ≤ 1001 := aw_bd_f hs (hI442).1 (by decide) rfl
                    exact ihL56_390 S435 lv433 (x417) ((Int32.ofInt 1)) hlv433_0 hlv433_1 hlv433_3 ⟨(hI442).1, hG435⟩ fr441 (by omega) (by first | omega | decide) (by rw [show (S435.2.2.1 25) = S415.2.2.1 25 from ((fd435.2 25 (by decide)).1.trans rfl), show (S435.2.2.1 15) = S415.2.2.1 15 from ((fd435.2 15 (by decide)).1.trans rfl), show ((S435.1 56)).toInt = (S415.1 56).toInt from (by omega)]; exact TK75) (show _ ≤ ((S435.1 30)).toInt by omega) (show (1001 - ((S435.1 30)).toInt).toNat < _ by omega)
                · have q443 : (1 : Int) = (0 : Int) := aw_t_ne (a := (1 : Int)) (b := (0 : Int)) hb435 rfl q443
                  exfalso
                  omega
          · skip
            clear pb430
            show aw_W _ _ _ _ 164 lv428 [.int b430] _ _
            refine aw_t0 (j := 4) aj_d261 rfl (by decide) rfl ?_
            obtain ⟨lv448, elv448⟩ : ∃ l, l = aj_set1 lv428 4 (.int b430) := ⟨_, rfl⟩
            rw [← elv448]
            have hlv448_0 : aj_lv lv448 0 = some (.ref 117) := cw_e1 elv448 hlv428_0 (by decide) (Or.inl (by decide))
            have hlv448_1 : aj_lv lv448 1 = some (.int x417) := cw_e1 elv448 hlv428_1 (by decide) (Or.inl (by decide))
            have hlv448_3 : aj_lv lv448 3 = some (.int (Int32.ofInt 1)) := cw_e1 elv448 hlv428_3 (by decide) (Or.inr rfl)
            have hlv448_4 : aj_lv lv448 4 = some (.int b430) := by rw [elv448]; exact ak_set1_eq _ _ _
            show aw_W _ _ _ _ 166 lv448 [] _ _
            refine aw_l0 aj_d261 rfl rfl hlv448_4 ?_
            refine aw_z (tgt := 180) aj_d261 rfl rfl (fun q449 => ?_) (fun q449 => ?_)
            · have q449 : (0 : Int) = (0 : Int) := aw_t_eq (a := (0 : Int)) (b := (0 : Int)) hb430 rfl q449
              refine aw_n aj_d261 rfl rfl ?_
              refine aw_l0 aj_d261 rfl rfl hlv448_4 ?_
              refine aw_z (tgt := 183) aj_d261 rfl rfl (fun q450 => ?_) (fun q450 => ?_)
              · have q450 : (0 : Int) = (0 : Int) := aw_t_eq (a := (0 : Int)) (b := (0 : Int)) hb430 rfl q450
                refine aw_l0 aj_d261 rfl rfl hlv448_3 ?_
                refine aw_z (tgt := 194) aj_d261 rfl rfl (fun q451 => ?_) (fun q451 => ?_)
                · have q451 : (1 : Int) = (0 : Int) := aw_t_eq (a := (1 : Int)) (b := (0 : Int)) rfl rfl q451
                  exfalso
                  omega
                · have q451 : (1 : Int) ≠ (0 : Int) := aw_t_eq (a := (1 : Int)) (b := (0 : Int)) rfl rfl q451
                  refine aw_l2 aj_d261 rfl rfl hlv448_0 ?_
                  refine aw_g hU.1 aj_d261 rfl rfl (by decide) (v := .ref 132) rfl ?_
                  refine aw_l0 aj_d261 rfl rfl hlv448_1 ?_
                  refine aw_n aj_d261 rfl rfl ?_
                  refine aw_st (k := 15) hU.1 aj_d261 (Or.inl ⟨rfl, rfl⟩) rfl (by decide) (by decide) rfl (a := x417.toInt) rfl (by omega) (by omega) ?_
                  have hI452 := aw_I_a (aw_UV hU aw_Gs_sm) (k := 15) (j := (x417.toInt).toNat) (v := aj_nar 0 (Int32.ofInt (-1))) hI423 (by decide) (by decide) (by decide) rfl (by decide) (by decide) rfl (aw_bp (a := (-1 : Int)) rfl (by omega) (by omega))
                  have fr453 := aw_fr_a (k := 15) (j := (x417.toInt).toNat) (v := aj_nar 0 (Int32.ofInt (-1))) (by decide) fr422
                  refine aw_l2 aj_d261 rfl rfl hlv448_0 ?_
                  refine aw_n aj_d261 rfl rfl ?_
                  refine aw_k hU.1 aj_d261 rfl rfl [_] rfl rfl rfl (Nat.le_of_ble_eq_true rfl) (aw_toK hU aw_Gs_G (con := ac_c219_41) (by omega) (ar_219_41 hU.2.1 (aw_SPc hU.2.2 aw_Gs_G) aw_kpc (arc_214b hU) (arc_215 hU)) ⟨(hI452).1, (aw_G_sm hI452.2 hI421.2)⟩ ⟨(aw_g117 hU.2.2), (cw_gw (a := (41 : Int)) rfl (by omega) (by omega)), trivial⟩ (fun e he => nomatch he)) ?_
                  rintro r454 S454 ⟨hr454, hJ454, fc454, po454, -⟩
                  have hT454 := hJ454.1
                  replace fc454 := aw_fr_sub (F' := [24, 25, 26, 27, 28, 29, 30, 31]) (A' := []) (by decide) (by decide) fc454
                  rcases ar_bool hU (hI452).1 hT454 hr454 po454 with ⟨b454, rfl, hb454, cf454⟩ | ⟨b454, rfl, hb454, ck454, gq454⟩
                  · skip
                    have cf454 : (S415.1 30).toInt + 0 ≤ (S454.1 30).toInt := cf454
                    have fr455 := aw_fr_tr fr453 (aw_fr_sub (F := [24, 25, 26, 27, 28, 29, 30, 31]) (A := []) (by decide) (by decide) fc454)
                    have hI456 : aw_I s h (aw_sm S454) S454 := ⟨hT454, aw_sm_rf⟩
                    show aw_W _ _ _ _ 200 lv448 [.int b454] _ _
                    refine aw_e aj_d261 rfl (cw_irb rfl (by omega)) ?_
                    have b457 : 0 ≤ (S454.1 30).toInt ∧ (S454.1 30).toInt ≤ 1001 := aw_bd_f hs (hI456).1 (by decide) rfl
                    exact ⟨(hI456).1, fr455, Or.inl ⟨_, rfl, hb454, hJ454.2, (show _ ≤ ((S454.1 30)).toInt by omega)⟩⟩
                  · skip
                    have ck454 : (S415.1 30).toInt + 1 ≤ (S454.1 30).toInt := ck454
                    have fr458 := aw_fr_tr fr453 (aw_fr_sub (F := [24, 25, 26, 27, 28, 29, 30, 31]) (A := []) (by decide) (by decide) fc454)
                    have hI459 : aw_I s h (aw_sm S454) S454 := ⟨hT454, aw_sm_rf⟩
                    show aw_W _ _ _ _ 200 lv448 [.int b454] _ _
                    refine aw_e aj_d261 rfl (cw_irb rfl (by omega)) ?_
                    have b460 : 0 ≤ (S454.1 30).toInt ∧ (S454.1 30).toInt ≤ 1001 := aw_bd_f hs (hI459).1 (by decide) rfl
                    exact ⟨(hI459).1, fr458, Or.inr ⟨_, rfl, hb454, hJ454.2, (show _ + 1 ≤ ((S454.1 30)).toInt by omega), trivial⟩⟩
              · have q450 : (0 : Int) ≠ (0 : Int) := aw_t_eq (a := (0 : Int)) (b := (0 : Int)) hb430 rfl q450
                exfalso
                omega
            · have q449 : (0 : Int) ≠ (0 : Int) := aw_t_eq (a := (0 : Int)) (b := (0 : Int)) hb430 rfl q449
              exfalso
              omega
        · have q429 : (1 : Int) = (0 : Int) := aw_t_ne (a := (1 : Int)) (b := (0 : Int)) rfl rfl q429
          exfalso
          omega
      · have q427 : x418.toInt = (0 : Int) := aw_t_ne (a := x418.toInt) (b := (0 : Int)) rfl rfl q427
        refine aw_l0 aj_d261 rfl rfl hlv416_5 ?_
        refine aw_z (tgt := 131) aj_d261 rfl rfl (fun q461 => ?_) (fun q461 => ?_)
        · have q461 : x419.toInt ≥ (0 : Int) := aw_t_ge (a := x419.toInt) (b := (0 : Int)) rfl rfl q461
          refine aw_n aj_d261 rfl rfl ?_
          refine aw_t0 (j := 3) aj_d261 rfl (by decide) rfl ?_
          obtain ⟨lv462, elv462⟩ : ∃ l, l = aj_set1 lv416 3 (.int (Int32.ofInt 0)) := ⟨_, rfl⟩
          rw [← elv462]
          have hlv462_0 : aj_lv lv462 0 = some (.ref 117) := cw_e1 elv462 hlv416_0 (by decide) (Or.inl (by decide))
          have hlv462_1 : aj_lv lv462 1 = some (.int x417) := cw_e1 elv462 hlv416_1 (by decide) (Or.inl (by decide))
          have hlv462_5 : aj_lv lv462 5 = some (.int x419) := cw_e1 elv462 hlv416_5 (by decide) (Or.inl (by decide))
          have hlv462_3 : aj_lv lv462 3 = some (.int (Int32.ofInt 0)) := by rw [elv462]; exact ak_set1_eq _ _ _
          show aw_W _ _ _ _ 133 lv462 [] _ _
          refine aw_l0 aj_d261 rfl rfl hlv462_3 ?_
          refine aw_z (tgt := 158) aj_d261 rfl rfl (fun q463 => ?_) (fun q463 => ?_)
          · have q463 : (0 : Int) ≠ (0 : Int) := aw_t_ne (a := (0 : Int)) (b := (0 : Int)) rfl rfl q463
            exfalso
            omega
          · have q463 : (0 : Int) = (0 : Int) := aw_t_ne (a := (0 : Int)) (b := (0 : Int)) rfl rfl q463
            have pg := ar_TK_le TK75
            have bc6 := aw_bd_a hs hI423.1 (k := 15) (j := (x417.toInt).toNat) (by decide) (by decide) rfl (by decide) rfl (by omega)
            have pg6 : (S415.1 56).toInt < 6 := by
              by_cases z : (S415.1 56).toInt < 6
              · exact z
              · exfalso
                have bq := ar_pig6 TK75 (by omega) (by omega) (fun j hj => nb75 (by omega) (by omega) j (by omega)) cb75
                omega
            refine aw_l2 aj_d261 rfl rfl hlv462_0 ?_
            refine aw_g hU.1 aj_d261 rfl rfl (by decide) (v := .ref 142) rfl ?_
            refine aw_l2 aj_d261 rfl rfl hlv462_0 ?_
            refine aw_g hU.1 aj_d261 rfl rfl (by decide) (v := .int (S415.1 56)) rfl ?_
            refine aw_l0 aj_d261 rfl rfl hlv462_5 ?_
            refine aw_st (k := 25) hU.1 aj_d261 (Or.inl ⟨rfl, rfl⟩) rfl (by decide) (by decide) rfl (a := (S415.1 56).toInt) rfl (by omega) (by omega) ?_
            have hI464 := aw_I_a (aw_UV hU aw_Gs_sm) (k := 25) (j := ((S415.1 56).toInt).toNat) (v := aj_nar 0 x419) hI423 (by decide) (by decide) (by decide) rfl (by decide) (by decide) rfl (aw_bp (a := x419.toInt) rfl (by omega) (by omega))
            have fr465 := aw_fr_a (k := 25) (j := ((S415.1 56).toInt).toNat) (v := aj_nar 0 x419) (by decide) fr422
            refine aw_l2 aj_d261 rfl rfl hlv462_0 ?_
            refine aw_n aj_d261 rfl rfl ?_
            refine aw_g hU.1 aj_d261 rfl rfl (by decide) (v := .int (S415.1 56)) rfl ?_
            refine aw_n aj_d261 rfl rfl ?_
            refine aw_add aj_d261 rfl (a := (S415.1 56).toInt) (b := (1 : Int)) rfl rfl (by omega) (by omega) (fun x466 ex466 => ?_)
            refine aw_p hU.1 aj_d261 rfl rfl (by decide) rfl ?_
            have hI467 := aw_I_f (aw_UV hU aw_Gs_sm) (k := 56) (v := x466) hI464 (by decide) (by decide) rfl (aw_bp (a := x466.toInt) rfl (by omega) (by omega))
            have fr468 := aw_fr_f (k := 56) (v := x466) (by decide) fr465
            have TK469 : ar_TK (((aw_wf (aw_wa S415 25 ((S415.1 56).toInt).toNat (aj_nar 0 x419)) 56 x466)).2.2.1 25) ((((aw_wf (aw_wa S415 25 ((S415.1 56).toInt).toNat (aj_nar 0 x419)) 56 x466)).1 56).toInt).toNat (((aw_wf (aw_wa S415 25 ((S415.1 56).toInt).toNat (aj_nar 0 x419)) 56 x466)).2.2.1 15 (x417.toInt).toNat).toInt := by
              show ar_TK (upd (S415.2.2.1 25) ((S415.1 56).toInt).toNat x419) ((x466).toInt).toNat (S415.2.2.1 15 (x417.toInt).toNat).toInt
              rw [show ((x466).toInt).toNat = ((S415.1 56).toInt).toNat + 1 by omega]
              exact ar_TK_push TK75 (by omega) (fun j hj => nb75 (by omega) (by omega) j (by omega))
            refine aw_l2 aj_d261 rfl rfl hlv462_0 ?_
            refine aw_n aj_d261 rfl rfl ?_
            refine aw_k hU.1 aj_d261 rfl rfl [_] rfl rfl rfl (Nat.le_of_ble_eq_true rfl) (ar_isSign hU (by omega) (b := (44 : Int)) rfl) ?_
            have b472 : 0 ≤ (S415.1 26).toInt ∧ (S415.1 26).toInt ≤ 5 := aw_bd_f hs (hI423).1 (by decide) rfl
            rintro _ S471 ⟨eS471, b470, rfl, kb470⟩
            rw [eS471]
            rcases kb470 with ⟨hb470, pb470, qb470⟩ | ⟨hb470, pb470⟩
            · skip
              have pb470 : ((S415.1 26)).toInt = 3 := pb470
              have qb470 : ((S415.1 29)).toInt = (44 : Int) := qb470
              show aw_W _ _ _ _ 164 lv462 [.int b470] _ _
              refine aw_t0 (j := 4) aj_d261 rfl (by decide) rfl ?_
              obtain ⟨lv473, elv473⟩ : ∃ l, l = aj_set1 lv462 4 (.int b470) := ⟨_, rfl⟩
              rw [← elv473]
              have hlv473_0 : aj_lv lv473 0 = some (.ref 117) := cw_e1 elv473 hlv462_0 (by decide) (Or.inl (by decide))
              have hlv473_1 : aj_lv lv473 1 = some (.int x417) := cw_e1 elv473 hlv462_1 (by decide) (Or.inl (by decide))
              have hlv473_3 : aj_lv lv473 3 = some (.int (Int32.ofInt 0)) := cw_e1 elv473 hlv462_3 (by decide) (Or.inr rfl)
              have hlv473_4 : aj_lv lv473 4 = some (.int b470) := by rw [elv473]; exact ak_set1_eq _ _ _
              show aw_W _ _ _ _ 166 lv473 [] _ _
              refine aw_l0 aj_d261 rfl rfl hlv473_4 ?_
              refine aw_z (tgt := 180) aj_d261 rfl rfl (fun q474 => ?_) (fun q474 => ?_)
              · have q474 : (1 : Int) = (0 : Int) := aw_t_eq (a := (1 : Int)) (b := (0 : Int)) hb470 rfl q474
                exfalso
                omega
              · have q474 : (1 : Int) ≠ (0 : Int) := aw_t_eq (a := (1 : Int)) (b := (0 : Int)) hb470 rfl q474
                refine aw_l2 aj_d261 rfl rfl hlv473_0 ?_
                refine aw_k hU.1 aj_d261 rfl rfl [] rfl rfl rfl (Nat.le_of_ble_eq_true rfl) (ar_pass hU (hI467).1 (aw_G_sm hI467.2 hI421.2) (by omega) (show ((S415.1 26)).toInt ≠ 0 by omega) (show ¬ (((S415.1 26)).toInt = 3 ∧ ((S415.1 29)).toInt = 63) by omega) (show ((S415.1 26)).toInt = 4 → ((S415.1 29)).toInt = 3 ∨ 6 ≤ ((S415.1 29)).toInt by omega)) ?_
                rintro _ S475 ⟨hT475, fc475, ⟨b475, rfl, hb475, hG475, fd475, hz475⟩ | ⟨b475, rfl, hb475, hG475, ck475, fd475, cj475⟩⟩
                · skip
                  have fr476 := aw_fr_tr fr468 (aw_fr_sub (F := [24, 25, 31]) (A := []) (by decide) (by decide) fd475)
                  have hI477 : aw_I s h (aw_sm S475) S475 := ⟨hT475, aw_sm_rf⟩
                  show aw_W _ _ _ _ 175 lv473 [.int b475] _ _
                  refine aw_z (tgt := 180) aj_d261 rfl rfl (fun q478 => ?_) (fun q478 => ?_)
                  · have q478 : (0 : Int) ≠ (0 : Int) := aw_t_ne (a := (0 : Int)) (b := (0 : Int)) hb475 rfl q478
                    exfalso
                    omega
                  · have q478 : (0 : Int) = (0 : Int) := aw_t_ne (a := (0 : Int)) (b := (0 : Int)) hb475 rfl q478
                    refine aw_n aj_d261 rfl rfl ?_
                    refine aw_e aj_d261 rfl rfl ?_
                    have c479 : (S475.1 30).toInt = (S415.1 30).toInt := (congrArg Int32.toInt (fd475.1 30 (by decide)).1).trans rfl
                    have b480 : 0 ≤ (S475.1 30).toInt ∧ (S475.1 30).toInt ≤ 1001 := aw_bd_f hs (hI477).1 (by decide) rfl
                    exact ⟨(hI477).1, fr476, Or.inl ⟨_, rfl, rfl, hG475, (show _ ≤ ((S475.1 30)).toInt by omega)⟩⟩
                · skip
                  have cj475 : (S475.1 30).toInt = ((S415.1 30)).toInt + 1 := cj475
                  have TK475 : ar_TK (S475.2.2.1 25) ((S475.1 56).toInt).toNat (S475.2.2.1 15 (x417.toInt).toNat).toInt := by
                    rw [(fd475.2 25 (by decide)).1, (fd475.2 15 (by decide)).1, (fd475.1 56 (by decide)).1]
                    exact TK469
                  have fr481 := aw_fr_tr fr468 (aw_fr_sub (F := [26, 27, 28, 29, 30]) (A := []) (by decide) (by decide) fd475)
                  have hI482 : aw_I s h (aw_sm S475) S475 := ⟨hT475, aw_sm_rf⟩
                  show aw_W _ _ _ _ 175 lv473 [.int b475] _ _
                  refine aw_z (tgt := 180) aj_d261 rfl rfl (fun q483 => ?_) (fun q483 => ?_)
                  · have q483 : (1 : Int) ≠ (0 : Int) := aw_t_ne (a := (1 : Int)) (b := (0 : Int)) hb475 rfl q483
                    refine aw_n aj_d261 rfl rfl ?_
                    refine aw_l0 aj_d261 rfl rfl hlv473_4 ?_
                    refine aw_z (tgt := 183) aj_d261 rfl rfl (fun q484 => ?_) (fun q484 => ?_)
                    · have q484 : (1 : Int) = (0 : Int) := aw_t_eq (a := (1 : Int)) (b := (0 : Int)) hb470 rfl q484
                      exfalso
                      omega
                    · have q484 : (1 : Int) ≠ (0 : Int) := aw_t_eq (a := (1 : Int)) (b := (0 : Int)) hb470 rfl q484
                      have c485 : (S475.1 56).toInt = x466.toInt := (congrArg Int32.toInt (fd475.1 56 (by decide)).1).trans rfl
                      have b486 : 0 ≤ (S475.1 56).toInt ∧ (S475.1 56).toInt ≤ 6 := aw_bd_f hs (hI482).1 (by decide) rfl
                      have b487 : 0 ≤ (S475.1 30).toInt ∧ (S475.1 30).toInt ≤ 1001 := aw_bd_f hs (hI482).1 (by decide) rfl
                      exact ihL56_390 S475 lv473 (x417) ((Int32.ofInt 0)) hlv473_0 hlv473_1 hlv473_3 ⟨(hI482).1, hG475⟩ fr481 (by omega) (by first | omega | decide) TK475 (show _ ≤ ((S475.1 30)).toInt by omega) (show (1001 - ((S475.1 30)).toInt).toNat < _ by omega)
                  · have q483 : (1 : Int) = (0 : Int) := aw_t_ne (a := (1 : Int)) (b := (0 : Int)) hb475 rfl q483
                    exfalso
                    omega
            · skip
              clear pb470
              show aw_W _ _ _ _ 164 lv462 [.int b470] _ _
              refine aw_t0 (j := 4) aj_d261 rfl (by decide) rfl ?_
              obtain ⟨lv488, elv488⟩ : ∃ l, l = aj_set1 lv462 4 (.int b470) := ⟨_, rfl⟩
              rw [← elv488]
              have hlv488_0 : aj_lv lv488 0 = some (.ref 117) := cw_e1 elv488 hlv462_0 (by decide) (Or.inl (by decide))
              have hlv488_1 : aj_lv lv488 1 = some (.int x417) := cw_e1 elv488 hlv462_1 (by decide) (Or.inl (by decide))
              have hlv488_3 : aj_lv lv488 3 = some (.int (Int32.ofInt 0)) := cw_e1 elv488 hlv462_3 (by decide) (Or.inr rfl)
              have hlv488_4 : aj_lv lv488 4 = some (.int b470) := by rw [elv488]; exact ak_set1_eq _ _ _
              show aw_W _ _ _ _ 166 lv488 [] _ _
              refine aw_l0 aj_d261 rfl rfl hlv488_4 ?_
              refine aw_z (tgt := 180) aj_d261 rfl rfl (fun q489 => ?_) (fun q489 => ?_)
              · have q489 : (0 : Int) = (0 : Int) := aw_t_eq (a := (0 : Int)) (b := (0 : Int)) hb470 rfl q489
                refine aw_n aj_d261 rfl rfl ?_
                refine aw_l0 aj_d261 rfl rfl hlv488_4 ?_
                refine aw_z (tgt := 183) aj_d261 rfl rfl (fun q490 => ?_) (fun q490 => ?_)
                · have q490 : (0 : Int) = (0 : Int) := aw_t_eq (a := (0 : Int)) (b := (0 : Int)) hb470 rfl q490
                  refine aw_l0 aj_d261 rfl rfl hlv488_3 ?_
                  refine aw_z (tgt := 194) aj_d261 rfl rfl (fun q491 => ?_) (fun q491 => ?_)
                  · have q491 : (0 : Int) = (0 : Int) := aw_t_eq (a := (0 : Int)) (b := (0 : Int)) rfl rfl q491
                    refine aw_l2 aj_d261 rfl rfl hlv488_0 ?_
                    refine aw_n aj_d261 rfl rfl ?_
                    refine aw_k hU.1 aj_d261 rfl rfl [_] rfl rfl rfl (Nat.le_of_ble_eq_true rfl) (aw_toK hU aw_Gs_G (con := ac_c219_41) (by omega) (ar_219_41 hU.2.1 (aw_SPc hU.2.2 aw_Gs_G) aw_kpc (arc_214b hU) (arc_215 hU)) ⟨(hI467).1, (aw_G_sm hI467.2 hI421.2)⟩ ⟨(aw_g117 hU.2.2), (cw_gw (a := (41 : Int)) rfl (by omega) (by omega)), trivial⟩ (fun e he => nomatch he)) ?_
                    rintro r492 S492 ⟨hr492, hJ492, fc492, po492, -⟩
                    have hT492 := hJ492.1
                    replace fc492 := aw_fr_sub (F' := [24, 25, 26, 27, 28, 29, 30, 31]) (A' := []) (by decide) (by decide) fc492
                    rcases ar_bool hU (hI467).1 hT492 hr492 po492 with ⟨b492, rfl, hb492, cf492⟩ | ⟨b492, rfl, hb492, ck492, gq492⟩
                    · skip
                      have cf492 : (S415.1 30).toInt + 0 ≤ (S492.1 30).toInt := cf492
                      have fr493 := aw_fr_tr fr468 (aw_fr_sub (F := [24, 25, 26, 27, 28, 29, 30, 31]) (A := []) (by decide) (by decide) fc492)
                      have hI494 : aw_I s h (aw_sm S492) S492 := ⟨hT492, aw_sm_rf⟩
                      show aw_W _ _ _ _ 200 lv488 [.int b492] _ _
                      refine aw_e aj_d261 rfl (cw_irb rfl (by omega)) ?_
                      have b495 : 0 ≤ (S492.1 30).toInt ∧ (S492.1 30).toInt ≤ 1001 := aw_bd_f hs (hI494).1 (by decide) rfl
                      exact ⟨(hI494).1, fr493, Or.inl ⟨_, rfl, hb492, hJ492.2, (show _ ≤ ((S492.1 30)).toInt by omega)⟩⟩
                    · skip
                      have ck492 : (S415.1 30).toInt + 1 ≤ (S492.1 30).toInt := ck492
                      have fr496 := aw_fr_tr fr468 (aw_fr_sub (F := [24, 25, 26, 27, 28, 29, 30, 31]) (A := []) (by decide) (by decide) fc492)
                      have hI497 : aw_I s h (aw_sm S492) S492 := ⟨hT492, aw_sm_rf⟩
                      show aw_W _ _ _ _ 200 lv488 [.int b492] _ _
                      refine aw_e aj_d261 rfl (cw_irb rfl (by omega)) ?_
                      have b498 : 0 ≤ (S492.1 30).toInt ∧ (S492.1 30).toInt ≤ 1001 := aw_bd_f hs (hI497).1 (by decide) rfl
                      exact ⟨(hI497).1, fr496, Or.inr ⟨_, rfl, hb492, hJ492.2, (show _ + 1 ≤ ((S492.1 30)).toInt by omega), trivial⟩⟩
                  · have q491 : (0 : Int) ≠ (0 : Int) := aw_t_eq (a := (0 : Int)) (b := (0 : Int)) rfl rfl q491
                    exfalso
                    omega
                · have q490 : (0 : Int) ≠ (0 : Int) := aw_t_eq (a := (0 : Int)) (b := (0 : Int)) hb470 rfl q490
                  exfalso
                  omega
              · have q489 : (0 : Int) ≠ (0 : Int) := aw_t_eq (a := (0 : Int)) (b := (0 : Int)) hb470 rfl q489
                exfalso
                omega
        · have q461 : x419.toInt < (0 : Int) := aw_t_ge (a := x419.toInt) (b := (0 : Int)) rfl rfl q461
          refine aw_n aj_d261 rfl rfl ?_
          refine aw_n aj_d261 rfl rfl ?_
          refine aw_t0 (j := 3) aj_d261 rfl (by decide) rfl ?_
          obtain ⟨lv499, elv499⟩ : ∃ l, l = aj_set1 lv416 3 (.int (Int32.ofInt 1)) := ⟨_, rfl⟩
          rw [← elv499]
          have hlv499_0 : aj_lv lv499 0 = some (.ref 117) := cw_e1 elv499 hlv416_0 (by decide) (Or.inl (by decide))
          have hlv499_1 : aj_lv lv499 1 = some (.int x417) := cw_e1 elv499 hlv416_1 (by decide) (Or.inl (by decide))
          have hlv499_5 : aj_lv lv499 5 = some (.int x419) := cw_e1 elv499 hlv416_5 (by decide) (Or.inl (by decide))
          have hlv499_3 : aj_lv lv499 3 = some (.int (Int32.ofInt 1)) := by rw [elv499]; exact ak_set1_eq _ _ _
          show aw_W _ _ _ _ 133 lv499 [] _ _
          refine aw_l0 aj_d261 rfl rfl hlv499_3 ?_
          refine aw_z (tgt := 158) aj_d261 rfl rfl (fun q500 => ?_) (fun q500 => ?_)
          · have q500 : (1 : Int) ≠ (0 : Int) := aw_t_ne (a := (1 : Int)) (b := (0 : Int)) rfl rfl q500
            refine aw_l2 aj_d261 rfl rfl hlv499_0 ?_
            refine aw_n aj_d261 rfl rfl ?_
            refine aw_k hU.1 aj_d261 rfl rfl [_] rfl rfl rfl (Nat.le_of_ble_eq_true rfl) (ar_isSign hU (by omega) (b := (44 : Int)) rfl) ?_
            have b503 : 0 ≤ (S415.1 26).toInt ∧ (S415.1 26).toInt ≤ 5 := aw_bd_f hs (hI423).1 (by decide) rfl
            rintro _ S502 ⟨eS502, b501, rfl, kb501⟩
            rw [eS502]
            rcases kb501 with ⟨hb501, pb501, qb501⟩ | ⟨hb501, pb501⟩
            · skip
              have pb501 : ((S415.1 26)).toInt = 3 := pb501
              have qb501 : ((S415.1 29)).toInt = (44 : Int) := qb501
              show aw_W _ _ _ _ 164 lv499 [.int b501] _ _
              refine aw_t0 (j := 4) aj_d261 rfl (by decide) rfl ?_
              obtain ⟨lv504, elv504⟩ : ∃ l, l = aj_set1 lv499 4 (.int b501) := ⟨_, rfl⟩
              rw [← elv504]
              have hlv504_0 : aj_lv lv504 0 = some (.ref 117) := cw_e1 elv504 hlv499_0 (by decide) (Or.inl (by decide))
              have hlv504_1 : aj_lv lv504 1 = some (.int x417) := cw_e1 elv504 hlv499_1 (by decide) (Or.inl (by decide))
              have hlv504_3 : aj_lv lv504 3 = some (.int (Int32.ofInt 1)) := cw_e1 elv504 hlv499_3 (by decide) (Or.inr rfl)
              have hlv504_4 : aj_lv lv504 4 = some (.int b501) := by rw [elv504]; exact ak_set1_eq _ _ _
              show aw_W _ _ _ _ 166 lv504 [] _ _
              refine aw_l0 aj_d261 rfl rfl hlv504_4 ?_
              refine aw_z (tgt := 180) aj_d261 rfl rfl (fun q505 => ?_) (fun q505 => ?_)
              · have q505 : (1 : Int) = (0 : Int) := aw_t_eq (a := (1 : Int)) (b := (0 : Int)) hb501 rfl q505
                exfalso
                omega
              · have q505 : (1 : Int) ≠ (0 : Int) := aw_t_eq (a := (1 : Int)) (b := (0 : Int)) hb501 rfl q505
                refine aw_l2 aj_d261 rfl rfl hlv504_0 ?_
                refine aw_k hU.1 aj_d261 rfl rfl [] rfl rfl rfl (Nat.le_of_ble_eq_true rfl) (ar_pass hU (hI423).1 hI421.2 (by omega) (show ((S415.1 26)).toInt ≠ 0 by omega) (show ¬ (((S415.1 26)).toInt = 3 ∧ ((S415.1 29)).toInt = 63) by omega) (show ((S415.1 26)).toInt = 4 → ((S415.1 29)).toInt = 3 ∨ 6 ≤ ((S415.1 29)).toInt by omega)) ?_
                rintro _ S506 ⟨hT506, fc506, ⟨b506, rfl, hb506, hG506, fd506, hz506⟩ | ⟨b506, rfl, hb506, hG506, ck506, fd506, cj506⟩⟩
                · skip
                  have fr507 := aw_fr_tr fr422 (aw_fr_sub (F := [24, 25, 31]) (A := []) (by decide) (by decide) fd506)
                  have hI508 : aw_I s h (aw_sm S506) S506 := ⟨hT506, aw_sm_rf⟩
                  show aw_W _ _ _ _ 175 lv504 [.int b506] _ _
                  refine aw_z (tgt := 180) aj_d261 rfl rfl (fun q509 => ?_) (fun q509 => ?_)
                  · have q509 : (0 : Int) ≠ (0 : Int) := aw_t_ne (a := (0 : Int)) (b := (0 : Int)) hb506 rfl q509
                    exfalso
                    omega
                  · have q509 : (0 : Int) = (0 : Int) := aw_t_ne (a := (0 : Int)) (b := (0 : Int)) hb506 rfl q509
                    refine aw_n aj_d261 rfl rfl ?_
                    refine aw_e aj_d261 rfl rfl ?_
                    have c510 : (S506.1 30).toInt = (S415.1 30).toInt := (congrArg Int32.toInt (fd506.1 30 (by decide)).1).trans rfl
                    have b511 : 0 ≤ (S506.1 30).toInt ∧ (S506.1 30).toInt ≤ 1001 := aw_bd_f hs (hI508).1 (by decide) rfl
                    exact ⟨(hI508).1, fr507, Or.inl ⟨_, rfl, rfl, hG506, (show _ ≤ ((S506.1 30)).toInt by omega)⟩⟩
                · skip
                  have cj506 : (S506.1 30).toInt = ((S415.1 30)).toInt + 1 := cj506
                  have fr512 := aw_fr_tr fr422 (aw_fr_sub (F := [26, 27, 28, 29, 30]) (A := []) (by decide) (by decide) fd506)
                  have hI513 : aw_I s h (aw_sm S506) S506 := ⟨hT506, aw_sm_rf⟩
                  show aw_W _ _ _ _ 175 lv504 [.int b506] _ _
                  refine aw_z (tgt := 180) aj_d261 rfl rfl (fun q514 => ?_) (fun q514 => ?_)
                  · have q514 : (1 : Int) ≠ (0 : Int) := aw_t_ne (a := (1 : Int)) (b := (0 : Int)) hb506 rfl q514
                    refine aw_n aj_d261 rfl rfl ?_
                    refine aw_l0 aj_d261 rfl rfl hlv504_4 ?_
                    refine aw_z (tgt := 183) aj_d261 rfl rfl (fun q515 => ?_) (fun q515 => ?_)
                    · have q515 : (1 : Int) = (0 : Int) := aw_t_eq (a := (1 : Int)) (b := (0 : Int)) hb501 rfl q515
                      exfalso
                      omega
                    · have q515 : (1 : Int) ≠ (0 : Int) := aw_t_eq (a := (1 : Int)) (b := (0 : Int)) hb501 rfl q515
                      have c516 : (S506.1 56).toInt = (S415.1 56).toInt := (congrArg Int32.toInt (fd506.1 56 (by decide)).1).trans rfl
                      have b517 : 0 ≤ (S506.1 56).toInt ∧ (S506.1 56).toInt ≤ 6 := aw_bd_f hs (hI513).1 (by decide) rfl
                      have b518 : 0 ≤ (S506.1 30).toInt ∧ (S506.1 30).toInt ≤ 1001 := aw_bd_f hs (hI513).1 (by decide) rfl
                      exact ihL56_390 S506 lv504 (x417) ((Int32.ofInt 1)) hlv504_0 hlv504_1 hlv504_3 ⟨(hI513).1, hG506⟩ fr512 (by omega) (by first | omega | decide) (by rw [show (S506.2.2.1 25) = S415.2.2.1 25 from ((fd506.2 25 (by decide)).1.trans rfl), show (S506.2.2.1 15) = S415.2.2.1 15 from ((fd506.2 15 (by decide)).1.trans rfl), show ((S506.1 56)).toInt = (S415.1 56).toInt from (by omega)]; exact TK75) (show _ ≤ ((S506.1 30)).toInt by omega) (show (1001 - ((S506.1 30)).toInt).toNat < _ by omega)
                  · have q514 : (1 : Int) = (0 : Int) := aw_t_ne (a := (1 : Int)) (b := (0 : Int)) hb506 rfl q514
                    exfalso
                    omega
            · skip
              clear pb501
              show aw_W _ _ _ _ 164 lv499 [.int b501] _ _
              refine aw_t0 (j := 4) aj_d261 rfl (by decide) rfl ?_
              obtain ⟨lv519, elv519⟩ : ∃ l, l = aj_set1 lv499 4 (.int b501) := ⟨_, rfl⟩
              rw [← elv519]
              have hlv519_0 : aj_lv lv519 0 = some (.ref 117) := cw_e1 elv519 hlv499_0 (by decide) (Or.inl (by decide))
              have hlv519_1 : aj_lv lv519 1 = some (.int x417) := cw_e1 elv519 hlv499_1 (by decide) (Or.inl (by decide))
              have hlv519_3 : aj_lv lv519 3 = some (.int (Int32.ofInt 1)) := cw_e1 elv519 hlv499_3 (by decide) (Or.inr rfl)
              have hlv519_4 : aj_lv lv519 4 = some (.int b501) := by rw [elv519]; exact ak_set1_eq _ _ _
              show aw_W _ _ _ _ 166 lv519 [] _ _
              refine aw_l0 aj_d261 rfl rfl hlv519_4 ?_
              refine aw_z (tgt := 180) aj_d261 rfl rfl (fun q520 => ?_) (fun q520 => ?_)
              · have q520 : (0 : Int) = (0 : Int) := aw_t_eq (a := (0 : Int)) (b := (0 : Int)) hb501 rfl q520
                refine aw_n aj_d261 rfl rfl ?_
                refine aw_l0 aj_d261 rfl rfl hlv519_4 ?_
                refine aw_z (tgt := 183) aj_d261 rfl rfl (fun q521 => ?_) (fun q521 => ?_)
                · have q521 : (0 : Int) = (0 : Int) := aw_t_eq (a := (0 : Int)) (b := (0 : Int)) hb501 rfl q521
                  refine aw_l0 aj_d261 rfl rfl hlv519_3 ?_
                  refine aw_z (tgt := 194) aj_d261 rfl rfl (fun q522 => ?_) (fun q522 => ?_)
                  · have q522 : (1 : Int) = (0 : Int) := aw_t_eq (a := (1 : Int)) (b := (0 : Int)) rfl rfl q522
                    exfalso
                    omega
                  · have q522 : (1 : Int) ≠ (0 : Int) := aw_t_eq (a := (1 : Int)) (b := (0 : Int)) rfl rfl q522
                    refine aw_l2 aj_d261 rfl rfl hlv519_0 ?_
                    refine aw_g hU.1 aj_d261 rfl rfl (by decide) (v := .ref 132) rfl ?_
                    refine aw_l0 aj_d261 rfl rfl hlv519_1 ?_
                    refine aw_n aj_d261 rfl rfl ?_
                    refine aw_st (k := 15) hU.1 aj_d261 (Or.inl ⟨rfl, rfl⟩) rfl (by decide) (by decide) rfl (a := x417.toInt) rfl (by omega) (by omega) ?_
                    have hI523 := aw_I_a (aw_UV hU aw_Gs_sm) (k := 15) (j := (x417.toInt).toNat) (v := aj_nar 0 (Int32.ofInt (-1))) hI423 (by decide) (by decide) (by decide) rfl (by decide) (by decide) rfl (aw_bp (a := (-1 : Int)) rfl (by omega) (by omega))
                    have fr524 := aw_fr_a (k := 15) (j := (x417.toInt).toNat) (v := aj_nar 0 (Int32.ofInt (-1))) (by decide) fr422
                    refine aw_l2 aj_d261 rfl rfl hlv519_0 ?_
                    refine aw_n aj_d261 rfl rfl ?_
                    refine aw_k hU.1 aj_d261 rfl rfl [_] rfl rfl rfl (Nat.le_of_ble_eq_true rfl) (aw_toK hU aw_Gs_G (con := ac_c219_41) (by omega) (ar_219_41 hU.2.1 (aw_SPc hU.2.2 aw_Gs_G) aw_kpc (arc_214b hU) (arc_215 hU)) ⟨(hI523).1, (aw_G_sm hI523.2 hI421.2)⟩ ⟨(aw_g117 hU.2.2), (cw_gw (a := (41 : Int)) rfl (by omega) (by omega)), trivial⟩ (fun e he => nomatch he)) ?_
                    rintro r525 S525 ⟨hr525, hJ525, fc525, po525, -⟩
                    have hT525 := hJ525.1
                    replace fc525 := aw_fr_sub (F' := [24, 25, 26, 27, 28, 29, 30, 31]) (A' := []) (by decide) (by decide) fc525
                    rcases ar_bool hU (hI523).1 hT525 hr525 po525 with ⟨b525, rfl, hb525, cf525⟩ | ⟨b525, rfl, hb525, ck525, gq525⟩
                    · skip
                      have cf525 : (S415.1 30).toInt + 0 ≤ (S525.1 30).toInt := cf525
                      have fr526 := aw_fr_tr fr524 (aw_fr_sub (F := [24, 25, 26, 27, 28, 29, 30, 31]) (A := []) (by decide) (by decide) fc525)
                      have hI527 : aw_I s h (aw_sm S525) S525 := ⟨hT525, aw_sm_rf⟩
                      show aw_W _ _ _ _ 200 lv519 [.int b525] _ _
                      refine aw_e aj_d261 rfl (cw_irb rfl (by omega)) ?_
                      have b528 : 0 ≤ (S525.1 30).toInt ∧ (S525.1 30).toInt ≤ 1001 := aw_bd_f hs (hI527).1 (by decide) rfl
                      exact ⟨(hI527).1, fr526, Or.inl ⟨_, rfl, hb525, hJ525.2, (show _ ≤ ((S525.1 30)).toInt by omega)⟩⟩
                    · skip
                      have ck525 : (S415.1 30).toInt + 1 ≤ (S525.1 30).toInt := ck525
                      have fr529 := aw_fr_tr fr524 (aw_fr_sub (F := [24, 25, 26, 27, 28, 29, 30, 31]) (A := []) (by decide) (by decide) fc525)
                      have hI530 : aw_I s h (aw_sm S525) S525 := ⟨hT525, aw_sm_rf⟩
                      show aw_W _ _ _ _ 200 lv519 [.int b525] _ _
                      refine aw_e aj_d261 rfl (cw_irb rfl (by omega)) ?_
                      have b531 : 0 ≤ (S525.1 30).toInt ∧ (S525.1 30).toInt ≤ 1001 := aw_bd_f hs (hI530).1 (by decide) rfl
                      exact ⟨(hI530).1, fr529, Or.inr ⟨_, rfl, hb525, hJ525.2, (show _ + 1 ≤ ((S525.1 30)).toInt by omega), trivial⟩⟩
                · have q521 : (0 : Int) ≠ (0 : Int) := aw_t_eq (a := (0 : Int)) (b := (0 : Int)) hb501 rfl q521
                  exfalso
                  omega
              · have q520 : (0 : Int) ≠ (0 : Int) := aw_t_eq (a := (0 : Int)) (b := (0 : Int)) hb501 rfl q520
                exfalso
                omega
          · have q500 : (1 : Int) = (0 : Int) := aw_t_ne (a := (1 : Int)) (b := (0 : Int)) rfl rfl q500
            exfalso
            omega
    · have q426 : x420.toInt < (S415.1 56).toInt := aw_t_ge (a := x420.toInt) (b := (S415.1 56).toInt) rfl rfl q426
      refine aw_l0 aj_d261 rfl rfl hlv416_5 ?_
      refine aw_z (tgt := 112) aj_d261 rfl rfl (fun q532 => ?_) (fun q532 => ?_)
      · have q532 : x419.toInt < (0 : Int) := aw_t_lt (a := x419.toInt) (b := (0 : Int)) rfl rfl q532
        refine aw_inc aj_d261 rfl hlv416_6 (a := x420.toInt) rfl (by omega) (by omega) (by decide) (by decide) (fun x533 ex533 => ?_)
        obtain ⟨lv534, elv534⟩ : ∃ l, l = aj_set1 lv416 6 (.int x533) := ⟨_, rfl⟩
        rw [← elv534]
        have hlv534_0 : aj_lv lv534 0 = some (.ref 117) := cw_e1 elv534 hlv416_0 (by decide) (Or.inl (by decide))
        have hlv534_1 : aj_lv lv534 1 = some (.int x417) := cw_e1 elv534 hlv416_1 (by decide) (Or.inl (by decide))
        have hlv534_3 : aj_lv lv534 3 = some (.int x418) := cw_e1 elv534 hlv416_3 (by decide) (Or.inl (by decide))
        have hlv534_5 : aj_lv lv534 5 = some (.int x419) := cw_e1 elv534 hlv416_5 (by decide) (Or.inr rfl)
        have hlv534_6 : aj_lv lv534 6 = some (.int x533) := by rw [elv534]; exact ak_set1_eq _ _ _
        show aw_W _ _ _ _ 115 lv534 [] _ _
        refine aw_n aj_d261 rfl rfl ?_
        exact ihL75_413 S415 lv534 (x417) (x418) (x419) (x533) hlv534_0 hlv534_1 hlv534_3 hlv534_5 hlv534_6 ⟨(hI423).1, hI421.2⟩ fr422 (by omega) (by omega) (by omega) (by omega) TK75 (show _ ≤ ((S415.1 30)).toInt by omega) (show _ ≤ ((S415.1 30)).toInt by omega) cb75 (fun z0 z1 j hj => by
            by_cases ej : j = (x420.toInt).toNat
            · subst ej
              omega
            · exact nb75 z0 z1 j (by omega)) (show _ ≤ ((S415.1 56)).toInt by omega) (by omega)
      · have q532 : x419.toInt ≥ (0 : Int) := aw_t_lt (a := x419.toInt) (b := (0 : Int)) rfl rfl q532
        refine aw_l2 aj_d261 rfl rfl hlv416_0 ?_
        refine aw_g hU.1 aj_d261 rfl rfl (by decide) (v := .ref 142) rfl ?_
        refine aw_l0 aj_d261 rfl rfl hlv416_6 ?_
        refine aw_ld (k := 25) hU.1 aj_d261 (Or.inl ⟨rfl, rfl⟩) rfl (by decide) (by decide) rfl (a := x420.toInt) rfl (by omega) (by omega) (fun x535 ex535 => ?_)
        have bx535 : 0 ≤ x535.toInt ∧ x535.toInt ≤ 5 := by
          rw [ex535]
          exact aw_bd_a hs (hI423).1 (k := 25) (by decide) (by decide) rfl (by decide) rfl (by omega)
        refine aw_l0 aj_d261 rfl rfl hlv416_5 ?_
        refine aw_c (tgt := 112) aj_d261 rfl rfl (fun q536 => ?_) (fun q536 => ?_)
        · have q536 : x535.toInt ≠ x419.toInt := aw_t_ne (a := x535.toInt) (b := x419.toInt) rfl rfl q536
          refine aw_inc aj_d261 rfl hlv416_6 (a := x420.toInt) rfl (by omega) (by omega) (by decide) (by decide) (fun x537 ex537 => ?_)
          obtain ⟨lv538, elv538⟩ : ∃ l, l = aj_set1 lv416 6 (.int x537) := ⟨_, rfl⟩
          rw [← elv538]
          have hlv538_0 : aj_lv lv538 0 = some (.ref 117) := cw_e1 elv538 hlv416_0 (by decide) (Or.inl (by decide))
          have hlv538_1 : aj_lv lv538 1 = some (.int x417) := cw_e1 elv538 hlv416_1 (by decide) (Or.inl (by decide))
          have hlv538_3 : aj_lv lv538 3 = some (.int x418) := cw_e1 elv538 hlv416_3 (by decide) (Or.inl (by decide))
          have hlv538_5 : aj_lv lv538 5 = some (.int x419) := cw_e1 elv538 hlv416_5 (by decide) (Or.inr rfl)
          have hlv538_6 : aj_lv lv538 6 = some (.int x537) := by rw [elv538]; exact ak_set1_eq _ _ _
          show aw_W _ _ _ _ 115 lv538 [] _ _
          refine aw_n aj_d261 rfl rfl ?_
          exact ihL75_413 S415 lv538 (x417) (x418) (x419) (x537) hlv538_0 hlv538_1 hlv538_3 hlv538_5 hlv538_6 ⟨(hI423).1, hI421.2⟩ fr422 (by omega) (by omega) (by omega) (by omega) TK75 (show _ ≤ ((S415.1 30)).toInt by omega) (show _ ≤ ((S415.1 30)).toInt by omega) cb75 (fun z0 z1 j hj => by
              by_cases ej : j = (x420.toInt).toNat
              · subst ej
                have y := congrArg Int32.toInt ex535
                show (S415.2.2.1 25 (x420.toInt).toNat).toInt ≠ _
                have y2 : x535.toInt = (S415.2.2.1 25 (x420.toInt).toNat).toInt := y
                omega
              · exact nb75 z0 z1 j (by omega)) (show _ ≤ ((S415.1 56)).toInt by omega) (by omega)
        · have q536 : x535.toInt = x419.toInt := aw_t_ne (a := x535.toInt) (b := x419.toInt) rfl rfl q536
          refine aw_l2 aj_d261 rfl rfl hlv416_0 ?_
          refine aw_n aj_d261 rfl rfl ?_
          refine aw_l2 aj_d261 rfl rfl hlv416_0 ?_
          refine aw_g hU.1 aj_d261 rfl rfl (by decide) (v := .int (S415.1 34)) rfl ?_
          refine aw_k hU.1 aj_d261 rfl rfl [_, _] rfl rfl rfl (Nat.le_of_ble_eq_true rfl) (ar_tell hU (hI423).1 (by omega) (a := (3 : Int)) rfl (by omega)) ?_
          rintro _ S539 ⟨hT539, fc539, rfl, hz539, hw539⟩
          have hG539 := aw_G_tell hI421.2 fc539 hz539
          have b540 : 0 ≤ (S415.1 32).toInt ∧ (S415.1 32).toInt ≤ 1 := aw_bd_f hs (hI423).1 (by decide) rfl
          have hz539 : ((S415.1 32)).toInt = 0 → (S539.1 24).toInt ≠ 0 := hz539
          have fr541 := aw_fr_tr fr422 (aw_fr_sub (F := [24, 25]) (A := []) (by decide) (by decide) fc539)
          have hI542 : aw_I s h (aw_sm S539) S539 := ⟨hT539, aw_sm_rf⟩
          show aw_W _ _ _ _ 110 lv416 [] _ _
          refine aw_n aj_d261 rfl rfl ?_
          refine aw_t0 (j := 3) aj_d261 rfl (by decide) rfl ?_
          obtain ⟨lv543, elv543⟩ : ∃ l, l = aj_set1 lv416 3 (.int (Int32.ofInt 1)) := ⟨_, rfl⟩
          rw [← elv543]
          have hlv543_0 : aj_lv lv543 0 = some (.ref 117) := cw_e1 elv543 hlv416_0 (by decide) (Or.inl (by decide))
          have hlv543_1 : aj_lv lv543 1 = some (.int x417) := cw_e1 elv543 hlv416_1 (by decide) (Or.inl (by decide))
          have hlv543_5 : aj_lv lv543 5 = some (.int x419) := cw_e1 elv543 hlv416_5 (by decide) (Or.inl (by decide))
          have hlv543_6 : aj_lv lv543 6 = some (.int x420) := cw_e1 elv543 hlv416_6 (by decide) (Or.inl (by decide))
          have hlv543_3 : aj_lv lv543 3 = some (.int (Int32.ofInt 1)) := by rw [elv543]; exact ak_set1_eq _ _ _
          show aw_W _ _ _ _ 112 lv543 [] _ _
          refine aw_inc aj_d261 rfl hlv543_6 (a := x420.toInt) rfl (by omega) (by omega) (by decide) (by decide) (fun x544 ex544 => ?_)
          obtain ⟨lv545, elv545⟩ : ∃ l, l = aj_set1 lv543 6 (.int x544) := ⟨_, rfl⟩
          rw [← elv545]
          have hlv545_0 : aj_lv lv545 0 = some (.ref 117) := cw_e1 elv545 hlv543_0 (by decide) (Or.inl (by decide))
          have hlv545_1 : aj_lv lv545 1 = some (.int x417) := cw_e1 elv545 hlv543_1 (by decide) (Or.inl (by decide))
          have hlv545_5 : aj_lv lv545 5 = some (.int x419) := cw_e1 elv545 hlv543_5 (by decide) (Or.inr rfl)
          have hlv545_3 : aj_lv lv545 3 = some (.int (Int32.ofInt 1)) := cw_e1 elv545 hlv543_3 (by decide) (Or.inl (by decide))
          have hlv545_6 : aj_lv lv545 6 = some (.int x544) := by rw [elv545]; exact ak_set1_eq _ _ _
          show aw_W _ _ _ _ 115 lv545 [] _ _
          refine aw_n aj_d261 rfl rfl ?_
          have c546 : (S539.1 56).toInt = (S415.1 56).toInt := (congrArg Int32.toInt (fc539.1 56 (by decide)).1).trans rfl
          have b547 : 0 ≤ (S539.1 56).toInt ∧ (S539.1 56).toInt ≤ 6 := aw_bd_f hs (hI542).1 (by decide) rfl
          have c548 : (S539.1 30).toInt = (S415.1 30).toInt := (congrArg Int32.toInt (fc539.1 30 (by decide)).1).trans rfl
          have b549 : 0 ≤ (S539.1 30).toInt ∧ (S539.1 30).toInt ≤ 1001 := aw_bd_f hs (hI542).1 (by decide) rfl
          exact ihL75_413 S539 lv545 (x417) ((Int32.ofInt 1)) (x419) (x544) hlv545_0 hlv545_1 hlv545_3 hlv545_5 hlv545_6 ⟨(hI542).1, hG539⟩ fr541 (by omega) (by first | omega | decide) (by omega) (by omega) (by rw [show (S539.2.2.1 25) = S415.2.2.1 25 from ((fc539.2 25 (by decide)).1.trans rfl), show (S539.2.2.1 15) = S415.2.2.1 15 from ((fc539.2 15 (by decide)).1.trans rfl), show ((S539.1 56)).toInt = (S415.1 56).toInt from (by omega)]; exact TK75) (show _ ≤ ((S539.1 30)).toInt by omega) (show _ ≤ ((S539.1 30)).toInt by omega) (by rw [show (S539.2.2.1 15) = S415.2.2.1 15 from ((fc539.2 15 (by decide)).1.trans rfl)]; exact cb75) (fun z => absurd z (by decide)) (show _ ≤ ((S539.1 56)).toInt by omega) (by omega)
theorem ar_columns_L56_390 (hU : aw_U tb s h) (hd : 6 ≤ d + 1)  : ∀ (N : Nat) (S392 : aj_S) (lv393 : aj_V) (x394 : Int32) (x395 : Int32), (aj_lv lv393 0 = some (.ref 117)) → (aj_lv lv393 1 = some (.int x394)) → (aj_lv lv393 3 = some (.int x395)) → (aw_I s h (aw_G g) S392) → (aw_fr [24, 25, 26, 27, 28, 29, 30, 31, 33, 34, 56] [15, 25] S S392) → (20 ≤ x394.toInt ∧ x394.toInt ≤ 48) → (0 ≤ x395.toInt ∧ x395.toInt ≤ 1) → (ar_TK (S392.2.2.1 25) ((S392.1 56).toInt).toNat (S392.2.2.1 15 (x394.toInt).toNat).toInt) → ((S.1 30).toInt + 0 ≤ (S392.1 30).toInt) → (1001 - (S392.1 30).toInt).toNat < N → aw_W tb h d aj_m261 56 lv393 [] S392 ((ar_QT s h g [24, 25, 26, 27, 28, 29, 30, 31, 33, 34, 56] [15, 25] S (fun _ => True))) := by
  have hs : aw_sT s := aw_hy_sT hU.2.2
  intro N56
  induction N56 with
  | zero =>
    intro S392 lv393 x394 x395 hlv393_0 hlv393_1 hlv393_3 hI396 fr397 bx394 bx395 TK56 ck56 hm56
    omega
  | succ N56 ihL56_390 =>
    intro S392 lv393 x394 x395 hlv393_0 hlv393_1 hlv393_3 hI396 fr397 bx394 bx395 TK56 ck56 hm56
    have hI398 : aw_I s h (aw_sm S392) S392 := ⟨hI396.1, aw_sm_rf⟩
    have b399 : 0 ≤ (S392.1 30).toInt ∧ (S392.1 30).toInt ≤ 1001 := aw_bd_f hs (hI398).1 (by decide) rfl
    have b400 : 0 ≤ (S392.1 56).toInt ∧ (S392.1 56).toInt ≤ 6 := aw_bd_f hs (hI398).1 (by decide) rfl
    refine aw_l2 aj_d261 rfl rfl hlv393_0 ?_
    refine aw_k hU.1 aj_d261 rfl rfl [] rfl rfl rfl (Nat.le_of_ble_eq_true rfl) (ar_named hU (hI398).1 hI396.2 (by omega)) ?_
    rintro _ S401 ⟨hT401, fc401, ⟨b401, rfl, hb401, hG401, ck401, hz401⟩ | ⟨b401, rfl, hb401, hG401, ck401, cj401, k1401, nm401⟩⟩
    · skip
      have ck401 : ((S392.1 30)).toInt ≤ (S401.1 30).toInt := ck401
      have fr402 := aw_fr_tr fr397 (aw_fr_sub (F := [24, 25, 26, 27, 28, 29, 30, 31, 33, 34]) (A := []) (by decide) (by decide) fc401)
      have hI403 : aw_I s h (aw_sm S401) S401 := ⟨hT401, aw_sm_rf⟩
      show aw_W _ _ _ _ 60 lv393 [.int b401] _ _
      refine aw_z (tgt := 65) aj_d261 rfl rfl (fun q404 => ?_) (fun q404 => ?_)
      · have q404 : (0 : Int) ≠ (0 : Int) := aw_t_ne (a := (0 : Int)) (b := (0 : Int)) hb401 rfl q404
        exfalso
        omega
      · have q404 : (0 : Int) = (0 : Int) := aw_t_ne (a := (0 : Int)) (b := (0 : Int)) hb401 rfl q404
        refine aw_n aj_d261 rfl rfl ?_
        refine aw_e aj_d261 rfl rfl ?_
        have b405 : 0 ≤ (S401.1 30).toInt ∧ (S401.1 30).toInt ≤ 1001 := aw_bd_f hs (hI403).1 (by decide) rfl
        exact ⟨(hI403).1, fr402, Or.inl ⟨_, rfl, rfl, hG401, (show _ ≤ ((S401.1 30)).toInt by omega)⟩⟩
    · skip
      have cj401 : (S401.1 30).toInt = ((S392.1 30)).toInt + 1 := cj401
      have fr406 := aw_fr_tr fr397 (aw_fr_sub (F := [24, 25, 26, 27, 28, 29, 30, 31, 33, 34]) (A := []) (by decide) (by decide) fc401)
      have hI407 : aw_I s h (aw_sm S401) S401 := ⟨hT401, aw_sm_rf⟩
      show aw_W _ _ _ _ 60 lv393 [.int b401] _ _
      refine aw_z (tgt := 65) aj_d261 rfl rfl (fun q408 => ?_) (fun q408 => ?_)
      · have q408 : (1 : Int) ≠ (0 : Int) := aw_t_ne (a := (1 : Int)) (b := (0 : Int)) hb401 rfl q408
        refine aw_l2 aj_d261 rfl rfl hlv393_0 ?_
        refine aw_l0 aj_d261 rfl rfl hlv393_1 ?_
        refine aw_k hU.1 aj_d261 rfl rfl [_] rfl rfl rfl (Nat.le_of_ble_eq_true rfl) (ar_told hU (hI407).1 hG401 (by omega) (x := x394) (by omega)) ?_
        rintro _ S409 ⟨hT409, fc409, b409, rfl, hG409, cb409, bb409⟩
        have fr410 := aw_fr_tr fr406 (aw_fr_sub (F := [24, 25]) (A := []) (by decide) (by decide) fc409)
        have hI411 : aw_I s h (aw_sm S409) S409 := ⟨hT409, aw_sm_rf⟩
        show aw_W _ _ _ _ 70 lv393 [.int b409] _ _
        refine aw_t0 (j := 5) aj_d261 rfl (by decide) rfl ?_
        obtain ⟨lv412, elv412⟩ : ∃ l, l = aj_set1 lv393 5 (.int b409) := ⟨_, rfl⟩
        rw [← elv412]
        have hlv412_0 : aj_lv lv412 0 = some (.ref 117) := cw_e1 elv412 hlv393_0 (by decide) (Or.inl (by decide))
        have hlv412_1 : aj_lv lv412 1 = some (.int x394) := cw_e1 elv412 hlv393_1 (by decide) (Or.inl (by decide))
        have hlv412_3 : aj_lv lv412 3 = some (.int x395) := cw_e1 elv412 hlv393_3 (by decide) (Or.inl (by decide))
        have hlv412_5 : aj_lv lv412 5 = some (.int b409) := by rw [elv412]; exact ak_set1_eq _ _ _
        show aw_W _ _ _ _ 72 lv412 [] _ _
        refine aw_n aj_d261 rfl rfl ?_
        refine aw_t0 (j := 6) aj_d261 rfl (by decide) rfl ?_
        obtain ⟨lv413, elv413⟩ : ∃ l, l = aj_set1 lv412 6 (.int (Int32.ofInt 0)) := ⟨_, rfl⟩
        rw [← elv413]
        have hlv413_0 : aj_lv lv413 0 = some (.ref 117) := cw_e1 elv413 hlv412_0 (by decide) (Or.inl (by decide))
        have hlv413_1 : aj_lv lv413 1 = some (.int x394) := cw_e1 elv413 hlv412_1 (by decide) (Or.inl (by decide))
        have hlv413_3 : aj_lv lv413 3 = some (.int x395) := cw_e1 elv413 hlv412_3 (by decide) (Or.inl (by decide))
        have hlv413_5 : aj_lv lv413 5 = some (.int b409) := cw_e1 elv413 hlv412_5 (by decide) (Or.inr rfl)
        have hlv413_6 : aj_lv lv413 6 = some (.int (Int32.ofInt 0)) := by rw [elv413]; exact ak_set1_eq _ _ _
        show aw_W _ _ _ _ 75 lv413 [] _ _
        have c550 : (S401.1 56).toInt = (S392.1 56).toInt := (congrArg Int32.toInt (fc401.1 56 (by decide)).1).trans rfl
        have b551 : 0 ≤ (S401.1 56).toInt ∧ (S401.1 56).toInt ≤ 6 := aw_bd_f hs (hI407).1 (by decide) rfl
        have c552 : (S409.1 56).toInt = (S392.1 56).toInt := (congrArg Int32.toInt (fc409.1 56 (by decide)).1).trans c550
        have b553 : 0 ≤ (S409.1 56).toInt ∧ (S409.1 56).toInt ≤ 6 := aw_bd_f hs (hI411).1 (by decide) rfl
        have b554 : 0 ≤ (S401.1 30).toInt ∧ (S401.1 30).toInt ≤ 1001 := aw_bd_f hs (hI407).1 (by decide) rfl
        have c555 : (S409.1 30).toInt = (S401.1 30).toInt := (congrArg Int32.toInt (fc409.1 30 (by decide)).1).trans rfl
        have b556 : 0 ≤ (S409.1 30).toInt ∧ (S409.1 30).toInt ≤ 1001 := aw_bd_f hs (hI411).1 (by decide) rfl
        exact (ar_columns_L75_413 hU hd N56 S392 x394 x395 ihL56_390 hm56) _ S409 lv413 (x394) (x395) (b409) ((Int32.ofInt 0)) hlv413_0 hlv413_1 hlv413_3 hlv413_5 hlv413_6 ⟨(hI411).1, hG409⟩ fr410 (by omega) (by omega) (by omega) (by first | omega | decide) (by rw [show (S409.2.2.1 25) = S392.2.2.1 25 from ((fc409.2 25 (by decide)).1.trans ((fc401.2 25 (by decide)).1.trans rfl)), show (S409.2.2.1 15) = S392.2.2.1 15 from ((fc409.2 15 (by decide)).1.trans ((fc401.2 15 (by decide)).1.trans rfl)), show ((S409.1 56)).toInt = (S392.1 56).toInt from (by omega)]; exact TK56) (show _ ≤ ((S409.1 30)).toInt by omega) (show _ ≤ ((S409.1 30)).toInt by omega) (by rw [show (S409.2.2.1 15) = S401.2.2.1 15 from (fc409.2 15 (by decide)).1]; rcases cb409 with z | z <;> omega) (fun _ _ j hj => absurd hj (Nat.not_lt_zero _)) (show (0 : Int) ≤ ((S409.1 56)).toInt by omega) (Nat.lt_succ_self _)
      · have q408 : (1 : Int) = (0 : Int) := aw_t_ne (a := (1 : Int)) (b := (0 : Int)) hb401 rfl q408
        exfalso
        omega
theorem ar_columns_L75_602 (hU : aw_U tb s h) (hd : 6 ≤ d + 1) (N56 : Nat) (S581 : aj_S) (x583 : Int32) (x584 : Int32) (ihL56_579 : ∀ (S581 : aj_S) (lv582 : aj_V) (x583 : Int32) (x584 : Int32), (aj_lv lv582 0 = some (.ref 117)) → (aj_lv lv582 1 = some (.int x583)) → (aj_lv lv582 3 = some (.int x584)) → (aw_I s h (aw_G g) S581) → (aw_fr [24, 25, 26, 27, 28, 29, 30, 31, 33, 34, 56] [15, 25] S S581) → (20 ≤ x583.toInt ∧ x583.toInt ≤ 48) → (0 ≤ x584.toInt ∧ x584.toInt ≤ 1) → (ar_TK (S581.2.2.1 25) ((S581.1 56).toInt).toNat (S581.2.2.1 15 (x583.toInt).toNat).toInt) → ((S.1 30).toInt + 0 ≤ (S581.1 30).toInt) → (1001 - (S581.1 30).toInt).toNat < N56 → aw_W tb h d aj_m261 56 lv582 [] S581 ((ar_QT s h g [24, 25, 26, 27, 28, 29, 30, 31, 33, 34, 56] [15, 25] S (fun _ => True)))) (hm56 : (1001 - (S581.1 30).toInt).toNat < N56 + 1) : ∀ (N : Nat) (S604 : aj_S) (lv605 : aj_V) (x606 : Int32) (x607 : Int32) (x608 : Int32) (x609 : Int32), (aj_lv lv605 0 = some (.ref 117)) → (aj_lv lv605 1 = some (.int x606)) → (aj_lv lv605 3 = some (.int x607)) → (aj_lv lv605 5 = some (.int x608)) → (aj_lv lv605 6 = some (.int x609)) → (aw_I s h (aw_G g) S604) → (aw_fr [24, 25, 26, 27, 28, 29, 30, 31, 33, 34, 56] [15, 25] S S604) → (20 ≤ x606.toInt ∧ x606.toInt ≤ 48) → (0 ≤ x607.toInt ∧ x607.toInt ≤ 1) → ((-1) ≤ x608.toInt ∧ x608.toInt ≤ 5) → (0 ≤ x609.toInt ∧ x609.toInt ≤ 6) → (ar_TK (S604.2.2.1 25) ((S604.1 56).toInt).toNat (S604.2.2.1 15 (x606.toInt).toNat).toInt) → ((S.1 30).toInt + 1 ≤ (S604.1 30).toInt) → ((S581.1 30).toInt + 1 ≤ (S604.1 30).toInt) → (x608.toInt < (S604.2.2.1 15 (x606.toInt).toNat).toInt ∨ x608.toInt = -1) → (x607.toInt = 0 → 0 ≤ x608.toInt → ∀ j, j < (x609.toInt).toNat → (S604.2.2.1 25 j).toInt ≠ x608.toInt) → (x609.toInt ≤ (S604.1 56).toInt) → (6 - x609.toInt).toNat < N → aw_W tb h d aj_m261 75 lv605 [] S604 ((ar_QT s h g [24, 25, 26, 27, 28, 29, 30, 31, 33, 34, 56] [15, 25] S (fun _ => True))) := by
  have hs : aw_sT s := aw_hy_sT hU.2.2
  intro N75
  induction N75 with
  | zero =>
    intro S604 lv605 x606 x607 x608 x609 hlv605_0 hlv605_1 hlv605_3 hlv605_5 hlv605_6 hI610 fr611 bx606 bx607 bx608 bx609 TK75 ck75 cA75 cb75 nb75 k75 hm75
    omega
  | succ N75 ihL75_602 =>
    intro S604 lv605 x606 x607 x608 x609 hlv605_0 hlv605_1 hlv605_3 hlv605_5 hlv605_6 hI610 fr611 bx606 bx607 bx608 bx609 TK75 ck75 cA75 cb75 nb75 k75 hm75
    have hI612 : aw_I s h (aw_sm S604) S604 := ⟨hI610.1, aw_sm_rf⟩
    have b613 : 0 ≤ (S604.1 30).toInt ∧ (S604.1 30).toInt ≤ 1001 := aw_bd_f hs (hI612).1 (by decide) rfl
    have b614 : 0 ≤ (S604.1 56).toInt ∧ (S604.1 56).toInt ≤ 6 := aw_bd_f hs (hI612).1 (by decide) rfl
    refine aw_l0 aj_d261 rfl rfl hlv605_6 ?_
    refine aw_l2 aj_d261 rfl rfl hlv605_0 ?_
    refine aw_g hU.1 aj_d261 rfl rfl (by decide) (v := .int (S604.1 56)) rfl ?_
    refine aw_c (tgt := 118) aj_d261 rfl rfl (fun q615 => ?_) (fun q615 => ?_)
    · have q615 : x609.toInt ≥ (S604.1 56).toInt := aw_t_ge (a := x609.toInt) (b := (S604.1 56).toInt) rfl rfl q615
      refine aw_l0 aj_d261 rfl rfl hlv605_3 ?_
      refine aw_z (tgt := 127) aj_d261 rfl rfl (fun q616 => ?_) (fun q616 => ?_)
      · have q616 : x607.toInt ≠ (0 : Int) := aw_t_ne (a := x607.toInt) (b := (0 : Int)) rfl rfl q616
        refine aw_n aj_d261 rfl rfl ?_
        refine aw_n aj_d261 rfl rfl ?_
        refine aw_t0 (j := 3) aj_d261 rfl (by decide) rfl ?_
        obtain ⟨lv617, elv617⟩ : ∃ l, l = aj_set1 lv605 3 (.int (Int32.ofInt 1)) := ⟨_, rfl⟩
        rw [← elv617]
        have hlv617_0 : aj_lv lv617 0 = some (.ref 117) := cw_e1 elv617 hlv605_0 (by decide) (Or.inl (by decide))
        have hlv617_1 : aj_lv lv617 1 = some (.int x606) := cw_e1 elv617 hlv605_1 (by decide) (Or.inl (by decide))
        have hlv617_5 : aj_lv lv617 5 = some (.int x608) := cw_e1 elv617 hlv605_5 (by decide) (Or.inl (by decide))
        have hlv617_3 : aj_lv lv617 3 = some (.int (Int32.ofInt 1)) := by rw [elv617]; exact ak_set1_eq _ _ _
        show aw_W _ _ _ _ 133 lv617 [] _ _
        refine aw_l0 aj_d261 rfl rfl hlv617_3 ?_
        refine aw_z (tgt := 158) aj_d261 rfl rfl (fun q618 => ?_) (fun q618 => ?_)
        · have q618 : (1 : Int) ≠ (0 : Int) := aw_t_ne (a := (1 : Int)) (b := (0 : Int)) rfl rfl q618
          refine aw_l2 aj_d261 rfl rfl hlv617_0 ?_
          refine aw_n aj_d261 rfl rfl ?_
          refine aw_k hU.1 aj_d261 rfl rfl [_] rfl rfl rfl (Nat.le_of_ble_eq_true rfl) (ar_isSign hU (by omega) (b := (44 : Int)) rfl) ?_
          have b621 : 0 ≤ (S604.1 26).toInt ∧ (S604.1 26).toInt ≤ 5 := aw_bd_f hs (hI612).1 (by decide) rfl
          rintro _ S620 ⟨eS620, b619, rfl, kb619⟩
          rw [eS620]
          rcases kb619 with ⟨hb619, pb619, qb619⟩ | ⟨hb619, pb619⟩
          · skip
            have pb619 : ((S604.1 26)).toInt = 3 := pb619
            have qb619 : ((S604.1 29)).toInt = (44 : Int) := qb619
            show aw_W _ _ _ _ 164 lv617 [.int b619] _ _
            refine aw_t0 (j := 4) aj_d261 rfl (by decide) rfl ?_
            obtain ⟨lv622, elv622⟩ : ∃ l, l = aj_set1 lv617 4 (.int b619) := ⟨_, rfl⟩
            rw [← elv622]
            have hlv622_0 : aj_lv lv622 0 = some (.ref 117) := cw_e1 elv622 hlv617_0 (by decide) (Or.inl (by decide))
            have hlv622_1 : aj_lv lv622 1 = some (.int x606) := cw_e1 elv622 hlv617_1 (by decide) (Or.inl (by decide))
            have hlv622_3 : aj_lv lv622 3 = some (.int (Int32.ofInt 1)) := cw_e1 elv622 hlv617_3 (by decide) (Or.inr rfl)
            have hlv622_4 : aj_lv lv622 4 = some (.int b619) := by rw [elv622]; exact ak_set1_eq _ _ _
            show aw_W _ _ _ _ 166 lv622 [] _ _
            refine aw_l0 aj_d261 rfl rfl hlv622_4 ?_
            refine aw_z (tgt := 180) aj_d261 rfl rfl (fun q623 => ?_) (fun q623 => ?_)
            · have q623 : (1 : Int) = (0 : Int) := aw_t_eq (a := (1 : Int)) (b := (0 : Int)) hb619 rfl q623
              exfalso
              omega
            · have q623 : (1 : Int) ≠ (0 : Int) := aw_t_eq (a := (1 : Int)) (b := (0 : Int)) hb619 rfl q623
              refine aw_l2 aj_d261 rfl rfl hlv622_0 ?_
              refine aw_k hU.1 aj_d261 rfl rfl [] rfl rfl rfl (Nat.le_of_ble_eq_true rfl) (ar_pass hU (hI612).1 hI610.2 (by omega) (show ((S604.1 26)).toInt ≠ 0 by omega) (show ¬ (((S604.1 26)).toInt = 3 ∧ ((S604.1 29)).toInt = 63) by omega) (show ((S604.1 26)).toInt = 4 → ((S604.1 29)).toInt = 3 ∨ 6 ≤ ((S604.1 29)).toInt by omega)) ?_
              rintro _ S624 ⟨hT624, fc624, ⟨b624, rfl, hb624, hG624, fd624, hz624⟩ | ⟨b624, rfl, hb624, hG624, ck624, fd624, cj624⟩⟩
              · skip
                have fr625 := aw_fr_tr fr611 (aw_fr_sub (F := [24, 25, 31]) (A := []) (by decide) (by decide) fd624)
                have hI626 : aw_I s h (aw_sm S624) S624 := ⟨hT624, aw_sm_rf⟩
                show aw_W _ _ _ _ 175 lv622 [.int b624] _ _
                refine aw_z (tgt := 180) aj_d261 rfl rfl (fun q627 => ?_) (fun q627 => ?_)
                · have q627 : (0 : Int) ≠ (0 : Int) := aw_t_ne (a := (0 : Int)) (b := (0 : Int)) hb624 rfl q627
                  exfalso
                  omega
                · have q627 : (0 : Int) = (0 : Int) := aw_t_ne (a := (0 : Int)) (b := (0 : Int)) hb624 rfl q627
                  refine aw_n aj_d261 rfl rfl ?_
                  refine aw_e aj_d261 rfl rfl ?_
                  have c628 : (S624.1 30).toInt = (S604.1 30).toInt := (congrArg Int32.toInt (fd624.1 30 (by decide)).1).trans rfl
                  have b629 : 0 ≤ (S624.1 30).toInt ∧ (S624.1 30).toInt ≤ 1001 := aw_bd_f hs (hI626).1 (by decide) rfl
                  exact ⟨(hI626).1, fr625, Or.inl ⟨_, rfl, rfl, hG624, (show _ ≤ ((S624.1 30)).toInt by omega)⟩⟩
              · skip
                have cj624 : (S624.1 30).toInt = ((S604.1 30)).toInt + 1 := cj624
                have fr630 := aw_fr_tr fr611 (aw_fr_sub (F := [26, 27, 28, 29, 30]) (A := []) (by decide) (by decide) fd624)
                have hI631 : aw_I s h (aw_sm S624) S624 := ⟨hT624, aw_sm_rf⟩
                show aw_W _ _ _ _ 175 lv622 [.int b624] _ _
                refine aw_z (tgt := 180) aj_d261 rfl rfl (fun q632 => ?_) (fun q632 => ?_)
                · have q632 : (1 : Int) ≠ (0 : Int) := aw_t_ne (a := (1 : Int)) (b := (0 : Int)) hb624 rfl q632
                  refine aw_n aj_d261 rfl rfl ?_
                  refine aw_l0 aj_d261 rfl rfl hlv622_4 ?_
                  refine aw_z (tgt := 183) aj_d261 rfl rfl (fun q633 => ?_) (fun q633 => ?_)
                  · have q633 : (1 : Int) = (0 : Int) := aw_t_eq (a := (1 : Int)) (b := (0 : Int)) hb619 rfl q633
                    exfalso
                    omega
                  · have q633 : (1 : Int) ≠ (0 : Int) := aw_t_eq (a := (1 : Int)) (b := (0 : Int)) hb619 rfl q633
                    have c634 : (S624.1 56).toInt = (S604.1 56).toInt := (congrArg Int32.toInt (fd624.1 56 (by decide)).1).trans rfl
                    have b635 : 0 ≤ (S624.1 56).toInt ∧ (S624.1 56).toInt ≤ 6 := aw_bd_f hs (hI631).1 (by decide) rfl
                    have b636 : 0 ≤ (S624.1 30).toInt ∧ (S624.1 30).toInt ≤ 1001 := aw_bd_f hs (hI631).1 (by decide) rfl
                    exact ihL56_579 S624 lv622 (x606) ((Int32.ofInt 1)) hlv622_0 hlv622_1 hlv622_3 ⟨(hI631).1, hG624⟩ fr630 (by omega) (by first | omega | decide) (by rw [show (S624.2.2.1 25) = S604.2.2.1 25 from ((fd624.2 25 (by decide)).1.trans rfl), show (S624.2.2.1 15) = S604.2.2.1 15 from ((fd624.2 15 (by decide)).1.trans rfl), show ((S624.1 56)).toInt = (S604.1 56).toInt from (by omega)]; exact TK75) (show _ ≤ ((S624.1 30)).toInt by omega) (show (1001 - ((S624.1 30)).toInt).toNat < _ by omega)
                · have q632 : (1 : Int) = (0 : Int) := aw_t_ne (a := (1 : Int)) (b := (0 : Int)) hb624 rfl q632
                  exfalso
                  omega
          · skip
            clear pb619
            show aw_W _ _ _ _ 164 lv617 [.int b619] _ _
            refine aw_t0 (j := 4) aj_d261 rfl (by decide) rfl ?_
            obtain ⟨lv637, elv637⟩ : ∃ l, l = aj_set1 lv617 4 (.int b619) := ⟨_, rfl⟩
            rw [← elv637]
            have hlv637_0 : aj_lv lv637 0 = some (.ref 117) := cw_e1 elv637 hlv617_0 (by decide) (Or.inl (by decide))
            have hlv637_1 : aj_lv lv637 1 = some (.int x606) := cw_e1 elv637 hlv617_1 (by decide) (Or.inl (by decide))
            have hlv637_3 : aj_lv lv637 3 = some (.int (Int32.ofInt 1)) := cw_e1 elv637 hlv617_3 (by decide) (Or.inr rfl)
            have hlv637_4 : aj_lv lv637 4 = some (.int b619) := by rw [elv637]; exact ak_set1_eq _ _ _
            show aw_W _ _ _ _ 166 lv637 [] _ _
            refine aw_l0 aj_d261 rfl rfl hlv637_4 ?_
            refine aw_z (tgt := 180) aj_d261 rfl rfl (fun q638 => ?_) (fun q638 => ?_)
            · have q638 : (0 : Int) = (0 : Int) := aw_t_eq (a := (0 : Int)) (b := (0 : Int)) hb619 rfl q638
              refine aw_n aj_d261 rfl rfl ?_
              refine aw_l0 aj_d261 rfl rfl hlv637_4 ?_
              refine aw_z (tgt := 183) aj_d261 rfl rfl (fun q639 => ?_) (fun q639 => ?_)
              · have q639 : (0 : Int) = (0 : Int) := aw_t_eq (a := (0 : Int)) (b := (0 : Int)) hb619 rfl q639
                refine aw_l0 aj_d261 rfl rfl hlv637_3 ?_
                refine aw_z (tgt := 194) aj_d261 rfl rfl (fun q640 => ?_) (fun q640 => ?_)
                · have q640 : (1 : Int) = (0 : Int) := aw_t_eq (a := (1 : Int)) (b := (0 : Int)) rfl rfl q640
                  exfalso
                  omega
                · have q640 : (1 : Int) ≠ (0 : Int) := aw_t_eq (a := (1 : Int)) (b := (0 : Int)) rfl rfl q640
                  refine aw_l2 aj_d261 rfl rfl hlv637_0 ?_
                  refine aw_g hU.1 aj_d261 rfl rfl (by decide) (v := .ref 132) rfl ?_
                  refine aw_l0 aj_d261 rfl rfl hlv637_1 ?_
                  refine aw_n aj_d261 rfl rfl ?_
                  refine aw_st (k := 15) hU.1 aj_d261 (Or.inl ⟨rfl, rfl⟩) rfl (by decide) (by decide) rfl (a := x606.toInt) rfl (by omega) (by omega) ?_
                  have hI641 := aw_I_a (aw_UV hU aw_Gs_sm) (k := 15) (j := (x606.toInt).toNat) (v := aj_nar 0 (Int32.ofInt (-1))) hI612 (by decide) (by decide) (by decide) rfl (by decide) (by decide) rfl (aw_bp (a := (-1 : Int)) rfl (by omega) (by omega))
                  have fr642 := aw_fr_a (k := 15) (j := (x606.toInt).toNat) (v := aj_nar 0 (Int32.ofInt (-1))) (by decide) fr611
                  refine aw_l2 aj_d261 rfl rfl hlv637_0 ?_
                  refine aw_n aj_d261 rfl rfl ?_
                  refine aw_k hU.1 aj_d261 rfl rfl [_] rfl rfl rfl (Nat.le_of_ble_eq_true rfl) (aw_toK hU aw_Gs_G (con := ac_c219_41) (by omega) (ar_219_41 hU.2.1 (aw_SPc hU.2.2 aw_Gs_G) aw_kpc (arc_214b hU) (arc_215 hU)) ⟨(hI641).1, (aw_G_sm hI641.2 hI610.2)⟩ ⟨(aw_g117 hU.2.2), (cw_gw (a := (41 : Int)) rfl (by omega) (by omega)), trivial⟩ (fun e he => nomatch he)) ?_
                  rintro r643 S643 ⟨hr643, hJ643, fc643, po643, -⟩
                  have hT643 := hJ643.1
                  replace fc643 := aw_fr_sub (F' := [24, 25, 26, 27, 28, 29, 30, 31]) (A' := []) (by decide) (by decide) fc643
                  rcases ar_bool hU (hI641).1 hT643 hr643 po643 with ⟨b643, rfl, hb643, cf643⟩ | ⟨b643, rfl, hb643, ck643, gq643⟩
                  · skip
                    have cf643 : (S604.1 30).toInt + 0 ≤ (S643.1 30).toInt := cf643
                    have fr644 := aw_fr_tr fr642 (aw_fr_sub (F := [24, 25, 26, 27, 28, 29, 30, 31]) (A := []) (by decide) (by decide) fc643)
                    have hI645 : aw_I s h (aw_sm S643) S643 := ⟨hT643, aw_sm_rf⟩
                    show aw_W _ _ _ _ 200 lv637 [.int b643] _ _
                    refine aw_e aj_d261 rfl (cw_irb rfl (by omega)) ?_
                    have b646 : 0 ≤ (S643.1 30).toInt ∧ (S643.1 30).toInt ≤ 1001 := aw_bd_f hs (hI645).1 (by decide) rfl
                    exact ⟨(hI645).1, fr644, Or.inl ⟨_, rfl, hb643, hJ643.2, (show _ ≤ ((S643.1 30)).toInt by omega)⟩⟩
                  · skip
                    have ck643 : (S604.1 30).toInt + 1 ≤ (S643.1 30).toInt := ck643
                    have fr647 := aw_fr_tr fr642 (aw_fr_sub (F := [24, 25, 26, 27, 28, 29, 30, 31]) (A := []) (by decide) (by decide) fc643)
                    have hI648 : aw_I s h (aw_sm S643) S643 := ⟨hT643, aw_sm_rf⟩
                    show aw_W _ _ _ _ 200 lv637 [.int b643] _ _
                    refine aw_e aj_d261 rfl (cw_irb rfl (by omega)) ?_
                    have b649 : 0 ≤ (S643.1 30).toInt ∧ (S643.1 30).toInt ≤ 1001 := aw_bd_f hs (hI648).1 (by decide) rfl
                    exact ⟨(hI648).1, fr647, Or.inr ⟨_, rfl, hb643, hJ643.2, (show _ + 1 ≤ ((S643.1 30)).toInt by omega), trivial⟩⟩
              · have q639 : (0 : Int) ≠ (0 : Int) := aw_t_eq (a := (0 : Int)) (b := (0 : Int)) hb619 rfl q639
                exfalso
                omega
            · have q638 : (0 : Int) ≠ (0 : Int) := aw_t_eq (a := (0 : Int)) (b := (0 : Int)) hb619 rfl q638
              exfalso
              omega
        · have q618 : (1 : Int) = (0 : Int) := aw_t_ne (a := (1 : Int)) (b := (0 : Int)) rfl rfl q618
          exfalso
          omega
      · have q616 : x607.toInt = (0 : Int) := aw_t_ne (a := x607.toInt) (b := (0 : Int)) rfl rfl q616
        refine aw_l0 aj_d261 rfl rfl hlv605_5 ?_
        refine aw_z (tgt := 131) aj_d261 rfl rfl (fun q650 => ?_) (fun q650 => ?_)
        · have q650 : x608.toInt ≥ (0 : Int) := aw_t_ge (a := x608.toInt) (b := (0 : Int)) rfl rfl q650
          refine aw_n aj_d261 rfl rfl ?_
          refine aw_t0 (j := 3) aj_d261 rfl (by decide) rfl ?_
          obtain ⟨lv651, elv651⟩ : ∃ l, l = aj_set1 lv605 3 (.int (Int32.ofInt 0)) := ⟨_, rfl⟩
          rw [← elv651]
          have hlv651_0 : aj_lv lv651 0 = some (.ref 117) := cw_e1 elv651 hlv605_0 (by decide) (Or.inl (by decide))
          have hlv651_1 : aj_lv lv651 1 = some (.int x606) := cw_e1 elv651 hlv605_1 (by decide) (Or.inl (by decide))
          have hlv651_5 : aj_lv lv651 5 = some (.int x608) := cw_e1 elv651 hlv605_5 (by decide) (Or.inl (by decide))
          have hlv651_3 : aj_lv lv651 3 = some (.int (Int32.ofInt 0)) := by rw [elv651]; exact ak_set1_eq _ _ _
          show aw_W _ _ _ _ 133 lv651 [] _ _
          refine aw_l0 aj_d261 rfl rfl hlv651_3 ?_
          refine aw_z (tgt := 158) aj_d261 rfl rfl (fun q652 => ?_) (fun q652 => ?_)
          · have q652 : (0 : Int) ≠ (0 : Int) := aw_t_ne (a := (0 : Int)) (b := (0 : Int)) rfl rfl q652
            exfalso
            omega
          · have q652 : (0 : Int) = (0 : Int) := aw_t_ne (a := (0 : Int)) (b := (0 : Int)) rfl rfl q652
            have pg := ar_TK_le TK75
            have bc6 := aw_bd_a hs hI612.1 (k := 15) (j := (x606.toInt).toNat) (by decide) (by decide) rfl (by decide) rfl (by omega)
            have pg6 : (S604.1 56).toInt < 6 := by
              by_cases z : (S604.1 56).toInt < 6
              · exact z
              · exfalso
                have bq := ar_pig6 TK75 (by omega) (by omega) (fun j hj => nb75 (by omega) (by omega) j (by omega)) cb75
                omega
            refine aw_l2 aj_d261 rfl rfl hlv651_0 ?_
            refine aw_g hU.1 aj_d261 rfl rfl (by decide) (v := .ref 142) rfl ?_
            refine aw_l2 aj_d261 rfl rfl hlv651_0 ?_
            refine aw_g hU.1 aj_d261 rfl rfl (by decide) (v := .int (S604.1 56)) rfl ?_
            refine aw_l0 aj_d261 rfl rfl hlv651_5 ?_
            refine aw_st (k := 25) hU.1 aj_d261 (Or.inl ⟨rfl, rfl⟩) rfl (by decide) (by decide) rfl (a := (S604.1 56).toInt) rfl (by omega) (by omega) ?_
            have hI653 := aw_I_a (aw_UV hU aw_Gs_sm) (k := 25) (j := ((S604.1 56).toInt).toNat) (v := aj_nar 0 x608) hI612 (by decide) (by decide) (by decide) rfl (by decide) (by decide) rfl (aw_bp (a := x608.toInt) rfl (by omega) (by omega))
            have fr654 := aw_fr_a (k := 25) (j := ((S604.1 56).toInt).toNat) (v := aj_nar 0 x608) (by decide) fr611
            refine aw_l2 aj_d261 rfl rfl hlv651_0 ?_
            refine aw_n aj_d261 rfl rfl ?_
            refine aw_g hU.1 aj_d261 rfl rfl (by decide) (v := .int (S604.1 56)) rfl ?_
            refine aw_n aj_d261 rfl rfl ?_
            refine aw_add aj_d261 rfl (a := (S604.1 56).toInt) (b := (1 : Int)) rfl rfl (by omega) (by omega) (fun x655 ex655 => ?_)
            refine aw_p hU.1 aj_d261 rfl rfl (by decide) rfl ?_
            have hI656 := aw_I_f (aw_UV hU aw_Gs_sm) (k := 56) (v := x655) hI653 (by decide) (by decide) rfl (aw_bp (a := x655.toInt) rfl (by omega) (by omega))
            have fr657 := aw_fr_f (k := 56) (v := x655) (by decide) fr654
            have TK658 : ar_TK (((aw_wf (aw_wa S604 25 ((S604.1 56).toInt).toNat (aj_nar 0 x608)) 56 x655)).2.2.1 25) ((((aw_wf (aw_wa S604 25 ((S604.1 56).toInt).toNat (aj_nar 0 x608)) 56 x655)).1 56).toInt).toNat (((aw_wf (aw_wa S604 25 ((S604.1 56).toInt).toNat (aj_nar 0 x608)) 56 x655)).2.2.1 15 (x606.toInt).toNat).toInt := by
              show ar_TK (upd (S604.2.2.1 25) ((S604.1 56).toInt).toNat x608) ((x655).toInt).toNat (S604.2.2.1 15 (x606.toInt).toNat).toInt
              rw [show ((x655).toInt).toNat = ((S604.1 56).toInt).toNat + 1 by omega]
              exact ar_TK_push TK75 (by omega) (fun j hj => nb75 (by omega) (by omega) j (by omega))
            refine aw_l2 aj_d261 rfl rfl hlv651_0 ?_
            refine aw_n aj_d261 rfl rfl ?_
            refine aw_k hU.1 aj_d261 rfl rfl [_] rfl rfl rfl (Nat.le_of_ble_eq_true rfl) (ar_isSign hU (by omega) (b := (44 : Int)) rfl) ?_
            have b661 : 0 ≤ (S604.1 26).toInt ∧ (S604.1 26).toInt ≤ 5 := aw_bd_f hs (hI612).1 (by decide) rfl
            rintro _ S660 ⟨eS660, b659, rfl, kb659⟩
            rw [eS660]
            rcases kb659 with ⟨hb659, pb659, qb659⟩ | ⟨hb659, pb659⟩
            · skip
              have pb659 : ((S604.1 26)).toInt = 3 := pb659
              have qb659 : ((S604.1 29)).toInt = (44 : Int) := qb659
              show aw_W _ _ _ _ 164 lv651 [.int b659] _ _
              refine aw_t0 (j := 4) aj_d261 rfl (by decide) rfl ?_
              obtain ⟨lv662, elv662⟩ : ∃ l, l = aj_set1 lv651 4 (.int b659) := ⟨_, rfl⟩
              rw [← elv662]
              have hlv662_0 : aj_lv lv662 0 = some (.ref 117) := cw_e1 elv662 hlv651_0 (by decide) (Or.inl (by decide))
              have hlv662_1 : aj_lv lv662 1 = some (.int x606) := cw_e1 elv662 hlv651_1 (by decide) (Or.inl (by decide))
              have hlv662_3 : aj_lv lv662 3 = some (.int (Int32.ofInt 0)) := cw_e1 elv662 hlv651_3 (by decide) (Or.inr rfl)
              have hlv662_4 : aj_lv lv662 4 = some (.int b659) := by rw [elv662]; exact ak_set1_eq _ _ _
              show aw_W _ _ _ _ 166 lv662 [] _ _
              refine aw_l0 aj_d261 rfl rfl hlv662_4 ?_
              refine aw_z (tgt := 180) aj_d261 rfl rfl (fun q663 => ?_) (fun q663 => ?_)
              · have q663 : (1 : Int) = (0 : Int) := aw_t_eq (a := (1 : Int)) (b := (0 : Int)) hb659 rfl q663
                exfalso
                omega
              · have q663 : (1 : Int) ≠ (0 : Int) := aw_t_eq (a := (1 : Int)) (b := (0 : Int)) hb659 rfl q663
                refine aw_l2 aj_d261 rfl rfl hlv662_0 ?_
                refine aw_k hU.1 aj_d261 rfl rfl [] rfl rfl rfl (Nat.le_of_ble_eq_true rfl) (ar_pass hU (hI656).1 (aw_G_sm hI656.2 hI610.2) (by omega) (show ((S604.1 26)).toInt ≠ 0 by omega) (show ¬ (((S604.1 26)).toInt = 3 ∧ ((S604.1 29)).toInt = 63) by omega) (show ((S604.1 26)).toInt = 4 → ((S604.1 29)).toInt = 3 ∨ 6 ≤ ((S604.1 29)).toInt by omega)) ?_
                rintro _ S664 ⟨hT664, fc664, ⟨b664, rfl, hb664, hG664, fd664, hz664⟩ | ⟨b664, rfl, hb664, hG664, ck664, fd664, cj664⟩⟩
                · skip
                  have fr665 := aw_fr_tr fr657 (aw_fr_sub (F := [24, 25, 31]) (A := []) (by decide) (by decide) fd664)
                  have hI666 : aw_I s h (aw_sm S664) S664 := ⟨hT664, aw_sm_rf⟩
                  show aw_W _ _ _ _ 175 lv662 [.int b664] _ _
                  refine aw_z (tgt := 180) aj_d261 rfl rfl (fun q667 => ?_) (fun q667 => ?_)
                  · have q667 : (0 : Int) ≠ (0 : Int) := aw_t_ne (a := (0 : Int)) (b := (0 : Int)) hb664 rfl q667
                    exfalso
                    omega
                  · have q667 : (0 : Int) = (0 : Int) := aw_t_ne (a := (0 : Int)) (b := (0 : Int)) hb664 rfl q667
                    refine aw_n aj_d261 rfl rfl ?_
                    refine aw_e aj_d261 rfl rfl ?_
                    have c668 : (S664.1 30).toInt = (S604.1 30).toInt := (congrArg Int32.toInt (fd664.1 30 (by decide)).1).trans rfl
                    have b669 : 0 ≤ (S664.1 30).toInt ∧ (S664.1 30).toInt ≤ 1001 := aw_bd_f hs (hI666).1 (by decide) rfl
                    exact ⟨(hI666).1, fr665, Or.inl ⟨_, rfl, rfl, hG664, (show _ ≤ ((S664.1 30)).toInt by omega)⟩⟩
                · skip
                  have cj664 : (S664.1 30).toInt = ((S604.1 30)).toInt + 1 := cj664
                  have TK664 : ar_TK (S664.2.2.1 25) ((S664.1 56).toInt).toNat (S664.2.2.1 15 (x606.toInt).toNat).toInt := by
                    rw [(fd664.2 25 (by decide)).1, (fd664.2 15 (by decide)).1, (fd664.1 56 (by decide)).1]
                    exact TK658
                  have fr670 := aw_fr_tr fr657 (aw_fr_sub (F := [26, 27, 28, 29, 30]) (A := []) (by decide) (by decide) fd664)
                  have hI671 : aw_I s h (aw_sm S664) S664 := ⟨hT664, aw_sm_rf⟩
                  show aw_W _ _ _ _ 175 lv662 [.int b664] _ _
                  refine aw_z (tgt := 180) aj_d261 rfl rfl (fun q672 => ?_) (fun q672 => ?_)
                  · have q672 : (1 : Int) ≠ (0 : Int) := aw_t_ne (a := (1 : Int)) (b := (0 : Int)) hb664 rfl q672
                    refine aw_n aj_d261 rfl rfl ?_
                    refine aw_l0 aj_d261 rfl rfl hlv662_4 ?_
                    refine aw_z (tgt := 183) aj_d261 rfl rfl (fun q673 => ?_) (fun q673 => ?_)
                    · have q673 : (1 : Int) = (0 : Int) := aw_t_eq (a := (1 : Int)) (b := (0 : Int)) hb659 rfl q673
                      exfalso
                      omega
                    · have q673 : (1 : Int) ≠ (0 : Int) := aw_t_eq (a := (1 : Int)) (b := (0 : Int)) hb659 rfl q673
                      have c674 : (S664.1 56).toInt = x655.toInt := (congrArg Int32.toInt (fd664.1 56 (by decide)).1).trans rfl
                      have b675 : 0 ≤ (S664.1 56).toInt ∧ (S664.1 56).toInt ≤ 6 := aw_bd_f hs (hI671).1 (by decide) rfl
                      have b676 : 0 ≤ (S664.1 30).toInt ∧ (S664.1 30).toInt ≤ 1001 := aw_bd_f hs (hI671).1 (by decide) rfl
                      exact ihL56_579 S664 lv662 (x606) ((Int32.ofInt 0)) hlv662_0 hlv662_1 hlv662_3 ⟨(hI671).1, hG664⟩ fr670 (by omega) (by first | omega | decide) TK664 (show _ ≤ ((S664.1 30)).toInt by omega) (show (1001 - ((S664.1 30)).toInt).toNat < _ by omega)
                  · have q672 : (1 : Int) = (0 : Int) := aw_t_ne (a := (1 : Int)) (b := (0 : Int)) hb664 rfl q672
                    exfalso
                    omega
            · skip
              clear pb659
              show aw_W _ _ _ _ 164 lv651 [.int b659] _ _
              refine aw_t0 (j := 4) aj_d261 rfl (by decide) rfl ?_
              obtain ⟨lv677, elv677⟩ : ∃ l, l = aj_set1 lv651 4 (.int b659) := ⟨_, rfl⟩
              rw [← elv677]
              have hlv677_0 : aj_lv lv677 0 = some (.ref 117) := cw_e1 elv677 hlv651_0 (by decide) (Or.inl (by decide))
              have hlv677_1 : aj_lv lv677 1 = some (.int x606) := cw_e1 elv677 hlv651_1 (by decide) (Or.inl (by decide))
              have hlv677_3 : aj_lv lv677 3 = some (.int (Int32.ofInt 0)) := cw_e1 elv677 hlv651_3 (by decide) (Or.inr rfl)
              have hlv677_4 : aj_lv lv677 4 = some (.int b659) := by rw [elv677]; exact ak_set1_eq _ _ _
              show aw_W _ _ _ _ 166 lv677 [] _ _
              refine aw_l0 aj_d261 rfl rfl hlv677_4 ?_
              refine aw_z (tgt := 180) aj_d261 rfl rfl (fun q678 => ?_) (fun q678 => ?_)
              · have q678 : (0 : Int) = (0 : Int) := aw_t_eq (a := (0 : Int)) (b := (0 : Int)) hb659 rfl q678
                refine aw_n aj_d261 rfl rfl ?_
                refine aw_l0 aj_d261 rfl rfl hlv677_4 ?_
                refine aw_z (tgt := 183) aj_d261 rfl rfl (fun q679 => ?_) (fun q679 => ?_)
                · have q679 : (0 : Int) = (0 : Int) := aw_t_eq (a := (0 : Int)) (b := (0 : Int)) hb659 rfl q679
                  refine aw_l0 aj_d261 rfl rfl hlv677_3 ?_
                  refine aw_z (tgt := 194) aj_d261 rfl rfl (fun q680 => ?_) (fun q680 => ?_)
                  · have q680 : (0 : Int) = (0 : Int) := aw_t_eq (a := (0 : Int)) (b := (0 : Int)) rfl rfl q680
                    refine aw_l2 aj_d261 rfl rfl hlv677_0 ?_
                    refine aw_n aj_d261 rfl rfl ?_
                    refine aw_k hU.1 aj_d261 rfl rfl [_] rfl rfl rfl (Nat.le_of_ble_eq_true rfl) (aw_toK hU aw_Gs_G (con := ac_c219_41) (by omega) (ar_219_41 hU.2.1 (aw_SPc hU.2.2 aw_Gs_G) aw_kpc (arc_214b hU) (arc_215 hU)) ⟨(hI656).1, (aw_G_sm hI656.2 hI610.2)⟩ ⟨(aw_g117 hU.2.2), (cw_gw (a := (41 : Int)) rfl (by omega) (by omega)), trivial⟩ (fun e he => nomatch he)) ?_
                    rintro r681 S681 ⟨hr681, hJ681, fc681, po681, -⟩
                    have hT681 := hJ681.1
                    replace fc681 := aw_fr_sub (F' := [24, 25, 26, 27, 28, 29, 30, 31]) (A' := []) (by decide) (by decide) fc681
                    rcases ar_bool hU (hI656).1 hT681 hr681 po681 with ⟨b681, rfl, hb681, cf681⟩ | ⟨b681, rfl, hb681, ck681, gq681⟩
                    · skip
                      have cf681 : (S604.1 30).toInt + 0 ≤ (S681.1 30).toInt := cf681
                      have fr682 := aw_fr_tr fr657 (aw_fr_sub (F := [24, 25, 26, 27, 28, 29, 30, 31]) (A := []) (by decide) (by decide) fc681)
                      have hI683 : aw_I s h (aw_sm S681) S681 := ⟨hT681, aw_sm_rf⟩
                      show aw_W _ _ _ _ 200 lv677 [.int b681] _ _
                      refine aw_e aj_d261 rfl (cw_irb rfl (by omega)) ?_
                      have b684 : 0 ≤ (S681.1 30).toInt ∧ (S681.1 30).toInt ≤ 1001 := aw_bd_f hs (hI683).1 (by decide) rfl
                      exact ⟨(hI683).1, fr682, Or.inl ⟨_, rfl, hb681, hJ681.2, (show _ ≤ ((S681.1 30)).toInt by omega)⟩⟩
                    · skip
                      have ck681 : (S604.1 30).toInt + 1 ≤ (S681.1 30).toInt := ck681
                      have fr685 := aw_fr_tr fr657 (aw_fr_sub (F := [24, 25, 26, 27, 28, 29, 30, 31]) (A := []) (by decide) (by decide) fc681)
                      have hI686 : aw_I s h (aw_sm S681) S681 := ⟨hT681, aw_sm_rf⟩
                      show aw_W _ _ _ _ 200 lv677 [.int b681] _ _
                      refine aw_e aj_d261 rfl (cw_irb rfl (by omega)) ?_
                      have b687 : 0 ≤ (S681.1 30).toInt ∧ (S681.1 30).toInt ≤ 1001 := aw_bd_f hs (hI686).1 (by decide) rfl
                      exact ⟨(hI686).1, fr685, Or.inr ⟨_, rfl, hb681, hJ681.2, (show _ + 1 ≤ ((S681.1 30)).toInt by omega), trivial⟩⟩
                  · have q680 : (0 : Int) ≠ (0 : Int) := aw_t_eq (a := (0 : Int)) (b := (0 : Int)) rfl rfl q680
                    exfalso
                    omega
                · have q679 : (0 : Int) ≠ (0 : Int) := aw_t_eq (a := (0 : Int)) (b := (0 : Int)) hb659 rfl q679
                  exfalso
                  omega
              · have q678 : (0 : Int) ≠ (0 : Int) := aw_t_eq (a := (0 : Int)) (b := (0 : Int)) hb659 rfl q678
                exfalso
                omega
        · have q650 : x608.toInt < (0 : Int) := aw_t_ge (a := x608.toInt) (b := (0 : Int)) rfl rfl q650
          refine aw_n aj_d261 rfl rfl ?_
          refine aw_n aj_d261 rfl rfl ?_
          refine aw_t0 (j := 3) aj_d261 rfl (by decide) rfl ?_
          obtain ⟨lv688, elv688⟩ : ∃ l, l = aj_set1 lv605 3 (.int (Int32.ofInt 1)) := ⟨_, rfl⟩
          rw [← elv688]
          have hlv688_0 : aj_lv lv688 0 = some (.ref 117) := cw_e1 elv688 hlv605_0 (by decide) (Or.inl (by decide))
          have hlv688_1 : aj_lv lv688 1 = some (.int x606) := cw_e1 elv688 hlv605_1 (by decide) (Or.inl (by decide))
          have hlv688_5 : aj_lv lv688 5 = some (.int x608) := cw_e1 elv688 hlv605_5 (by decide) (Or.inl (by decide))
          have hlv688_3 : aj_lv lv688 3 = some (.int (Int32.ofInt 1)) := by rw [elv688]; exact ak_set1_eq _ _ _
          show aw_W _ _ _ _ 133 lv688 [] _ _
          refine aw_l0 aj_d261 rfl rfl hlv688_3 ?_
          refine aw_z (tgt := 158) aj_d261 rfl rfl (fun q689 => ?_) (fun q689 => ?_)
          · have q689 : (1 : Int) ≠ (0 : Int) := aw_t_ne (a := (1 : Int)) (b := (0 : Int)) rfl rfl q689
            refine aw_l2 aj_d261 rfl rfl hlv688_0 ?_
            refine aw_n aj_d261 rfl rfl ?_
            refine aw_k hU.1 aj_d261 rfl rfl [_] rfl rfl rfl (Nat.le_of_ble_eq_true rfl) (ar_isSign hU (by omega) (b := (44 : Int)) rfl) ?_
            have b692 : 0 ≤ (S604.1 26).toInt ∧ (S604.1 26).toInt ≤ 5 := aw_bd_f hs (hI612).1 (by decide) rfl
            rintro _ S691 ⟨eS691, b690, rfl, kb690⟩
            rw [eS691]
            rcases kb690 with ⟨hb690, pb690, qb690⟩ | ⟨hb690, pb690⟩
            · skip
              have pb690 : ((S604.1 26)).toInt = 3 := pb690
              have qb690 : ((S604.1 29)).toInt = (44 : Int) := qb690
              show aw_W _ _ _ _ 164 lv688 [.int b690] _ _
              refine aw_t0 (j := 4) aj_d261 rfl (by decide) rfl ?_
              obtain ⟨lv693, elv693⟩ : ∃ l, l = aj_set1 lv688 4 (.int b690) := ⟨_, rfl⟩
              rw [← elv693]
              have hlv693_0 : aj_lv lv693 0 = some (.ref 117) := cw_e1 elv693 hlv688_0 (by decide) (Or.inl (by decide))
              have hlv693_1 : aj_lv lv693 1 = some (.int x606) := cw_e1 elv693 hlv688_1 (by decide) (Or.inl (by decide))
              have hlv693_3 : aj_lv lv693 3 = some (.int (Int32.ofInt 1)) := cw_e1 elv693 hlv688_3 (by decide) (Or.inr rfl)
              have hlv693_4 : aj_lv lv693 4 = some (.int b690) := by rw [elv693]; exact ak_set1_eq _ _ _
              show aw_W _ _ _ _ 166 lv693 [] _ _
              refine aw_l0 aj_d261 rfl rfl hlv693_4 ?_
              refine aw_z (tgt := 180) aj_d261 rfl rfl (fun q694 => ?_) (fun q694 => ?_)
              · have q694 : (1 : Int) = (0 : Int) := aw_t_eq (a := (1 : Int)) (b := (0 : Int)) hb690 rfl q694
                exfalso
                omega
              · have q694 : (1 : Int) ≠ (0 : Int) := aw_t_eq (a := (1 : Int)) (b := (0 : Int)) hb690 rfl q694
                refine aw_l2 aj_d261 rfl rfl hlv693_0 ?_
                refine aw_k hU.1 aj_d261 rfl rfl [] rfl rfl rfl (Nat.le_of_ble_eq_true rfl) (ar_pass hU (hI612).1 hI610.2 (by omega) (show ((S604.1 26)).toInt ≠ 0 by omega) (show ¬ (((S604.1 26)).toInt = 3 ∧ ((S604.1 29)).toInt = 63) by omega) (show ((S604.1 26)).toInt = 4 → ((S604.1 29)).toInt = 3 ∨ 6 ≤ ((S604.1 29)).toInt by omega)) ?_
                rintro _ S695 ⟨hT695, fc695, ⟨b695, rfl, hb695, hG695, fd695, hz695⟩ | ⟨b695, rfl, hb695, hG695, ck695, fd695, cj695⟩⟩
                · skip
                  have fr696 := aw_fr_tr fr611 (aw_fr_sub (F := [24, 25, 31]) (A := []) (by decide) (by decide) fd695)
                  have hI697 : aw_I s h (aw_sm S695) S695 := ⟨hT695, aw_sm_rf⟩
                  show aw_W _ _ _ _ 175 lv693 [.int b695] _ _
                  refine aw_z (tgt := 180) aj_d261 rfl rfl (fun q698 => ?_) (fun q698 => ?_)
                  · have q698 : (0 : Int) ≠ (0 : Int) := aw_t_ne (a := (0 : Int)) (b := (0 : Int)) hb695 rfl q698
                    exfalso
                    omega
                  · have q698 : (0 : Int) = (0 : Int) := aw_t_ne (a := (0 : Int)) (b := (0 : Int)) hb695 rfl q698
                    refine aw_n aj_d261 rfl rfl ?_
                    refine aw_e aj_d261 rfl rfl ?_
                    have c699 : (S695.1 30).toInt = (S604.1 30).toInt := (congrArg Int32.toInt (fd695.1 30 (by decide)).1).trans rfl
                    have b700 : 0 ≤ (S695.1 30).toInt ∧ (S695.1 30).toInt ≤ 1001 := aw_bd_f hs (hI697).1 (by decide) rfl
                    exact ⟨(hI697).1, fr696, Or.inl ⟨_, rfl, rfl, hG695, (show _ ≤ ((S695.1 30)).toInt by omega)⟩⟩
                · skip
                  have cj695 : (S695.1 30).toInt = ((S604.1 30)).toInt + 1 := cj695
                  have fr701 := aw_fr_tr fr611 (aw_fr_sub (F := [26, 27, 28, 29, 30]) (A := []) (by decide) (by decide) fd695)
                  have hI702 : aw_I s h (aw_sm S695) S695 := ⟨hT695, aw_sm_rf⟩
                  show aw_W _ _ _ _ 175 lv693 [.int b695] _ _
                  refine aw_z (tgt := 180) aj_d261 rfl rfl (fun q703 => ?_) (fun q703 => ?_)
                  · have q703 : (1 : Int) ≠ (0 : Int) := aw_t_ne (a := (1 : Int)) (b := (0 : Int)) hb695 rfl q703
                    refine aw_n aj_d261 rfl rfl ?_
                    refine aw_l0 aj_d261 rfl rfl hlv693_4 ?_
                    refine aw_z (tgt := 183) aj_d261 rfl rfl (fun q704 => ?_) (fun q704 => ?_)
                    · have q704 : (1 : Int) = (0 : Int) := aw_t_eq (a := (1 : Int)) (b := (0 : Int)) hb690 rfl q704
                      exfalso
                      omega
                    · have q704 : (1 : Int) ≠ (0 : Int) := aw_t_eq (a := (1 : Int)) (b := (0 : Int)) hb690 rfl q704
                      have c705 : (S695.1 56).toInt = (S604.1 56).toInt := (congrArg Int32.toInt (fd695.1 56 (by decide)).1).trans rfl
                      have b706 : 0 ≤ (S695.1 56).toInt ∧ (S695.1 56).toInt ≤ 6 := aw_bd_f hs (hI702).1 (by decide) rfl
                      have b707 : 0 ≤ (S695.1 30).toInt ∧ (S695.1 30).toInt ≤ 1001 := aw_bd_f hs (hI702).1 (by decide) rfl
                      exact ihL56_579 S695 lv693 (x606) ((Int32.ofInt 1)) hlv693_0 hlv693_1 hlv693_3 ⟨(hI702).1, hG695⟩ fr701 (by omega) (by first | omega | decide) (by rw [show (S695.2.2.1 25) = S604.2.2.1 25 from ((fd695.2 25 (by decide)).1.trans rfl), show (S695.2.2.1 15) = S604.2.2.1 15 from ((fd695.2 15 (by decide)).1.trans rfl), show ((S695.1 56)).toInt = (S604.1 56).toInt from (by omega)]; exact TK75) (show _ ≤ ((S695.1 30)).toInt by omega) (show (1001 - ((S695.1 30)).toInt).toNat < _ by omega)
                  · have q703 : (1 : Int) = (0 : Int) := aw_t_ne (a := (1 : Int)) (b := (0 : Int)) hb695 rfl q703
                    exfalso
                    omega
            · skip
              clear pb690
              show aw_W _ _ _ _ 164 lv688 [.int b690] _ _
              refine aw_t0 (j := 4) aj_d261 rfl (by decide) rfl ?_
              obtain ⟨lv708, elv708⟩ : ∃ l, l = aj_set1 lv688 4 (.int b690) := ⟨_, rfl⟩
              rw [← elv708]
              have hlv708_0 : aj_lv lv708 0 = some (.ref 117) := cw_e1 elv708 hlv688_0 (by decide) (Or.inl (by decide))
              have hlv708_1 : aj_lv lv708 1 = some (.int x606) := cw_e1 elv708 hlv688_1 (by decide) (Or.inl (by decide))
              have hlv708_3 : aj_lv lv708 3 = some (.int (Int32.ofInt 1)) := cw_e1 elv708 hlv688_3 (by decide) (Or.inr rfl)
              have hlv708_4 : aj_lv lv708 4 = some (.int b690) := by rw [elv708]; exact ak_set1_eq _ _ _
              show aw_W _ _ _ _ 166 lv708 [] _ _
              refine aw_l0 aj_d261 rfl rfl hlv708_4 ?_
              refine aw_z (tgt := 180) aj_d261 rfl rfl (fun q709 => ?_) (fun q709 => ?_)
              · have q709 : (0 : Int) = (0 : Int) := aw_t_eq (a := (0 : Int)) (b := (0 : Int)) hb690 rfl q709
                refine aw_n aj_d261 rfl rfl ?_
                refine aw_l0 aj_d261 rfl rfl hlv708_4 ?_
                refine aw_z (tgt := 183) aj_d261 rfl rfl (fun q710 => ?_) (fun q710 => ?_)
                · have q710 : (0 : Int) = (0 : Int) := aw_t_eq (a := (0 : Int)) (b := (0 : Int)) hb690 rfl q710
                  refine aw_l0 aj_d261 rfl rfl hlv708_3 ?_
                  refine aw_z (tgt := 194) aj_d261 rfl rfl (fun q711 => ?_) (fun q711 => ?_)
                  · have q711 : (1 : Int) = (0 : Int) := aw_t_eq (a := (1 : Int)) (b := (0 : Int)) rfl rfl q711
                    exfalso
                    omega
                  · have q711 : (1 : Int) ≠ (0 : Int) := aw_t_eq (a := (1 : Int)) (b := (0 : Int)) rfl rfl q711
                    refine aw_l2 aj_d261 rfl rfl hlv708_0 ?_
                    refine aw_g hU.1 aj_d261 rfl rfl (by decide) (v := .ref 132) rfl ?_
                    refine aw_l0 aj_d261 rfl rfl hlv708_1 ?_
                    refine aw_n aj_d261 rfl rfl ?_
                    refine aw_st (k := 15) hU.1 aj_d261 (Or.inl ⟨rfl, rfl⟩) rfl (by decide) (by decide) rfl (a := x606.toInt) rfl (by omega) (by omega) ?_
                    have hI712 := aw_I_a (aw_UV hU aw_Gs_sm) (k := 15) (j := (x606.toInt).toNat) (v := aj_nar 0 (Int32.ofInt (-1))) hI612 (by decide) (by decide) (by decide) rfl (by decide) (by decide) rfl (aw_bp (a := (-1 : Int)) rfl (by omega) (by omega))
                    have fr713 := aw_fr_a (k := 15) (j := (x606.toInt).toNat) (v := aj_nar 0 (Int32.ofInt (-1))) (by decide) fr611
                    refine aw_l2 aj_d261 rfl rfl hlv708_0 ?_
                    refine aw_n aj_d261 rfl rfl ?_
                    refine aw_k hU.1 aj_d261 rfl rfl [_] rfl rfl rfl (Nat.le_of_ble_eq_true rfl) (aw_toK hU aw_Gs_G (con := ac_c219_41) (by omega) (ar_219_41 hU.2.1 (aw_SPc hU.2.2 aw_Gs_G) aw_kpc (arc_214b hU) (arc_215 hU)) ⟨(hI712).1, (aw_G_sm hI712.2 hI610.2)⟩ ⟨(aw_g117 hU.2.2), (cw_gw (a := (41 : Int)) rfl (by omega) (by omega)), trivial⟩ (fun e he => nomatch he)) ?_
                    rintro r714 S714 ⟨hr714, hJ714, fc714, po714, -⟩
                    have hT714 := hJ714.1
                    replace fc714 := aw_fr_sub (F' := [24, 25, 26, 27, 28, 29, 30, 31]) (A' := []) (by decide) (by decide) fc714
                    rcases ar_bool hU (hI712).1 hT714 hr714 po714 with ⟨b714, rfl, hb714, cf714⟩ | ⟨b714, rfl, hb714, ck714, gq714⟩
                    · skip
                      have cf714 : (S604.1 30).toInt + 0 ≤ (S714.1 30).toInt := cf714
                      have fr715 := aw_fr_tr fr713 (aw_fr_sub (F := [24, 25, 26, 27, 28, 29, 30, 31]) (A := []) (by decide) (by decide) fc714)
                      have hI716 : aw_I s h (aw_sm S714) S714 := ⟨hT714, aw_sm_rf⟩
                      show aw_W _ _ _ _ 200 lv708 [.int b714] _ _
                      refine aw_e aj_d261 rfl (cw_irb rfl (by omega)) ?_
                      have b717 : 0 ≤ (S714.1 30).toInt ∧ (S714.1 30).toInt ≤ 1001 := aw_bd_f hs (hI716).1 (by decide) rfl
                      exact ⟨(hI716).1, fr715, Or.inl ⟨_, rfl, hb714, hJ714.2, (show _ ≤ ((S714.1 30)).toInt by omega)⟩⟩
                    · skip
                      have ck714 : (S604.1 30).toInt + 1 ≤ (S714.1 30).toInt := ck714
                      have fr718 := aw_fr_tr fr713 (aw_fr_sub (F := [24, 25, 26, 27, 28, 29, 30, 31]) (A := []) (by decide) (by decide) fc714)
                      have hI719 : aw_I s h (aw_sm S714) S714 := ⟨hT714, aw_sm_rf⟩
                      show aw_W _ _ _ _ 200 lv708 [.int b714] _ _
                      refine aw_e aj_d261 rfl (cw_irb rfl (by omega)) ?_
                      have b720 : 0 ≤ (S714.1 30).toInt ∧ (S714.1 30).toInt ≤ 1001 := aw_bd_f hs (hI719).1 (by decide) rfl
                      exact ⟨(hI719).1, fr718, Or.inr ⟨_, rfl, hb714, hJ714.2, (show _ + 1 ≤ ((S714.1 30)).toInt by omega), trivial⟩⟩
                · have q710 : (0 : Int) ≠ (0 : Int) := aw_t_eq (a := (0 : Int)) (b := (0 : Int)) hb690 rfl q710
                  exfalso
                  omega
              · have q709 : (0 : Int) ≠ (0 : Int) := aw_t_eq (a := (0 : Int)) (b := (0 : Int)) hb690 rfl q709
                exfalso
                omega
          · have q689 : (1 : Int) = (0 : Int) := aw_t_ne (a := (1 : Int)) (b := (0 : Int)) rfl rfl q689
            exfalso
            omega
    · have q615 : x609.toInt < (S604.1 56).toInt := aw_t_ge (a := x609.toInt) (b := (S604.1 56).toInt) rfl rfl q615
      refine aw_l0 aj_d261 rfl rfl hlv605_5 ?_
      refine aw_z (tgt := 112) aj_d261 rfl rfl (fun q721 => ?_) (fun q721 => ?_)
      · have q721 : x608.toInt < (0 : Int) := aw_t_lt (a := x608.toInt) (b := (0 : Int)) rfl rfl q721
        refine aw_inc aj_d261 rfl hlv605_6 (a := x609.toInt) rfl (by omega) (by omega) (by decide) (by decide) (fun x722 ex722 => ?_)
        obtain ⟨lv723, elv723⟩ : ∃ l, l = aj_set1 lv605 6 (.int x722) := ⟨_, rfl⟩
        rw [← elv723]
        have hlv723_0 : aj_lv lv723 0 = some (.ref 117) := cw_e1 elv723 hlv605_0 (by decide) (Or.inl (by decide))
        have hlv723_1 : aj_lv lv723 1 = some (.int x606) := cw_e1 elv723 hlv605_1 (by decide) (Or.inl (by decide))
        have hlv723_3 : aj_lv lv723 3 = some (.int x607) := cw_e1 elv723 hlv605_3 (by decide) (Or.inl (by decide))
        have hlv723_5 : aj_lv lv723 5 = some (.int x608) := cw_e1 elv723 hlv605_5 (by decide) (Or.inr rfl)
        have hlv723_6 : aj_lv lv723 6 = some (.int x722) := by rw [elv723]; exact ak_set1_eq _ _ _
        show aw_W _ _ _ _ 115 lv723 [] _ _
        refine aw_n aj_d261 rfl rfl ?_
        exact ihL75_602 S604 lv723 (x606) (x607) (x608) (x722) hlv723_0 hlv723_1 hlv723_3 hlv723_5 hlv723_6 ⟨(hI612).1, hI610.2⟩ fr611 (by omega) (by omega) (by omega) (by omega) TK75 (show _ ≤ ((S604.1 30)).toInt by omega) (show _ ≤ ((S604.1 30)).toInt by omega) cb75 (fun z0 z1 j hj => by
            by_cases ej : j = (x609.toInt).toNat
            · subst ej
              omega
            · exact nb75 z0 z1 j (by omega)) (show _ ≤ ((S604.1 56)).toInt by omega) (by omega)
      · have q721 : x608.toInt ≥ (0 : Int) := aw_t_lt (a := x608.toInt) (b := (0 : Int)) rfl rfl q721
        refine aw_l2 aj_d261 rfl rfl hlv605_0 ?_
        refine aw_g hU.1 aj_d261 rfl rfl (by decide) (v := .ref 142) rfl ?_
        refine aw_l0 aj_d261 rfl rfl hlv605_6 ?_
        refine aw_ld (k := 25) hU.1 aj_d261 (Or.inl ⟨rfl, rfl⟩) rfl (by decide) (by decide) rfl (a := x609.toInt) rfl (by omega) (by omega) (fun x724 ex724 => ?_)
        have bx724 : 0 ≤ x724.toInt ∧ x724.toInt ≤ 5 := by
          rw [ex724]
          exact aw_bd_a hs (hI612).1 (k := 25) (by decide) (by decide) rfl (by decide) rfl (by omega)
        refine aw_l0 aj_d261 rfl rfl hlv605_5 ?_
        refine aw_c (tgt := 112) aj_d261 rfl rfl (fun q725 => ?_) (fun q725 => ?_)
        · have q725 : x724.toInt ≠ x608.toInt := aw_t_ne (a := x724.toInt) (b := x608.toInt) rfl rfl q725
          refine aw_inc aj_d261 rfl hlv605_6 (a := x609.toInt) rfl (by omega) (by omega) (by decide) (by decide) (fun x726 ex726 => ?_)
          obtain ⟨lv727, elv727⟩ : ∃ l, l = aj_set1 lv605 6 (.int x726) := ⟨_, rfl⟩
          rw [← elv727]
          have hlv727_0 : aj_lv lv727 0 = some (.ref 117) := cw_e1 elv727 hlv605_0 (by decide) (Or.inl (by decide))
          have hlv727_1 : aj_lv lv727 1 = some (.int x606) := cw_e1 elv727 hlv605_1 (by decide) (Or.inl (by decide))
          have hlv727_3 : aj_lv lv727 3 = some (.int x607) := cw_e1 elv727 hlv605_3 (by decide) (Or.inl (by decide))
          have hlv727_5 : aj_lv lv727 5 = some (.int x608) := cw_e1 elv727 hlv605_5 (by decide) (Or.inr rfl)
          have hlv727_6 : aj_lv lv727 6 = some (.int x726) := by rw [elv727]; exact ak_set1_eq _ _ _
          show aw_W _ _ _ _ 115 lv727 [] _ _
          refine aw_n aj_d261 rfl rfl ?_
          exact ihL75_602 S604 lv727 (x606) (x607) (x608) (x726) hlv727_0 hlv727_1 hlv727_3 hlv727_5 hlv727_6 ⟨(hI612).1, hI610.2⟩ fr611 (by omega) (by omega) (by omega) (by omega) TK75 (show _ ≤ ((S604.1 30)).toInt by omega) (show _ ≤ ((S604.1 30)).toInt by omega) cb75 (fun z0 z1 j hj => by
              by_cases ej : j = (x609.toInt).toNat
              · subst ej
                have y := congrArg Int32.toInt ex724
                show (S604.2.2.1 25 (x609.toInt).toNat).toInt ≠ _
                have y2 : x724.toInt = (S604.2.2.1 25 (x609.toInt).toNat).toInt := y
                omega
              · exact nb75 z0 z1 j (by omega)) (show _ ≤ ((S604.1 56)).toInt by omega) (by omega)
        · have q725 : x724.toInt = x608.toInt := aw_t_ne (a := x724.toInt) (b := x608.toInt) rfl rfl q725
          refine aw_l2 aj_d261 rfl rfl hlv605_0 ?_
          refine aw_n aj_d261 rfl rfl ?_
          refine aw_l2 aj_d261 rfl rfl hlv605_0 ?_
          refine aw_g hU.1 aj_d261 rfl rfl (by decide) (v := .int (S604.1 34)) rfl ?_
          refine aw_k hU.1 aj_d261 rfl rfl [_, _] rfl rfl rfl (Nat.le_of_ble_eq_true rfl) (ar_tell hU (hI612).1 (by omega) (a := (3 : Int)) rfl (by omega)) ?_
          rintro _ S728 ⟨hT728, fc728, rfl, hz728, hw728⟩
          have hG728 := aw_G_tell hI610.2 fc728 hz728
          have b729 : 0 ≤ (S604.1 32).toInt ∧ (S604.1 32).toInt ≤ 1 := aw_bd_f hs (hI612).1 (by decide) rfl
          have hz728 : ((S604.1 32)).toInt = 0 → (S728.1 24).toInt ≠ 0 := hz728
          have fr730 := aw_fr_tr fr611 (aw_fr_sub (F := [24, 25]) (A := []) (by decide) (by decide) fc728)
          have hI731 : aw_I s h (aw_sm S728) S728 := ⟨hT728, aw_sm_rf⟩
          show aw_W _ _ _ _ 110 lv605 [] _ _
          refine aw_n aj_d261 rfl rfl ?_
          refine aw_t0 (j := 3) aj_d261 rfl (by decide) rfl ?_
          obtain ⟨lv732, elv732⟩ : ∃ l, l = aj_set1 lv605 3 (.int (Int32.ofInt 1)) := ⟨_, rfl⟩
          rw [← elv732]
          have hlv732_0 : aj_lv lv732 0 = some (.ref 117) := cw_e1 elv732 hlv605_0 (by decide) (Or.inl (by decide))
          have hlv732_1 : aj_lv lv732 1 = some (.int x606) := cw_e1 elv732 hlv605_1 (by decide) (Or.inl (by decide))
          have hlv732_5 : aj_lv lv732 5 = some (.int x608) := cw_e1 elv732 hlv605_5 (by decide) (Or.inl (by decide))
          have hlv732_6 : aj_lv lv732 6 = some (.int x609) := cw_e1 elv732 hlv605_6 (by decide) (Or.inl (by decide))
          have hlv732_3 : aj_lv lv732 3 = some (.int (Int32.ofInt 1)) := by rw [elv732]; exact ak_set1_eq _ _ _
          show aw_W _ _ _ _ 112 lv732 [] _ _
          refine aw_inc aj_d261 rfl hlv732_6 (a := x609.toInt) rfl (by omega) (by omega) (by decide) (by decide) (fun x733 ex733 => ?_)
          obtain ⟨lv734, elv734⟩ : ∃ l, l = aj_set1 lv732 6 (.int x733) := ⟨_, rfl⟩
          rw [← elv734]
          have hlv734_0 : aj_lv lv734 0 = some (.ref 117) := cw_e1 elv734 hlv732_0 (by decide) (Or.inl (by decide))
          have hlv734_1 : aj_lv lv734 1 = some (.int x606) := cw_e1 elv734 hlv732_1 (by decide) (Or.inl (by decide))
          have hlv734_5 : aj_lv lv734 5 = some (.int x608) := cw_e1 elv734 hlv732_5 (by decide) (Or.inr rfl)
          have hlv734_3 : aj_lv lv734 3 = some (.int (Int32.ofInt 1)) := cw_e1 elv734 hlv732_3 (by decide) (Or.inl (by decide))
          have hlv734_6 : aj_lv lv734 6 = some (.int x733) := by rw [elv734]; exact ak_set1_eq _ _ _
          show aw_W _ _ _ _ 115 lv734 [] _ _
          refine aw_n aj_d261 rfl rfl ?_
          have c735 : (S728.1 56).toInt = (S604.1 56).toInt := (congrArg Int32.toInt (fc728.1 56 (by decide)).1).trans rfl
          have b736 : 0 ≤ (S728.1 56).toInt ∧ (S728.1 56).toInt ≤ 6 := aw_bd_f hs (hI731).1 (by decide) rfl
          have c737 : (S728.1 30).toInt = (S604.1 30).toInt := (congrArg Int32.toInt (fc728.1 30 (by decide)).1).trans rfl
          have b738 : 0 ≤ (S728.1 30).toInt ∧ (S728.1 30).toInt ≤ 1001 := aw_bd_f hs (hI731).1 (by decide) rfl
          exact ihL75_602 S728 lv734 (x606) ((Int32.ofInt 1)) (x608) (x733) hlv734_0 hlv734_1 hlv734_3 hlv734_5 hlv734_6 ⟨(hI731).1, hG728⟩ fr730 (by omega) (by first | omega | decide) (by omega) (by omega) (by rw [show (S728.2.2.1 25) = S604.2.2.1 25 from ((fc728.2 25 (by decide)).1.trans rfl), show (S728.2.2.1 15) = S604.2.2.1 15 from ((fc728.2 15 (by decide)).1.trans rfl), show ((S728.1 56)).toInt = (S604.1 56).toInt from (by omega)]; exact TK75) (show _ ≤ ((S728.1 30)).toInt by omega) (show _ ≤ ((S728.1 30)).toInt by omega) (by rw [show (S728.2.2.1 15) = S604.2.2.1 15 from ((fc728.2 15 (by decide)).1.trans rfl)]; exact cb75) (fun z => absurd z (by decide)) (show _ ≤ ((S728.1 56)).toInt by omega) (by omega)
theorem ar_columns_L56_579 (hU : aw_U tb s h) (hd : 6 ≤ d + 1)  : ∀ (N : Nat) (S581 : aj_S) (lv582 : aj_V) (x583 : Int32) (x584 : Int32), (aj_lv lv582 0 = some (.ref 117)) → (aj_lv lv582 1 = some (.int x583)) → (aj_lv lv582 3 = some (.int x584)) → (aw_I s h (aw_G g) S581) → (aw_fr [24, 25, 26, 27, 28, 29, 30, 31, 33, 34, 56] [15, 25] S S581) → (20 ≤ x583.toInt ∧ x583.toInt ≤ 48) → (0 ≤ x584.toInt ∧ x584.toInt ≤ 1) → (ar_TK (S581.2.2.1 25) ((S581.1 56).toInt).toNat (S581.2.2.1 15 (x583.toInt).toNat).toInt) → ((S.1 30).toInt + 0 ≤ (S581.1 30).toInt) → (1001 - (S581.1 30).toInt).toNat < N → aw_W tb h d aj_m261 56 lv582 [] S581 ((ar_QT s h g [24, 25, 26, 27, 28, 29, 30, 31, 33, 34, 56] [15, 25] S (fun _ => True))) := by
  have hs : aw_sT s := aw_hy_sT hU.2.2
  intro N56
  induction N56 with
  | zero =>
    intro S581 lv582 x583 x584 hlv582_0 hlv582_1 hlv582_3 hI585 fr586 bx583 bx584 TK56 ck56 hm56
    omega
  | succ N56 ihL56_579 =>
    intro S581 lv582 x583 x584 hlv582_0 hlv582_1 hlv582_3 hI585 fr586 bx583 bx584 TK56 ck56 hm56
    have hI587 : aw_I s h (aw_sm S581) S581 := ⟨hI585.1, aw_sm_rf⟩
    have b588 : 0 ≤ (S581.1 30).toInt ∧ (S581.1 30).toInt ≤ 1001 := aw_bd_f hs (hI587).1 (by decide) rfl
    have b589 : 0 ≤ (S581.1 56).toInt ∧ (S581.1 56).toInt ≤ 6 := aw_bd_f hs (hI587).1 (by decide) rfl
    refine aw_l2 aj_d261 rfl rfl hlv582_0 ?_
    refine aw_k hU.1 aj_d261 rfl rfl [] rfl rfl rfl (Nat.le_of_ble_eq_true rfl) (ar_named hU (hI587).1 hI585.2 (by omega)) ?_
    rintro _ S590 ⟨hT590, fc590, ⟨b590, rfl, hb590, hG590, ck590, hz590⟩ | ⟨b590, rfl, hb590, hG590, ck590, cj590, k1590, nm590⟩⟩
    · skip
      have ck590 : ((S581.1 30)).toInt ≤ (S590.1 30).toInt := ck590
      have fr591 := aw_fr_tr fr586 (aw_fr_sub (F := [24, 25, 26, 27, 28, 29, 30, 31, 33, 34]) (A := []) (by decide) (by decide) fc590)
      have hI592 : aw_I s h (aw_sm S590) S590 := ⟨hT590, aw_sm_rf⟩
      show aw_W _ _ _ _ 60 lv582 [.int b590] _ _
      refine aw_z (tgt := 65) aj_d261 rfl rfl (fun q593 => ?_) (fun q593 => ?_)
      · have q593 : (0 : Int) ≠ (0 : Int) := aw_t_ne (a := (0 : Int)) (b := (0 : Int)) hb590 rfl q593
        exfalso
        omega
      · have q593 : (0 : Int) = (0 : Int) := aw_t_ne (a := (0 : Int)) (b := (0 : Int)) hb590 rfl q593
        refine aw_n aj_d261 rfl rfl ?_
        refine aw_e aj_d261 rfl rfl ?_
        have b594 : 0 ≤ (S590.1 30).toInt ∧ (S590.1 30).toInt ≤ 1001 := aw_bd_f hs (hI592).1 (by decide) rfl
        exact ⟨(hI592).1, fr591, Or.inl ⟨_, rfl, rfl, hG590, (show _ ≤ ((S590.1 30)).toInt by omega)⟩⟩
    · skip
      have cj590 : (S590.1 30).toInt = ((S581.1 30)).toInt + 1 := cj590
      have fr595 := aw_fr_tr fr586 (aw_fr_sub (F := [24, 25, 26, 27, 28, 29, 30, 31, 33, 34]) (A := []) (by decide) (by decide) fc590)
      have hI596 : aw_I s h (aw_sm S590) S590 := ⟨hT590, aw_sm_rf⟩
      show aw_W _ _ _ _ 60 lv582 [.int b590] _ _
      refine aw_z (tgt := 65) aj_d261 rfl rfl (fun q597 => ?_) (fun q597 => ?_)
      · have q597 : (1 : Int) ≠ (0 : Int) := aw_t_ne (a := (1 : Int)) (b := (0 : Int)) hb590 rfl q597
        refine aw_l2 aj_d261 rfl rfl hlv582_0 ?_
        refine aw_l0 aj_d261 rfl rfl hlv582_1 ?_
        refine aw_k hU.1 aj_d261 rfl rfl [_] rfl rfl rfl (Nat.le_of_ble_eq_true rfl) (ar_told hU (hI596).1 hG590 (by omega) (x := x583) (by omega)) ?_
        rintro _ S598 ⟨hT598, fc598, b598, rfl, hG598, cb598, bb598⟩
        have fr599 := aw_fr_tr fr595 (aw_fr_sub (F := [24, 25]) (A := []) (by decide) (by decide) fc598)
        have hI600 : aw_I s h (aw_sm S598) S598 := ⟨hT598, aw_sm_rf⟩
        show aw_W _ _ _ _ 70 lv582 [.int b598] _ _
        refine aw_t0 (j := 5) aj_d261 rfl (by decide) rfl ?_
        obtain ⟨lv601, elv601⟩ : ∃ l, l = aj_set1 lv582 5 (.int b598) := ⟨_, rfl⟩
        rw [← elv601]
        have hlv601_0 : aj_lv lv601 0 = some (.ref 117) := cw_e1 elv601 hlv582_0 (by decide) (Or.inl (by decide))
        have hlv601_1 : aj_lv lv601 1 = some (.int x583) := cw_e1 elv601 hlv582_1 (by decide) (Or.inl (by decide))
        have hlv601_3 : aj_lv lv601 3 = some (.int x584) := cw_e1 elv601 hlv582_3 (by decide) (Or.inl (by decide))
        have hlv601_5 : aj_lv lv601 5 = some (.int b598) := by rw [elv601]; exact ak_set1_eq _ _ _
        show aw_W _ _ _ _ 72 lv601 [] _ _
        refine aw_n aj_d261 rfl rfl ?_
        refine aw_t0 (j := 6) aj_d261 rfl (by decide) rfl ?_
        obtain ⟨lv602, elv602⟩ : ∃ l, l = aj_set1 lv601 6 (.int (Int32.ofInt 0)) := ⟨_, rfl⟩
        rw [← elv602]
        have hlv602_0 : aj_lv lv602 0 = some (.ref 117) := cw_e1 elv602 hlv601_0 (by decide) (Or.inl (by decide))
        have hlv602_1 : aj_lv lv602 1 = some (.int x583) := cw_e1 elv602 hlv601_1 (by decide) (Or.inl (by decide))
        have hlv602_3 : aj_lv lv602 3 = some (.int x584) := cw_e1 elv602 hlv601_3 (by decide) (Or.inl (by decide))
        have hlv602_5 : aj_lv lv602 5 = some (.int b598) := cw_e1 elv602 hlv601_5 (by decide) (Or.inr rfl)
        have hlv602_6 : aj_lv lv602 6 = some (.int (Int32.ofInt 0)) := by rw [elv602]; exact ak_set1_eq _ _ _
        show aw_W _ _ _ _ 75 lv602 [] _ _
        have c739 : (S590.1 56).toInt = (S581.1 56).toInt := (congrArg Int32.toInt (fc590.1 56 (by decide)).1).trans rfl
        have b740 : 0 ≤ (S590.1 56).toInt ∧ (S590.1 56).toInt ≤ 6 := aw_bd_f hs (hI596).1 (by decide) rfl
        have c741 : (S598.1 56).toInt = (S581.1 56).toInt := (congrArg Int32.toInt (fc598.1 56 (by decide)).1).trans c739
        have b742 : 0 ≤ (S598.1 56).toInt ∧ (S598.1 56).toInt ≤ 6 := aw_bd_f hs (hI600).1 (by decide) rfl
        have b743 : 0 ≤ (S590.1 30).toInt ∧ (S590.1 30).toInt ≤ 1001 := aw_bd_f hs (hI596).1 (by decide) rfl
        have c744 : (S598.1 30).toInt = (S590.1 30).toInt := (congrArg Int32.toInt (fc598.1 30 (by decide)).1).trans rfl
        have b745 : 0 ≤ (S598.1 30).toInt ∧ (S598.1 30).toInt ≤ 1001 := aw_bd_f hs (hI600).1 (by decide) rfl
        exact (ar_columns_L75_602 hU hd N56 S581 x583 x584 ihL56_579 hm56) _ S598 lv602 (x583) (x584) (b598) ((Int32.ofInt 0)) hlv602_0 hlv602_1 hlv602_3 hlv602_5 hlv602_6 ⟨(hI600).1, hG598⟩ fr599 (by omega) (by omega) (by omega) (by first | omega | decide) (by rw [show (S598.2.2.1 25) = S581.2.2.1 25 from ((fc598.2 25 (by decide)).1.trans ((fc590.2 25 (by decide)).1.trans rfl)), show (S598.2.2.1 15) = S581.2.2.1 15 from ((fc598.2 15 (by decide)).1.trans ((fc590.2 15 (by decide)).1.trans rfl)), show ((S598.1 56)).toInt = (S581.1 56).toInt from (by omega)]; exact TK56) (show _ ≤ ((S598.1 30)).toInt by omega) (show _ ≤ ((S598.1 30)).toInt by omega) (by rw [show (S598.2.2.1 15) = S590.2.2.1 15 from (fc598.2 15 (by decide)).1]; rcases cb598 with z | z <;> omega) (fun _ _ j hj => absurd hj (Nat.not_lt_zero _)) (show (0 : Int) ≤ ((S598.1 56)).toInt by omega) (Nat.lt_succ_self _)
      · have q597 : (1 : Int) = (0 : Int) := aw_t_ne (a := (1 : Int)) (b := (0 : Int)) hb590 rfl q597
        exfalso
        omega
theorem ar_columns (hU : aw_U tb s h) (hT : ak_Ty ak_TN s (aj_mh h S)) (hG : aw_G g S) (hd : 6 ≤ d) {x y : Int32} (hx : 20 ≤ x.toInt ∧ x.toInt ≤ 48) (hy : 0 ≤ y.toInt ∧ y.toInt ≤ 1) : aw_K tb h d 261 [.ref 117, .int x, .int y] S (ar_QT s h g [24, 25, 26, 27, 28, 29, 30, 31, 33, 34, 56] [15, 25] S (fun _ => True)) := by
  obtain ⟨d, rfl⟩ : ∃ e, d = e + 1 := ⟨d - 1, by omega⟩
  have hs : aw_sT s := aw_hy_sT hU.2.2
  refine aw_m aj_m261_at rfl (Nat.le_of_ble_eq_true rfl) ?_
  show aw_W _ _ _ _ 0 [(0, .ref 117), (1, .int x), (2, .int y)] [] _ _
  obtain ⟨lv1, elv1⟩ : ∃ l : aj_V, l = [(0, .ref 117), (1, .int x), (2, .int y)] := ⟨_, rfl⟩
  rw [← elv1]
  have hlv1_0 : aj_lv lv1 0 = some (.ref 117) := by rw [elv1]; rfl
  have hlv1_1 : aj_lv lv1 1 = some (.int x) := by rw [elv1]; rfl
  have hlv1_2 : aj_lv lv1 2 = some (.int y) := by rw [elv1]; rfl
  have hI2 : aw_I s h (aw_sm S) S := ⟨hT, aw_sm_rf⟩
  have fr3 : aw_fr [24, 25, 26, 27, 28, 29, 30, 31, 33, 34, 56] [15, 25] S S := aw_fr_rf
  refine aw_l2 aj_d261 rfl rfl hlv1_0 ?_
  refine aw_n aj_d261 rfl rfl ?_
  refine aw_p hU.1 aj_d261 rfl rfl (by decide) rfl ?_
  have hI4 := aw_I_f (aw_UV hU aw_Gs_sm) (k := 56) (v := (Int32.ofInt 0)) hI2 (by decide) (by decide) rfl (aw_bp (a := (0 : Int)) rfl (by omega) (by omega))
  have fr5 := aw_fr_f (k := 56) (v := (Int32.ofInt 0)) (by decide) fr3
  have TK6 : ar_TK (((aw_wf S 56 (Int32.ofInt 0))).2.2.1 25) ((((aw_wf S 56 (Int32.ofInt 0))).1 56).toInt).toNat (((aw_wf S 56 (Int32.ofInt 0))).2.2.1 15 (x.toInt).toNat).toInt := fun i hi => absurd hi (Nat.not_lt_zero _)
  refine aw_l2 aj_d261 rfl rfl hlv1_0 ?_
  refine aw_g hU.1 aj_d261 rfl rfl (by decide) (v := .ref 132) rfl ?_
  refine aw_l0 aj_d261 rfl rfl hlv1_1 ?_
  refine aw_ld (k := 15) hU.1 aj_d261 (Or.inl ⟨rfl, rfl⟩) rfl (by decide) (by decide) rfl (a := x.toInt) rfl (by omega) (by omega) (fun x7 ex7 => ?_)
  have bx7 : (-1) ≤ x7.toInt ∧ x7.toInt ≤ 6 := by
    rw [ex7]
    exact aw_bd_a hs (hI4).1 (k := 15) (by decide) (by decide) rfl (by decide) rfl (by omega)
  refine aw_z (tgt := 18) aj_d261 rfl rfl (fun q8 => ?_) (fun q8 => ?_)
  · have q8 : x7.toInt ≥ (0 : Int) := aw_t_ge (a := x7.toInt) (b := (0 : Int)) rfl rfl q8
    refine aw_n aj_d261 rfl rfl ?_
    refine aw_t0 (j := 3) aj_d261 rfl (by decide) rfl ?_
    obtain ⟨lv9, elv9⟩ : ∃ l, l = aj_set1 lv1 3 (.int (Int32.ofInt 0)) := ⟨_, rfl⟩
    rw [← elv9]
    have hlv9_0 : aj_lv lv9 0 = some (.ref 117) := cw_e1 elv9 hlv1_0 (by decide) (Or.inl (by decide))
    have hlv9_1 : aj_lv lv9 1 = some (.int x) := cw_e1 elv9 hlv1_1 (by decide) (Or.inl (by decide))
    have hlv9_2 : aj_lv lv9 2 = some (.int y) := cw_e1 elv9 hlv1_2 (by decide) (Or.inr rfl)
    have hlv9_3 : aj_lv lv9 3 = some (.int (Int32.ofInt 0)) := by rw [elv9]; exact ak_set1_eq _ _ _
    show aw_W _ _ _ _ 20 lv9 [] _ _
    refine aw_l2 aj_d261 rfl rfl hlv9_0 ?_
    refine aw_n aj_d261 rfl rfl ?_
    have b10 : 0 ≤ (S.1 30).toInt ∧ (S.1 30).toInt ≤ 1001 := aw_bd_f hs (hI2).1 (by decide) rfl
    refine aw_k hU.1 aj_d261 rfl rfl [_] rfl rfl rfl (Nat.le_of_ble_eq_true rfl) (aw_toK hU aw_Gs_G (con := ac_c219_40) (by omega) (ar_219_40 hU.2.1 (aw_SPc hU.2.2 aw_Gs_G) aw_kpc (arc_214b hU) (arc_215 hU)) ⟨(hI4).1, (aw_G_sm hI4.2 hG)⟩ ⟨(aw_g117 hU.2.2), (cw_gw (a := (40 : Int)) rfl (by omega) (by omega)), trivial⟩ (fun e he => nomatch he)) ?_
    rintro r11 S11 ⟨hr11, hJ11, fc11, po11, -⟩
    have hT11 := hJ11.1
    replace fc11 := aw_fr_sub (F' := [24, 25, 26, 27, 28, 29, 30, 31]) (A' := []) (by decide) (by decide) fc11
    rcases ar_bool hU (hI4).1 hT11 hr11 po11 with ⟨b11, rfl, hb11, cf11⟩ | ⟨b11, rfl, hb11, ck11, gq11⟩
    · skip
      have cf11 : (S.1 30).toInt + 0 ≤ (S11.1 30).toInt := cf11
      have fr12 := aw_fr_tr fr5 (aw_fr_sub (F := [24, 25, 26, 27, 28, 29, 30, 31]) (A := []) (by decide) (by decide) fc11)
      have hI13 : aw_I s h (aw_sm S11) S11 := ⟨hT11, aw_sm_rf⟩
      show aw_W _ _ _ _ 26 lv9 [.int b11] _ _
      refine aw_z (tgt := 31) aj_d261 rfl rfl (fun q14 => ?_) (fun q14 => ?_)
      · have q14 : (0 : Int) ≠ (0 : Int) := aw_t_ne (a := (0 : Int)) (b := (0 : Int)) hb11 rfl q14
        exfalso
        omega
      · have q14 : (0 : Int) = (0 : Int) := aw_t_ne (a := (0 : Int)) (b := (0 : Int)) hb11 rfl q14
        refine aw_n aj_d261 rfl rfl ?_
        refine aw_e aj_d261 rfl rfl ?_
        have b15 : 0 ≤ (S11.1 30).toInt ∧ (S11.1 30).toInt ≤ 1001 := aw_bd_f hs (hI13).1 (by decide) rfl
        exact ⟨(hI13).1, fr12, Or.inl ⟨_, rfl, rfl, hJ11.2, (show _ ≤ ((S11.1 30)).toInt by omega)⟩⟩
    · skip
      have ck11 : (S.1 30).toInt + 1 ≤ (S11.1 30).toInt := ck11
      have fr16 := aw_fr_tr fr5 (aw_fr_sub (F := [24, 25, 26, 27, 28, 29, 30, 31]) (A := []) (by decide) (by decide) fc11)
      have hI17 : aw_I s h (aw_sm S11) S11 := ⟨hT11, aw_sm_rf⟩
      show aw_W _ _ _ _ 26 lv9 [.int b11] _ _
      refine aw_z (tgt := 31) aj_d261 rfl rfl (fun q18 => ?_) (fun q18 => ?_)
      · have q18 : (1 : Int) ≠ (0 : Int) := aw_t_ne (a := (1 : Int)) (b := (0 : Int)) hb11 rfl q18
        refine aw_l0 aj_d261 rfl rfl hlv9_2 ?_
        refine aw_z (tgt := 44) aj_d261 rfl rfl (fun q19 => ?_) (fun q19 => ?_)
        · have q19 : y.toInt = (0 : Int) := aw_t_eq (a := y.toInt) (b := (0 : Int)) rfl rfl q19
          refine aw_n aj_d261 rfl rfl ?_
          refine aw_n aj_d261 rfl rfl ?_
          refine aw_t0 (j := 4) aj_d261 rfl (by decide) rfl ?_
          obtain ⟨lv20, elv20⟩ : ∃ l, l = aj_set1 lv9 4 (.int (Int32.ofInt 1)) := ⟨_, rfl⟩
          rw [← elv20]
          have hlv20_0 : aj_lv lv20 0 = some (.ref 117) := cw_e1 elv20 hlv9_0 (by decide) (Or.inl (by decide))
          have hlv20_1 : aj_lv lv20 1 = some (.int x) := cw_e1 elv20 hlv9_1 (by decide) (Or.inl (by decide))
          have hlv20_3 : aj_lv lv20 3 = some (.int (Int32.ofInt 0)) := cw_e1 elv20 hlv9_3 (by decide) (Or.inr rfl)
          have hlv20_4 : aj_lv lv20 4 = some (.int (Int32.ofInt 1)) := by rw [elv20]; exact ak_set1_eq _ _ _
          show aw_W _ _ _ _ 51 lv20 [] _ _
          refine aw_l0 aj_d261 rfl rfl hlv20_4 ?_
          refine aw_z (tgt := 183) aj_d261 rfl rfl (fun q21 => ?_) (fun q21 => ?_)
          · have q21 : (1 : Int) = (0 : Int) := aw_t_eq (a := (1 : Int)) (b := (0 : Int)) rfl rfl q21
            exfalso
            omega
          · have q21 : (1 : Int) ≠ (0 : Int) := aw_t_eq (a := (1 : Int)) (b := (0 : Int)) rfl rfl q21
            have c188 : (S11.1 56).toInt = (0 : Int) := (congrArg Int32.toInt (fc11.1 56 (by decide)).1).trans rfl
            have b189 : 0 ≤ (S11.1 56).toInt ∧ (S11.1 56).toInt ≤ 6 := aw_bd_f hs (hI17).1 (by decide) rfl
            have b190 : 0 ≤ (S11.1 30).toInt ∧ (S11.1 30).toInt ≤ 1001 := aw_bd_f hs (hI17).1 (by decide) rfl
            exact (ar_columns_L56_21 hU hd ) _ S11 lv20 (x) ((Int32.ofInt 0)) hlv20_0 hlv20_1 hlv20_3 ⟨(hI17).1, hJ11.2⟩ fr16 (by omega) (by first | omega | decide) (by rw [show (S11.2.2.1 25) = S.2.2.1 25 from ((fc11.2 25 (by decide)).1.trans rfl), show (S11.2.2.1 15) = S.2.2.1 15 from ((fc11.2 15 (by decide)).1.trans rfl), show ((S11.1 56)).toInt = ((aw_wf S 56 (Int32.ofInt 0)).1 56).toInt from (show ((S11.1 56)).toInt = (0 : Int) by omega)]; exact TK6) (show _ ≤ ((S11.1 30)).toInt by omega) (Nat.lt_succ_self _)
        · have q19 : y.toInt ≠ (0 : Int) := aw_t_eq (a := y.toInt) (b := (0 : Int)) rfl rfl q19
          refine aw_l2 aj_d261 rfl rfl hlv9_0 ?_
          refine aw_n aj_d261 rfl rfl ?_
          refine aw_k hU.1 aj_d261 rfl rfl [_] rfl rfl rfl (Nat.le_of_ble_eq_true rfl) (ar_isSign hU (by omega) (b := (41 : Int)) rfl) ?_
          have b193 : 0 ≤ (S11.1 26).toInt ∧ (S11.1 26).toInt ≤ 5 := aw_bd_f hs (hI17).1 (by decide) rfl
          rintro _ S192 ⟨eS192, b191, rfl, kb191⟩
          rw [eS192]
          rcases kb191 with ⟨hb191, pb191, qb191⟩ | ⟨hb191, pb191⟩
          · skip
            have pb191 : ((S11.1 26)).toInt = 3 := pb191
            have qb191 : ((S11.1 29)).toInt = (41 : Int) := qb191
            show aw_W _ _ _ _ 41 lv9 [.int b191] _ _
            refine aw_z (tgt := 48) aj_d261 rfl rfl (fun q194 => ?_) (fun q194 => ?_)
            · have q194 : (1 : Int) ≠ (0 : Int) := aw_t_ne (a := (1 : Int)) (b := (0 : Int)) hb191 rfl q194
              refine aw_n aj_d261 rfl rfl ?_
              refine aw_t0 (j := 4) aj_d261 rfl (by decide) rfl ?_
              obtain ⟨lv195, elv195⟩ : ∃ l, l = aj_set1 lv9 4 (.int (Int32.ofInt 0)) := ⟨_, rfl⟩
              rw [← elv195]
              have hlv195_0 : aj_lv lv195 0 = some (.ref 117) := cw_e1 elv195 hlv9_0 (by decide) (Or.inl (by decide))
              have hlv195_1 : aj_lv lv195 1 = some (.int x) := cw_e1 elv195 hlv9_1 (by decide) (Or.inl (by decide))
              have hlv195_3 : aj_lv lv195 3 = some (.int (Int32.ofInt 0)) := cw_e1 elv195 hlv9_3 (by decide) (Or.inr rfl)
              have hlv195_4 : aj_lv lv195 4 = some (.int (Int32.ofInt 0)) := by rw [elv195]; exact ak_set1_eq _ _ _
              show aw_W _ _ _ _ 51 lv195 [] _ _
              refine aw_l0 aj_d261 rfl rfl hlv195_4 ?_
              refine aw_z (tgt := 183) aj_d261 rfl rfl (fun q196 => ?_) (fun q196 => ?_)
              · have q196 : (0 : Int) = (0 : Int) := aw_t_eq (a := (0 : Int)) (b := (0 : Int)) rfl rfl q196
                refine aw_l0 aj_d261 rfl rfl hlv195_3 ?_
                refine aw_z (tgt := 194) aj_d261 rfl rfl (fun q197 => ?_) (fun q197 => ?_)
                · have q197 : (0 : Int) = (0 : Int) := aw_t_eq (a := (0 : Int)) (b := (0 : Int)) rfl rfl q197
                  refine aw_l2 aj_d261 rfl rfl hlv195_0 ?_
                  refine aw_n aj_d261 rfl rfl ?_
                  have b198 : 0 ≤ (S11.1 30).toInt ∧ (S11.1 30).toInt ≤ 1001 := aw_bd_f hs (hI17).1 (by decide) rfl
                  refine aw_k hU.1 aj_d261 rfl rfl [_] rfl rfl rfl (Nat.le_of_ble_eq_true rfl) (aw_toK hU aw_Gs_G (con := ac_c219_41) (by omega) (ar_219_41 hU.2.1 (aw_SPc hU.2.2 aw_Gs_G) aw_kpc (arc_214b hU) (arc_215 hU)) ⟨(hI17).1, hJ11.2⟩ ⟨(aw_g117 hU.2.2), (cw_gw (a := (41 : Int)) rfl (by omega) (by omega)), trivial⟩ (fun e he => nomatch he)) ?_
                  rintro r199 S199 ⟨hr199, hJ199, fc199, po199, -⟩
                  have hT199 := hJ199.1
                  replace fc199 := aw_fr_sub (F' := [24, 25, 26, 27, 28, 29, 30, 31]) (A' := []) (by decide) (by decide) fc199
                  rcases ar_bool hU (hI17).1 hT199 hr199 po199 with ⟨b199, rfl, hb199, cf199⟩ | ⟨b199, rfl, hb199, ck199, gq199⟩
                  · skip
                    have cf199 : (S11.1 30).toInt + 0 ≤ (S199.1 30).toInt := cf199
                    have fr200 := aw_fr_tr fr16 (aw_fr_sub (F := [24, 25, 26, 27, 28, 29, 30, 31]) (A := []) (by decide) (by decide) fc199)
                    have hI201 : aw_I s h (aw_sm S199) S199 := ⟨hT199, aw_sm_rf⟩
                    show aw_W _ _ _ _ 200 lv195 [.int b199] _ _
                    refine aw_e aj_d261 rfl (cw_irb rfl (by omega)) ?_
                    have b202 : 0 ≤ (S199.1 30).toInt ∧ (S199.1 30).toInt ≤ 1001 := aw_bd_f hs (hI201).1 (by decide) rfl
                    exact ⟨(hI201).1, fr200, Or.inl ⟨_, rfl, hb199, hJ199.2, (show _ ≤ ((S199.1 30)).toInt by omega)⟩⟩
                  · skip
                    have ck199 : (S11.1 30).toInt + 1 ≤ (S199.1 30).toInt := ck199
                    have fr203 := aw_fr_tr fr16 (aw_fr_sub (F := [24, 25, 26, 27, 28, 29, 30, 31]) (A := []) (by decide) (by decide) fc199)
                    have hI204 : aw_I s h (aw_sm S199) S199 := ⟨hT199, aw_sm_rf⟩
                    show aw_W _ _ _ _ 200 lv195 [.int b199] _ _
                    refine aw_e aj_d261 rfl (cw_irb rfl (by omega)) ?_
                    have b205 : 0 ≤ (S199.1 30).toInt ∧ (S199.1 30).toInt ≤ 1001 := aw_bd_f hs (hI204).1 (by decide) rfl
                    exact ⟨(hI204).1, fr203, Or.inr ⟨_, rfl, hb199, hJ199.2, (show _ + 1 ≤ ((S199.1 30)).toInt by omega), trivial⟩⟩
                · have q197 : (0 : Int) ≠ (0 : Int) := aw_t_eq (a := (0 : Int)) (b := (0 : Int)) rfl rfl q197
                  exfalso
                  omega
              · have q196 : (0 : Int) ≠ (0 : Int) := aw_t_eq (a := (0 : Int)) (b := (0 : Int)) rfl rfl q196
                exfalso
                omega
            · have q194 : (1 : Int) = (0 : Int) := aw_t_ne (a := (1 : Int)) (b := (0 : Int)) hb191 rfl q194
              exfalso
              omega
          · skip
            clear pb191
            show aw_W _ _ _ _ 41 lv9 [.int b191] _ _
            refine aw_z (tgt := 48) aj_d261 rfl rfl (fun q206 => ?_) (fun q206 => ?_)
            · have q206 : (0 : Int) ≠ (0 : Int) := aw_t_ne (a := (0 : Int)) (b := (0 : Int)) hb191 rfl q206
              exfalso
              omega
            · have q206 : (0 : Int) = (0 : Int) := aw_t_ne (a := (0 : Int)) (b := (0 : Int)) hb191 rfl q206
              refine aw_n aj_d261 rfl rfl ?_
              refine aw_n aj_d261 rfl rfl ?_
              refine aw_t0 (j := 4) aj_d261 rfl (by decide) rfl ?_
              obtain ⟨lv207, elv207⟩ : ∃ l, l = aj_set1 lv9 4 (.int (Int32.ofInt 1)) := ⟨_, rfl⟩
              rw [← elv207]
              have hlv207_0 : aj_lv lv207 0 = some (.ref 117) := cw_e1 elv207 hlv9_0 (by decide) (Or.inl (by decide))
              have hlv207_1 : aj_lv lv207 1 = some (.int x) := cw_e1 elv207 hlv9_1 (by decide) (Or.inl (by decide))
              have hlv207_3 : aj_lv lv207 3 = some (.int (Int32.ofInt 0)) := cw_e1 elv207 hlv9_3 (by decide) (Or.inr rfl)
              have hlv207_4 : aj_lv lv207 4 = some (.int (Int32.ofInt 1)) := by rw [elv207]; exact ak_set1_eq _ _ _
              show aw_W _ _ _ _ 51 lv207 [] _ _
              refine aw_l0 aj_d261 rfl rfl hlv207_4 ?_
              refine aw_z (tgt := 183) aj_d261 rfl rfl (fun q208 => ?_) (fun q208 => ?_)
              · have q208 : (1 : Int) = (0 : Int) := aw_t_eq (a := (1 : Int)) (b := (0 : Int)) rfl rfl q208
                exfalso
                omega
              · have q208 : (1 : Int) ≠ (0 : Int) := aw_t_eq (a := (1 : Int)) (b := (0 : Int)) rfl rfl q208
                have c375 : (S11.1 56).toInt = (0 : Int) := (congrArg Int32.toInt (fc11.1 56 (by decide)).1).trans rfl
                have b376 : 0 ≤ (S11.1 56).toInt ∧ (S11.1 56).toInt ≤ 6 := aw_bd_f hs (hI17).1 (by decide) rfl
                have b377 : 0 ≤ (S11.1 30).toInt ∧ (S11.1 30).toInt ≤ 1001 := aw_bd_f hs (hI17).1 (by decide) rfl
                exact (ar_columns_L56_208 hU hd ) _ S11 lv207 (x) ((Int32.ofInt 0)) hlv207_0 hlv207_1 hlv207_3 ⟨(hI17).1, hJ11.2⟩ fr16 (by omega) (by first | omega | decide) (by rw [show (S11.2.2.1 25) = S.2.2.1 25 from ((fc11.2 25 (by decide)).1.trans rfl), show (S11.2.2.1 15) = S.2.2.1 15 from ((fc11.2 15 (by decide)).1.trans rfl), show ((S11.1 56)).toInt = ((aw_wf S 56 (Int32.ofInt 0)).1 56).toInt from (show ((S11.1 56)).toInt = (0 : Int) by omega)]; exact TK6) (show _ ≤ ((S11.1 30)).toInt by omega) (Nat.lt_succ_self _)
      · have q18 : (1 : Int) = (0 : Int) := aw_t_ne (a := (1 : Int)) (b := (0 : Int)) hb11 rfl q18
        exfalso
        omega
  · have q8 : x7.toInt < (0 : Int) := aw_t_ge (a := x7.toInt) (b := (0 : Int)) rfl rfl q8
    refine aw_n aj_d261 rfl rfl ?_
    refine aw_n aj_d261 rfl rfl ?_
    refine aw_t0 (j := 3) aj_d261 rfl (by decide) rfl ?_
    obtain ⟨lv378, elv378⟩ : ∃ l, l = aj_set1 lv1 3 (.int (Int32.ofInt 1)) := ⟨_, rfl⟩
    rw [← elv378]
    have hlv378_0 : aj_lv lv378 0 = some (.ref 117) := cw_e1 elv378 hlv1_0 (by decide) (Or.inl (by decide))
    have hlv378_1 : aj_lv lv378 1 = some (.int x) := cw_e1 elv378 hlv1_1 (by decide) (Or.inl (by decide))
    have hlv378_2 : aj_lv lv378 2 = some (.int y) := cw_e1 elv378 hlv1_2 (by decide) (Or.inr rfl)
    have hlv378_3 : aj_lv lv378 3 = some (.int (Int32.ofInt 1)) := by rw [elv378]; exact ak_set1_eq _ _ _
    show aw_W _ _ _ _ 20 lv378 [] _ _
    refine aw_l2 aj_d261 rfl rfl hlv378_0 ?_
    refine aw_n aj_d261 rfl rfl ?_
    have b379 : 0 ≤ (S.1 30).toInt ∧ (S.1 30).toInt ≤ 1001 := aw_bd_f hs (hI2).1 (by decide) rfl
    refine aw_k hU.1 aj_d261 rfl rfl [_] rfl rfl rfl (Nat.le_of_ble_eq_true rfl) (aw_toK hU aw_Gs_G (con := ac_c219_40) (by omega) (ar_219_40 hU.2.1 (aw_SPc hU.2.2 aw_Gs_G) aw_kpc (arc_214b hU) (arc_215 hU)) ⟨(hI4).1, (aw_G_sm hI4.2 hG)⟩ ⟨(aw_g117 hU.2.2), (cw_gw (a := (40 : Int)) rfl (by omega) (by omega)), trivial⟩ (fun e he => nomatch he)) ?_
    rintro r380 S380 ⟨hr380, hJ380, fc380, po380, -⟩
    have hT380 := hJ380.1
    replace fc380 := aw_fr_sub (F' := [24, 25, 26, 27, 28, 29, 30, 31]) (A' := []) (by decide) (by decide) fc380
    rcases ar_bool hU (hI4).1 hT380 hr380 po380 with ⟨b380, rfl, hb380, cf380⟩ | ⟨b380, rfl, hb380, ck380, gq380⟩
    · skip
      have cf380 : (S.1 30).toInt + 0 ≤ (S380.1 30).toInt := cf380
      have fr381 := aw_fr_tr fr5 (aw_fr_sub (F := [24, 25, 26, 27, 28, 29, 30, 31]) (A := []) (by decide) (by decide) fc380)
      have hI382 : aw_I s h (aw_sm S380) S380 := ⟨hT380, aw_sm_rf⟩
      show aw_W _ _ _ _ 26 lv378 [.int b380] _ _
      refine aw_z (tgt := 31) aj_d261 rfl rfl (fun q383 => ?_) (fun q383 => ?_)
      · have q383 : (0 : Int) ≠ (0 : Int) := aw_t_ne (a := (0 : Int)) (b := (0 : Int)) hb380 rfl q383
        exfalso
        omega
      · have q383 : (0 : Int) = (0 : Int) := aw_t_ne (a := (0 : Int)) (b := (0 : Int)) hb380 rfl q383
        refine aw_n aj_d261 rfl rfl ?_
        refine aw_e aj_d261 rfl rfl ?_
        have b384 : 0 ≤ (S380.1 30).toInt ∧ (S380.1 30).toInt ≤ 1001 := aw_bd_f hs (hI382).1 (by decide) rfl
        exact ⟨(hI382).1, fr381, Or.inl ⟨_, rfl, rfl, hJ380.2, (show _ ≤ ((S380.1 30)).toInt by omega)⟩⟩
    · skip
      have ck380 : (S.1 30).toInt + 1 ≤ (S380.1 30).toInt := ck380
      have fr385 := aw_fr_tr fr5 (aw_fr_sub (F := [24, 25, 26, 27, 28, 29, 30, 31]) (A := []) (by decide) (by decide) fc380)
      have hI386 : aw_I s h (aw_sm S380) S380 := ⟨hT380, aw_sm_rf⟩
      show aw_W _ _ _ _ 26 lv378 [.int b380] _ _
      refine aw_z (tgt := 31) aj_d261 rfl rfl (fun q387 => ?_) (fun q387 => ?_)
      · have q387 : (1 : Int) ≠ (0 : Int) := aw_t_ne (a := (1 : Int)) (b := (0 : Int)) hb380 rfl q387
        refine aw_l0 aj_d261 rfl rfl hlv378_2 ?_
        refine aw_z (tgt := 44) aj_d261 rfl rfl (fun q388 => ?_) (fun q388 => ?_)
        · have q388 : y.toInt = (0 : Int) := aw_t_eq (a := y.toInt) (b := (0 : Int)) rfl rfl q388
          refine aw_n aj_d261 rfl rfl ?_
          refine aw_n aj_d261 rfl rfl ?_
          refine aw_t0 (j := 4) aj_d261 rfl (by decide) rfl ?_
          obtain ⟨lv389, elv389⟩ : ∃ l, l = aj_set1 lv378 4 (.int (Int32.ofInt 1)) := ⟨_, rfl⟩
          rw [← elv389]
          have hlv389_0 : aj_lv lv389 0 = some (.ref 117) := cw_e1 elv389 hlv378_0 (by decide) (Or.inl (by decide))
          have hlv389_1 : aj_lv lv389 1 = some (.int x) := cw_e1 elv389 hlv378_1 (by decide) (Or.inl (by decide))
          have hlv389_3 : aj_lv lv389 3 = some (.int (Int32.ofInt 1)) := cw_e1 elv389 hlv378_3 (by decide) (Or.inr rfl)
          have hlv389_4 : aj_lv lv389 4 = some (.int (Int32.ofInt 1)) := by rw [elv389]; exact ak_set1_eq _ _ _
          show aw_W _ _ _ _ 51 lv389 [] _ _
          refine aw_l0 aj_d261 rfl rfl hlv389_4 ?_
          refine aw_z (tgt := 183) aj_d261 rfl rfl (fun q390 => ?_) (fun q390 => ?_)
          · have q390 : (1 : Int) = (0 : Int) := aw_t_eq (a := (1 : Int)) (b := (0 : Int)) rfl rfl q390
            exfalso
            omega
          · have q390 : (1 : Int) ≠ (0 : Int) := aw_t_eq (a := (1 : Int)) (b := (0 : Int)) rfl rfl q390
            have c557 : (S380.1 56).toInt = (0 : Int) := (congrArg Int32.toInt (fc380.1 56 (by decide)).1).trans rfl
            have b558 : 0 ≤ (S380.1 56).toInt ∧ (S380.1 56).toInt ≤ 6 := aw_bd_f hs (hI386).1 (by decide) rfl
            have b559 : 0 ≤ (S380.1 30).toInt ∧ (S380.1 30).toInt ≤ 1001 := aw_bd_f hs (hI386).1 (by decide) rfl
            exact (ar_columns_L56_390 hU hd ) _ S380 lv389 (x) ((Int32.ofInt 1)) hlv389_0 hlv389_1 hlv389_3 ⟨(hI386).1, hJ380.2⟩ fr385 (by omega) (by first | omega | decide) (by rw [show (S380.2.2.1 25) = S.2.2.1 25 from ((fc380.2 25 (by decide)).1.trans rfl), show (S380.2.2.1 15) = S.2.2.1 15 from ((fc380.2 15 (by decide)).1.trans rfl), show ((S380.1 56)).toInt = ((aw_wf S 56 (Int32.ofInt 0)).1 56).toInt from (show ((S380.1 56)).toInt = (0 : Int) by omega)]; exact TK6) (show _ ≤ ((S380.1 30)).toInt by omega) (Nat.lt_succ_self _)
        · have q388 : y.toInt ≠ (0 : Int) := aw_t_eq (a := y.toInt) (b := (0 : Int)) rfl rfl q388
          refine aw_l2 aj_d261 rfl rfl hlv378_0 ?_
          refine aw_n aj_d261 rfl rfl ?_
          refine aw_k hU.1 aj_d261 rfl rfl [_] rfl rfl rfl (Nat.le_of_ble_eq_true rfl) (ar_isSign hU (by omega) (b := (41 : Int)) rfl) ?_
          have b562 : 0 ≤ (S380.1 26).toInt ∧ (S380.1 26).toInt ≤ 5 := aw_bd_f hs (hI386).1 (by decide) rfl
          rintro _ S561 ⟨eS561, b560, rfl, kb560⟩
          rw [eS561]
          rcases kb560 with ⟨hb560, pb560, qb560⟩ | ⟨hb560, pb560⟩
          · skip
            have pb560 : ((S380.1 26)).toInt = 3 := pb560
            have qb560 : ((S380.1 29)).toInt = (41 : Int) := qb560
            show aw_W _ _ _ _ 41 lv378 [.int b560] _ _
            refine aw_z (tgt := 48) aj_d261 rfl rfl (fun q563 => ?_) (fun q563 => ?_)
            · have q563 : (1 : Int) ≠ (0 : Int) := aw_t_ne (a := (1 : Int)) (b := (0 : Int)) hb560 rfl q563
              refine aw_n aj_d261 rfl rfl ?_
              refine aw_t0 (j := 4) aj_d261 rfl (by decide) rfl ?_
              obtain ⟨lv564, elv564⟩ : ∃ l, l = aj_set1 lv378 4 (.int (Int32.ofInt 0)) := ⟨_, rfl⟩
              rw [← elv564]
              have hlv564_0 : aj_lv lv564 0 = some (.ref 117) := cw_e1 elv564 hlv378_0 (by decide) (Or.inl (by decide))
              have hlv564_1 : aj_lv lv564 1 = some (.int x) := cw_e1 elv564 hlv378_1 (by decide) (Or.inl (by decide))
              have hlv564_3 : aj_lv lv564 3 = some (.int (Int32.ofInt 1)) := cw_e1 elv564 hlv378_3 (by decide) (Or.inr rfl)
              have hlv564_4 : aj_lv lv564 4 = some (.int (Int32.ofInt 0)) := by rw [elv564]; exact ak_set1_eq _ _ _
              show aw_W _ _ _ _ 51 lv564 [] _ _
              refine aw_l0 aj_d261 rfl rfl hlv564_4 ?_
              refine aw_z (tgt := 183) aj_d261 rfl rfl (fun q565 => ?_) (fun q565 => ?_)
              · have q565 : (0 : Int) = (0 : Int) := aw_t_eq (a := (0 : Int)) (b := (0 : Int)) rfl rfl q565
                refine aw_l0 aj_d261 rfl rfl hlv564_3 ?_
                refine aw_z (tgt := 194) aj_d261 rfl rfl (fun q566 => ?_) (fun q566 => ?_)
                · have q566 : (1 : Int) = (0 : Int) := aw_t_eq (a := (1 : Int)) (b := (0 : Int)) rfl rfl q566
                  exfalso
                  omega
                · have q566 : (1 : Int) ≠ (0 : Int) := aw_t_eq (a := (1 : Int)) (b := (0 : Int)) rfl rfl q566
                  refine aw_l2 aj_d261 rfl rfl hlv564_0 ?_
                  refine aw_g hU.1 aj_d261 rfl rfl (by decide) (v := .ref 132) rfl ?_
                  refine aw_l0 aj_d261 rfl rfl hlv564_1 ?_
                  refine aw_n aj_d261 rfl rfl ?_
                  refine aw_st (k := 15) hU.1 aj_d261 (Or.inl ⟨rfl, rfl⟩) rfl (by decide) (by decide) rfl (a := x.toInt) rfl (by omega) (by omega) ?_
                  have hI567 := aw_I_a (aw_UV hU aw_Gs_sm) (k := 15) (j := (x.toInt).toNat) (v := aj_nar 0 (Int32.ofInt (-1))) hI386 (by decide) (by decide) (by decide) rfl (by decide) (by decide) rfl (aw_bp (a := (-1 : Int)) rfl (by omega) (by omega))
                  have fr568 := aw_fr_a (k := 15) (j := (x.toInt).toNat) (v := aj_nar 0 (Int32.ofInt (-1))) (by decide) fr385
                  refine aw_l2 aj_d261 rfl rfl hlv564_0 ?_
                  refine aw_n aj_d261 rfl rfl ?_
                  have b569 : 0 ≤ (S380.1 30).toInt ∧ (S380.1 30).toInt ≤ 1001 := aw_bd_f hs (hI386).1 (by decide) rfl
                  refine aw_k hU.1 aj_d261 rfl rfl [_] rfl rfl rfl (Nat.le_of_ble_eq_true rfl) (aw_toK hU aw_Gs_G (con := ac_c219_41) (by omega) (ar_219_41 hU.2.1 (aw_SPc hU.2.2 aw_Gs_G) aw_kpc (arc_214b hU) (arc_215 hU)) ⟨(hI567).1, (aw_G_sm hI567.2 hJ380.2)⟩ ⟨(aw_g117 hU.2.2), (cw_gw (a := (41 : Int)) rfl (by omega) (by omega)), trivial⟩ (fun e he => nomatch he)) ?_
                  rintro r570 S570 ⟨hr570, hJ570, fc570, po570, -⟩
                  have hT570 := hJ570.1
                  replace fc570 := aw_fr_sub (F' := [24, 25, 26, 27, 28, 29, 30, 31]) (A' := []) (by decide) (by decide) fc570
                  rcases ar_bool hU (hI567).1 hT570 hr570 po570 with ⟨b570, rfl, hb570, cf570⟩ | ⟨b570, rfl, hb570, ck570, gq570⟩
                  · skip
                    have cf570 : (S380.1 30).toInt + 0 ≤ (S570.1 30).toInt := cf570
                    have fr571 := aw_fr_tr fr568 (aw_fr_sub (F := [24, 25, 26, 27, 28, 29, 30, 31]) (A := []) (by decide) (by decide) fc570)
                    have hI572 : aw_I s h (aw_sm S570) S570 := ⟨hT570, aw_sm_rf⟩
                    show aw_W _ _ _ _ 200 lv564 [.int b570] _ _
                    refine aw_e aj_d261 rfl (cw_irb rfl (by omega)) ?_
                    have b573 : 0 ≤ (S570.1 30).toInt ∧ (S570.1 30).toInt ≤ 1001 := aw_bd_f hs (hI572).1 (by decide) rfl
                    exact ⟨(hI572).1, fr571, Or.inl ⟨_, rfl, hb570, hJ570.2, (show _ ≤ ((S570.1 30)).toInt by omega)⟩⟩
                  · skip
                    have ck570 : (S380.1 30).toInt + 1 ≤ (S570.1 30).toInt := ck570
                    have fr574 := aw_fr_tr fr568 (aw_fr_sub (F := [24, 25, 26, 27, 28, 29, 30, 31]) (A := []) (by decide) (by decide) fc570)
                    have hI575 : aw_I s h (aw_sm S570) S570 := ⟨hT570, aw_sm_rf⟩
                    show aw_W _ _ _ _ 200 lv564 [.int b570] _ _
                    refine aw_e aj_d261 rfl (cw_irb rfl (by omega)) ?_
                    have b576 : 0 ≤ (S570.1 30).toInt ∧ (S570.1 30).toInt ≤ 1001 := aw_bd_f hs (hI575).1 (by decide) rfl
                    exact ⟨(hI575).1, fr574, Or.inr ⟨_, rfl, hb570, hJ570.2, (show _ + 1 ≤ ((S570.1 30)).toInt by omega), trivial⟩⟩
              · have q565 : (0 : Int) ≠ (0 : Int) := aw_t_eq (a := (0 : Int)) (b := (0 : Int)) rfl rfl q565
                exfalso
                omega
            · have q563 : (1 : Int) = (0 : Int) := aw_t_ne (a := (1 : Int)) (b := (0 : Int)) hb560 rfl q563
              exfalso
              omega
          · skip
            clear pb560
            show aw_W _ _ _ _ 41 lv378 [.int b560] _ _
            refine aw_z (tgt := 48) aj_d261 rfl rfl (fun q577 => ?_) (fun q577 => ?_)
            · have q577 : (0 : Int) ≠ (0 : Int) := aw_t_ne (a := (0 : Int)) (b := (0 : Int)) hb560 rfl q577
              exfalso
              omega
            · have q577 : (0 : Int) = (0 : Int) := aw_t_ne (a := (0 : Int)) (b := (0 : Int)) hb560 rfl q577
              refine aw_n aj_d261 rfl rfl ?_
              refine aw_n aj_d261 rfl rfl ?_
              refine aw_t0 (j := 4) aj_d261 rfl (by decide) rfl ?_
              obtain ⟨lv578, elv578⟩ : ∃ l, l = aj_set1 lv378 4 (.int (Int32.ofInt 1)) := ⟨_, rfl⟩
              rw [← elv578]
              have hlv578_0 : aj_lv lv578 0 = some (.ref 117) := cw_e1 elv578 hlv378_0 (by decide) (Or.inl (by decide))
              have hlv578_1 : aj_lv lv578 1 = some (.int x) := cw_e1 elv578 hlv378_1 (by decide) (Or.inl (by decide))
              have hlv578_3 : aj_lv lv578 3 = some (.int (Int32.ofInt 1)) := cw_e1 elv578 hlv378_3 (by decide) (Or.inr rfl)
              have hlv578_4 : aj_lv lv578 4 = some (.int (Int32.ofInt 1)) := by rw [elv578]; exact ak_set1_eq _ _ _
              show aw_W _ _ _ _ 51 lv578 [] _ _
              refine aw_l0 aj_d261 rfl rfl hlv578_4 ?_
              refine aw_z (tgt := 183) aj_d261 rfl rfl (fun q579 => ?_) (fun q579 => ?_)
              · have q579 : (1 : Int) = (0 : Int) := aw_t_eq (a := (1 : Int)) (b := (0 : Int)) rfl rfl q579
                exfalso
                omega
              · have q579 : (1 : Int) ≠ (0 : Int) := aw_t_eq (a := (1 : Int)) (b := (0 : Int)) rfl rfl q579
                have c746 : (S380.1 56).toInt = (0 : Int) := (congrArg Int32.toInt (fc380.1 56 (by decide)).1).trans rfl
                have b747 : 0 ≤ (S380.1 56).toInt ∧ (S380.1 56).toInt ≤ 6 := aw_bd_f hs (hI386).1 (by decide) rfl
                have b748 : 0 ≤ (S380.1 30).toInt ∧ (S380.1 30).toInt ≤ 1001 := aw_bd_f hs (hI386).1 (by decide) rfl
                exact (ar_columns_L56_579 hU hd ) _ S380 lv578 (x) ((Int32.ofInt 1)) hlv578_0 hlv578_1 hlv578_3 ⟨(hI386).1, hJ380.2⟩ fr385 (by omega) (by first | omega | decide) (by rw [show (S380.2.2.1 25) = S.2.2.1 25 from ((fc380.2 25 (by decide)).1.trans rfl), show (S380.2.2.1 15) = S.2.2.1 15 from ((fc380.2 15 (by decide)).1.trans rfl), show ((S380.1 56)).toInt = ((aw_wf S 56 (Int32.ofInt 0)).1 56).toInt from (show ((S380.1 56)).toInt = (0 : Int) by omega)]; exact TK6) (show _ ≤ ((S380.1 30)).toInt by omega) (Nat.lt_succ_self _)
      · have q387 : (1 : Int) = (0 : Int) := aw_t_ne (a := (1 : Int)) (b := (0 : Int)) hb380 rfl q387
        exfalso
        omega
theorem arc_261 (hU : aw_U tb s h) : ak_CT ak_TR (aw_SP s h (aw_G g)) aw_kap tb 6 ac_c261 := by
  refine ar_ofB (F := [24, 25, 26, 27, 28, 29, 30, 31, 33, 34, 56]) (A := [15, 25]) hU aw_Gs_G rfl ⟨rfl, rfl, rfl, (by decide), rfl, rfl, rfl⟩ ⟨by decide, by decide⟩ (fun d hd S as hI hA hQ => ?_)
  obtain ⟨v0, as, rfl, g0, hA⟩ := cw_gAc hA
  obtain ⟨v1, as, rfl, g1, hA⟩ := cw_gAc hA
  obtain ⟨v2, as, rfl, g2, hA⟩ := cw_gAc hA
  cases cw_gAn hA
  obtain rfl := aw_117 hU.2.2 g0
  obtain ⟨x1, rfl, b1⟩ := ak_gi g1
  dsimp only [ak_win] at b1
  obtain ⟨x2, rfl, b2⟩ := ak_gi g2
  dsimp only [ak_win] at b2
  refine aw_mono ?_ (ar_columns hU hI.1 hI.2 hd b1 b2)
  rintro r S' ⟨k1, k2, ⟨b, rfl, hb, p1, p2⟩ | ⟨b, rfl, hb, p1, p2, p3⟩⟩
  · exact ⟨k1, k2, Or.inl ⟨b, rfl, hb, p1, p2⟩⟩
  · exact ⟨k1, k2, Or.inr ⟨b, rfl, hb, p1, p2⟩⟩
end ARA9
