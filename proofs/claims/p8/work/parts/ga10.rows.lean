/-! ROWS THAT COME, UNIONS, COLUMNS TAKEN (printed by wip/p2/ref/r10.py) -/
section ARA10
variable {tb : aj_T} {s : List Nat} {h : aj_H} {S S' S1 S2 : aj_S} {d n : Nat} {g g' : aw_gh} {F A : List Nat} {G : aj_S → Prop} {nm : Int64 → Prop} {fl : Bool} {la ho hu ht q : Nat} {f : Nat → Int32} {m : Int}
theorem ar_comes_L168_54 (hU : aw_U tb s h) (hd : 3 ≤ d + 1) (N5 : Nat) (S7 : aj_S) (x9 : Int32) (x10 : Int32) (x11 : Int32) (x12 : Int32) (ihL5_5 : ∀ (S7 : aj_S) (lv8 : aj_V) (x9 : Int32) (x10 : Int32) (x11 : Int32) (x12 : Int32), (aj_lv lv8 0 = some (.ref 117)) → (aj_lv lv8 1 = some (.int x9)) → (aj_lv lv8 2 = some (.int x10)) → (aj_lv lv8 3 = some (.int x11)) → (aj_lv lv8 4 = some (.int x12)) → (aw_I s h (aw_G g) S7) → (aw_fr [] [14, 17, 18, 19] S S7) → (1 ≤ x9.toInt ∧ x9.toInt ≤ 7) → (0 ≤ x10.toInt ∧ x10.toInt ≤ 1023) → (0 ≤ x11.toInt ∧ x11.toInt ≤ 30) → ((-1) ≤ x12.toInt ∧ x12.toInt ≤ 1) → ((S.1 30).toInt + 0 ≤ (S7.1 30).toInt) → (x11.toInt ≤ (S7.2.2.1 14 49).toInt) → (x12.toInt < 0) → (30 - x11.toInt).toNat < N5 → aw_W tb h d aj_m271 5 lv8 [] S7 ((ar_QB s h [] [14, 17, 18, 19] S (fun S' => aw_G g S' ∧ (S.1 30).toInt ≤ (S'.1 30).toInt) (fun S' => aw_G g S' ∧ (S.1 30).toInt + 0 ≤ (S'.1 30).toInt)))) (hm5 : (30 - x11.toInt).toNat < N5 + 1) (N79 : Nat) (S26 : aj_S) (x28 : Int32) (x29 : Int32) (x30 : Int32) (x31 : Int32) (ihL79_24 : ∀ (S26 : aj_S) (lv27 : aj_V) (x28 : Int32) (x29 : Int32) (x30 : Int32) (x31 : Int32), (aj_lv lv27 0 = some (.ref 117)) → (aj_lv lv27 1 = some (.int x28)) → (aj_lv lv27 2 = some (.int x29)) → (aj_lv lv27 3 = some (.int x30)) → (aj_lv lv27 5 = some (.int x31)) → (aw_I s h (aw_G g) S26) → (aw_fr [] [14, 17, 18, 19] S S26) → (1 ≤ x28.toInt ∧ x28.toInt ≤ 7) → (0 ≤ x29.toInt ∧ x29.toInt ≤ 1023) → (0 ≤ x30.toInt ∧ x30.toInt ≤ 30) → (0 ≤ x31.toInt ∧ x31.toInt ≤ 29) → ((S.1 30).toInt + 0 ≤ (S26.1 30).toInt) → (x30.toInt ≤ x31.toInt) → ((S26.2.2.1 14 49).toInt ≤ 29) → (x31.toInt).toNat < N79 → aw_W tb h d aj_m271 79 lv27 [] S26 ((ar_QB s h [] [14, 17, 18, 19] S (fun S' => aw_G g S' ∧ (S.1 30).toInt ≤ (S'.1 30).toInt) (fun S' => aw_G g S' ∧ (S.1 30).toInt + 0 ≤ (S'.1 30).toInt)))) (hm79 : (x31.toInt).toNat < N79 + 1) (N119 : Nat) (S43 : aj_S) (x45 : Int32) (x46 : Int32) (x47 : Int32) (x48 : Int32) (ihL119_41 : ∀ (S43 : aj_S) (lv44 : aj_V) (x45 : Int32) (x46 : Int32) (x47 : Int32) (x48 : Int32), (aj_lv lv44 0 = some (.ref 117)) → (aj_lv lv44 1 = some (.int x45)) → (aj_lv lv44 2 = some (.int x46)) → (aj_lv lv44 3 = some (.int x47)) → (aj_lv lv44 5 = some (.int x48)) → (aw_I s h (aw_G g) S43) → (aw_fr [] [14, 17, 18, 19] S S43) → (1 ≤ x45.toInt ∧ x45.toInt ≤ 7) → (0 ≤ x46.toInt ∧ x46.toInt ≤ 1023) → (0 ≤ x47.toInt ∧ x47.toInt ≤ 29) → (0 ≤ x48.toInt ∧ x48.toInt ≤ 7) → ((S.1 30).toInt + 0 ≤ (S43.1 30).toInt) → (7 - x48.toInt).toNat < N119 → aw_W tb h d aj_m271 119 lv44 [] S43 ((ar_QB s h [] [14, 17, 18, 19] S (fun S' => aw_G g S' ∧ (S.1 30).toInt ≤ (S'.1 30).toInt) (fun S' => aw_G g S' ∧ (S.1 30).toInt + 0 ≤ (S'.1 30).toInt)))) (hm119 : (7 - x48.toInt).toNat < N119 + 1) : ∀ (N : Nat) (S56 : aj_S) (lv57 : aj_V) (x58 : Int32) (x59 : Int32) (x60 : Int32), (aj_lv lv57 0 = some (.ref 117)) → (aj_lv lv57 2 = some (.int x58)) → (aj_lv lv57 3 = some (.int x59)) → (aj_lv lv57 5 = some (.int x60)) → (aw_I s h (aw_G g) S56) → (aw_fr [] [14, 17, 18, 19] S S56) → (0 ≤ x58.toInt ∧ x58.toInt ≤ 1023) → (0 ≤ x59.toInt ∧ x59.toInt ≤ 29) → (0 ≤ x60.toInt ∧ x60.toInt ≤ 32) → ((S.1 30).toInt + 0 ≤ (S56.1 30).toInt) → (32 - x60.toInt).toNat < N → aw_W tb h d aj_m271 168 lv57 [] S56 ((ar_QB s h [] [14, 17, 18, 19] S (fun S' => aw_G g S' ∧ (S.1 30).toInt ≤ (S'.1 30).toInt) (fun S' => aw_G g S' ∧ (S.1 30).toInt + 0 ≤ (S'.1 30).toInt))) := by
  have hs : aw_sT s := aw_hy_sT hU.2.2
  intro N168
  induction N168 with
  | zero =>
    intro S56 lv57 x58 x59 x60 hlv57_0 hlv57_2 hlv57_3 hlv57_5 hI61 fr62 bx58 bx59 bx60 ck168 hm168
    omega
  | succ N168 ihL168_54 =>
    intro S56 lv57 x58 x59 x60 hlv57_0 hlv57_2 hlv57_3 hlv57_5 hI61 fr62 bx58 bx59 bx60 ck168 hm168
    have hI63 : aw_I s h (aw_sm S56) S56 := ⟨hI61.1, aw_sm_rf⟩
    have b64 : 0 ≤ (S56.1 30).toInt ∧ (S56.1 30).toInt ≤ 1001 := aw_bd_f hs (hI63).1 (by decide) rfl
    refine aw_l0 aj_d271 rfl rfl hlv57_5 ?_
    refine aw_n aj_d271 rfl rfl ?_
    refine aw_c (tgt := 197) aj_d271 rfl rfl (fun q65 => ?_) (fun q65 => ?_)
    · have q65 : x60.toInt ≥ (32 : Int) := aw_t_ge (a := x60.toInt) (b := (32 : Int)) rfl rfl q65
      refine aw_l2 aj_d271 rfl rfl hlv57_0 ?_
      refine aw_g hU.1 aj_d271 rfl rfl (by decide) (v := .ref 136) rfl ?_
      refine aw_l2 aj_d271 rfl rfl hlv57_0 ?_
      refine aw_n aj_d271 rfl rfl ?_
      refine aw_l0 aj_d271 rfl rfl hlv57_3 ?_
      refine aw_k hU.1 aj_d271 rfl rfl [_, _] rfl rfl rfl (Nat.le_of_ble_eq_true rfl) (ar_at (by omega) (a := (49 : Int)) (b := x59.toInt) rfl rfl (by omega) (by omega)) ?_
      rintro _ zx66 ⟨fx66, x66, rfl, ex66⟩
      rw [fx66]
      show aw_W _ _ _ _ 208 lv57 [.int x66, .ref 136] _ _
      refine aw_l0 aj_d271 rfl rfl hlv57_2 ?_
      refine aw_n aj_d271 rfl rfl ?_
      refine aw_ks aj_d271 rfl rfl rfl [_, _, _, _] rfl rfl (Nat.le_of_ble_eq_true rfl) (ar_put hU (hI63).1 (by omega) (k := 19) (n := 48000) (by decide) (by decide) rfl rfl (a := (((49 : Int) * 30 + x59.toInt) * 32)) (b := x58.toInt) ex66 rfl (by omega) (by omega) (by omega) (by decide)) ?_
      rintro _ S67 ⟨hT67, fc67, rfl, pe67⟩
      have fr68 := aw_fr_tr fr62 (aw_fr_sub (F := []) (A := [19]) (by decide) (by decide) fc67)
      have hI69 : aw_I s h (aw_sm S56) S67 := ⟨hT67, aw_sm_tr hI63.2 (aw_fr_sm (by decide) (by decide) (by decide) (F := []) (A := [19]) fc67)⟩
      show aw_W _ _ _ _ 213 lv57 [] _ _
      refine aw_n aj_d271 rfl rfl ?_
      refine aw_e aj_d271 rfl rfl ?_
      have c70 : (S67.1 30).toInt = (S56.1 30).toInt := (congrArg Int32.toInt (fc67.1 30 (by decide)).1).trans rfl
      have b71 : 0 ≤ (S67.1 30).toInt ∧ (S67.1 30).toInt ≤ 1001 := aw_bd_f hs (hI69).1 (by decide) rfl
      exact ⟨(hI69).1, fr68, Or.inr ⟨_, rfl, rfl, (aw_G_sm hI69.2 hI61.2), (show _ + 0 ≤ ((S67.1 30)).toInt by omega)⟩⟩
    · have q65 : x60.toInt < (32 : Int) := aw_t_ge (a := x60.toInt) (b := (32 : Int)) rfl rfl q65
      refine aw_l2 aj_d271 rfl rfl hlv57_0 ?_
      refine aw_g hU.1 aj_d271 rfl rfl (by decide) (v := .ref 136) rfl ?_
      refine aw_l2 aj_d271 rfl rfl hlv57_0 ?_
      refine aw_n aj_d271 rfl rfl ?_
      refine aw_l0 aj_d271 rfl rfl hlv57_3 ?_
      refine aw_k hU.1 aj_d271 rfl rfl [_, _] rfl rfl rfl (Nat.le_of_ble_eq_true rfl) (ar_at (by omega) (a := (49 : Int)) (b := x59.toInt) rfl rfl (by omega) (by omega)) ?_
      rintro _ zx72 ⟨fx72, x72, rfl, ex72⟩
      rw [fx72]
      show aw_W _ _ _ _ 186 lv57 [.int x72, .ref 136] _ _
      refine aw_l0 aj_d271 rfl rfl hlv57_5 ?_
      refine aw_add aj_d271 rfl (a := (((49 : Int) * 30 + x59.toInt) * 32)) (b := x60.toInt) ex72 rfl (by omega) (by omega) (fun x73 ex73 => ?_)
      refine aw_n aj_d271 rfl rfl ?_
      refine aw_st (k := 19) hU.1 aj_d271 (Or.inl ⟨rfl, rfl⟩) rfl (by decide) (by decide) rfl (a := x73.toInt) rfl (by omega) (by omega) ?_
      have hI74 := aw_I_a (aw_UV hU aw_Gs_sm) (k := 19) (j := (x73.toInt).toNat) (v := aj_nar 0 (Int32.ofInt 0)) hI63 (by decide) (by decide) (by decide) rfl (by decide) (by decide) rfl (aw_full _)
      have fr75 := aw_fr_a (k := 19) (j := (x73.toInt).toNat) (v := aj_nar 0 (Int32.ofInt 0)) (by decide) fr62
      refine aw_inc aj_d271 rfl hlv57_5 (a := x60.toInt) rfl (by omega) (by omega) (by decide) (by decide) (fun x76 ex76 => ?_)
      obtain ⟨lv77, elv77⟩ : ∃ l, l = aj_set1 lv57 5 (.int x76) := ⟨_, rfl⟩
      rw [← elv77]
      have hlv77_0 : aj_lv lv77 0 = some (.ref 117) := cw_e1 elv77 hlv57_0 (by decide) (Or.inl (by decide))
      have hlv77_2 : aj_lv lv77 2 = some (.int x58) := cw_e1 elv77 hlv57_2 (by decide) (Or.inl (by decide))
      have hlv77_3 : aj_lv lv77 3 = some (.int x59) := cw_e1 elv77 hlv57_3 (by decide) (Or.inl (by decide))
      have hlv77_5 : aj_lv lv77 5 = some (.int x76) := by rw [elv77]; exact ak_set1_eq _ _ _
      show aw_W _ _ _ _ 194 lv77 [] _ _
      refine aw_n aj_d271 rfl rfl ?_
      exact ihL168_54 (aw_wa S56 19 (x73.toInt).toNat (aj_nar 0 (Int32.ofInt 0))) lv77 (x58) (x59) (x76) hlv77_0 hlv77_2 hlv77_3 hlv77_5 ⟨(hI74).1, (aw_G_sm hI74.2 hI61.2)⟩ fr75 (by omega) (by omega) (by omega) (show _ ≤ ((S56.1 30)).toInt by omega) (by omega)
theorem ar_comes_L119_41 (hU : aw_U tb s h) (hd : 3 ≤ d + 1) (N5 : Nat) (S7 : aj_S) (x9 : Int32) (x10 : Int32) (x11 : Int32) (x12 : Int32) (ihL5_5 : ∀ (S7 : aj_S) (lv8 : aj_V) (x9 : Int32) (x10 : Int32) (x11 : Int32) (x12 : Int32), (aj_lv lv8 0 = some (.ref 117)) → (aj_lv lv8 1 = some (.int x9)) → (aj_lv lv8 2 = some (.int x10)) → (aj_lv lv8 3 = some (.int x11)) → (aj_lv lv8 4 = some (.int x12)) → (aw_I s h (aw_G g) S7) → (aw_fr [] [14, 17, 18, 19] S S7) → (1 ≤ x9.toInt ∧ x9.toInt ≤ 7) → (0 ≤ x10.toInt ∧ x10.toInt ≤ 1023) → (0 ≤ x11.toInt ∧ x11.toInt ≤ 30) → ((-1) ≤ x12.toInt ∧ x12.toInt ≤ 1) → ((S.1 30).toInt + 0 ≤ (S7.1 30).toInt) → (x11.toInt ≤ (S7.2.2.1 14 49).toInt) → (x12.toInt < 0) → (30 - x11.toInt).toNat < N5 → aw_W tb h d aj_m271 5 lv8 [] S7 ((ar_QB s h [] [14, 17, 18, 19] S (fun S' => aw_G g S' ∧ (S.1 30).toInt ≤ (S'.1 30).toInt) (fun S' => aw_G g S' ∧ (S.1 30).toInt + 0 ≤ (S'.1 30).toInt)))) (hm5 : (30 - x11.toInt).toNat < N5 + 1) (N79 : Nat) (S26 : aj_S) (x28 : Int32) (x29 : Int32) (x30 : Int32) (x31 : Int32) (ihL79_24 : ∀ (S26 : aj_S) (lv27 : aj_V) (x28 : Int32) (x29 : Int32) (x30 : Int32) (x31 : Int32), (aj_lv lv27 0 = some (.ref 117)) → (aj_lv lv27 1 = some (.int x28)) → (aj_lv lv27 2 = some (.int x29)) → (aj_lv lv27 3 = some (.int x30)) → (aj_lv lv27 5 = some (.int x31)) → (aw_I s h (aw_G g) S26) → (aw_fr [] [14, 17, 18, 19] S S26) → (1 ≤ x28.toInt ∧ x28.toInt ≤ 7) → (0 ≤ x29.toInt ∧ x29.toInt ≤ 1023) → (0 ≤ x30.toInt ∧ x30.toInt ≤ 30) → (0 ≤ x31.toInt ∧ x31.toInt ≤ 29) → ((S.1 30).toInt + 0 ≤ (S26.1 30).toInt) → (x30.toInt ≤ x31.toInt) → ((S26.2.2.1 14 49).toInt ≤ 29) → (x31.toInt).toNat < N79 → aw_W tb h d aj_m271 79 lv27 [] S26 ((ar_QB s h [] [14, 17, 18, 19] S (fun S' => aw_G g S' ∧ (S.1 30).toInt ≤ (S'.1 30).toInt) (fun S' => aw_G g S' ∧ (S.1 30).toInt + 0 ≤ (S'.1 30).toInt)))) (hm79 : (x31.toInt).toNat < N79 + 1) : ∀ (N : Nat) (S43 : aj_S) (lv44 : aj_V) (x45 : Int32) (x46 : Int32) (x47 : Int32) (x48 : Int32), (aj_lv lv44 0 = some (.ref 117)) → (aj_lv lv44 1 = some (.int x45)) → (aj_lv lv44 2 = some (.int x46)) → (aj_lv lv44 3 = some (.int x47)) → (aj_lv lv44 5 = some (.int x48)) → (aw_I s h (aw_G g) S43) → (aw_fr [] [14, 17, 18, 19] S S43) → (1 ≤ x45.toInt ∧ x45.toInt ≤ 7) → (0 ≤ x46.toInt ∧ x46.toInt ≤ 1023) → (0 ≤ x47.toInt ∧ x47.toInt ≤ 29) → (0 ≤ x48.toInt ∧ x48.toInt ≤ 7) → ((S.1 30).toInt + 0 ≤ (S43.1 30).toInt) → (7 - x48.toInt).toNat < N → aw_W tb h d aj_m271 119 lv44 [] S43 ((ar_QB s h [] [14, 17, 18, 19] S (fun S' => aw_G g S' ∧ (S.1 30).toInt ≤ (S'.1 30).toInt) (fun S' => aw_G g S' ∧ (S.1 30).toInt + 0 ≤ (S'.1 30).toInt))) := by
  have hs : aw_sT s := aw_hy_sT hU.2.2
  intro N119
  induction N119 with
  | zero =>
    intro S43 lv44 x45 x46 x47 x48 hlv44_0 hlv44_1 hlv44_2 hlv44_3 hlv44_5 hI49 fr50 bx45 bx46 bx47 bx48 ck119 hm119
    omega
  | succ N119 ihL119_41 =>
    intro S43 lv44 x45 x46 x47 x48 hlv44_0 hlv44_1 hlv44_2 hlv44_3 hlv44_5 hI49 fr50 bx45 bx46 bx47 bx48 ck119 hm119
    have hI51 : aw_I s h (aw_sm S43) S43 := ⟨hI49.1, aw_sm_rf⟩
    have b52 : 0 ≤ (S43.1 30).toInt ∧ (S43.1 30).toInt ≤ 1001 := aw_bd_f hs (hI51).1 (by decide) rfl
    refine aw_l0 aj_d271 rfl rfl hlv44_5 ?_
    refine aw_l0 aj_d271 rfl rfl hlv44_1 ?_
    refine aw_c (tgt := 165) aj_d271 rfl rfl (fun q53 => ?_) (fun q53 => ?_)
    · have q53 : x48.toInt ≥ x45.toInt := aw_t_ge (a := x48.toInt) (b := x45.toInt) rfl rfl q53
      refine aw_n aj_d271 rfl rfl ?_
      refine aw_t0 (j := 5) aj_d271 rfl (by decide) rfl ?_
      obtain ⟨lv54, elv54⟩ : ∃ l, l = aj_set1 lv44 5 (.int (Int32.ofInt 0)) := ⟨_, rfl⟩
      rw [← elv54]
      have hlv54_0 : aj_lv lv54 0 = some (.ref 117) := cw_e1 elv54 hlv44_0 (by decide) (Or.inl (by decide))
      have hlv54_2 : aj_lv lv54 2 = some (.int x46) := cw_e1 elv54 hlv44_2 (by decide) (Or.inl (by decide))
      have hlv54_3 : aj_lv lv54 3 = some (.int x47) := cw_e1 elv54 hlv44_3 (by decide) (Or.inl (by decide))
      have hlv54_5 : aj_lv lv54 5 = some (.int (Int32.ofInt 0)) := by rw [elv54]; exact ak_set1_eq _ _ _
      show aw_W _ _ _ _ 168 lv54 [] _ _
      exact (ar_comes_L168_54 hU hd N5 S7 x9 x10 x11 x12 ihL5_5 hm5 N79 S26 x28 x29 x30 x31 ihL79_24 hm79 N119 S43 x45 x46 x47 x48 ihL119_41 hm119) _ S43 lv54 (x46) (x47) ((Int32.ofInt 0)) hlv54_0 hlv54_2 hlv54_3 hlv54_5 ⟨(hI51).1, hI49.2⟩ fr50 (by omega) (by omega) (by first | omega | decide) (show _ ≤ ((S43.1 30)).toInt by omega) (Nat.lt_succ_self _)
    · have q53 : x48.toInt < x45.toInt := aw_t_ge (a := x48.toInt) (b := x45.toInt) rfl rfl q53
      refine aw_l2 aj_d271 rfl rfl hlv44_0 ?_
      refine aw_g hU.1 aj_d271 rfl rfl (by decide) (v := .ref 134) rfl ?_
      refine aw_n aj_d271 rfl rfl ?_
      refine aw_l0 aj_d271 rfl rfl hlv44_3 ?_
      refine aw_l0 aj_d271 rfl rfl hlv44_5 ?_
      refine aw_ks aj_d271 rfl rfl rfl [_, _, _] rfl rfl (Nat.le_of_ble_eq_true rfl) (ar_cellAt (by omega) (a := (49 : Int)) (b := x47.toInt) (c := x48.toInt) rfl rfl rfl (by omega) (by omega) (by omega)) ?_
      rintro _ zx78 ⟨fx78, x78, rfl, ex78⟩
      rw [fx78]
      show aw_W _ _ _ _ 137 lv44 [.int x78, .ref 134] _ _
      refine aw_n aj_d271 rfl rfl ?_
      refine aw_st (k := 17) hU.1 aj_d271 (Or.inr (Or.inr (Or.inr ⟨rfl, rfl⟩))) rfl (by decide) (by decide) rfl (a := (((49 : Int) * 30 + x47.toInt) * 8 + x48.toInt)) ex78 (by omega) (by omega) ?_
      have hI79 : aw_I s h (aw_sm (aw_wa S43 17 ((((49 : Int) * 30 + x47.toInt) * 8 + x48.toInt)).toNat (aj_nar 4 (Int32.ofInt 0)))) (aw_wa S43 17 ((((49 : Int) * 30 + x47.toInt) * 8 + x48.toInt)).toNat (aj_nar 4 (Int32.ofInt 0))) := ⟨aw_T_a hU.2.1 hs hU.1.1 (hI51).1 (by decide) (by decide) rfl (by decide) (by decide) rfl (aw_nar4 (aw_bp (a := (0 : Int)) rfl (by omega) (by omega)) (by decide) (by decide)), aw_sm_rf⟩
      have fr80 := aw_fr_a (k := 17) (j := ((((49 : Int) * 30 + x47.toInt) * 8 + x48.toInt)).toNat) (v := aj_nar 4 (Int32.ofInt 0)) (by decide) fr50
      refine aw_l2 aj_d271 rfl rfl hlv44_0 ?_
      refine aw_g hU.1 aj_d271 rfl rfl (by decide) (v := .ref 135) rfl ?_
      refine aw_n aj_d271 rfl rfl ?_
      refine aw_l0 aj_d271 rfl rfl hlv44_3 ?_
      refine aw_l0 aj_d271 rfl rfl hlv44_5 ?_
      refine aw_ks aj_d271 rfl rfl rfl [_, _, _] rfl rfl (Nat.le_of_ble_eq_true rfl) (ar_cellAt (by omega) (a := (49 : Int)) (b := x47.toInt) (c := x48.toInt) rfl rfl rfl (by omega) (by omega) (by omega)) ?_
      rintro _ zx81 ⟨fx81, x81, rfl, ex81⟩
      rw [fx81]
      show aw_W _ _ _ _ 151 lv44 [.int x81, .ref 135] _ _
      refine aw_l2 aj_d271 rfl rfl hlv44_0 ?_
      refine aw_g hU.1 aj_d271 rfl rfl (by decide) (v := .ref 144) rfl ?_
      refine aw_l0 aj_d271 rfl rfl hlv44_5 ?_
      refine aw_ld (k := 27) hU.1 aj_d271 (Or.inl ⟨rfl, rfl⟩) rfl (by decide) (by decide) rfl (a := x48.toInt) rfl (by omega) (by omega) (fun x82 ex82 => ?_)
      refine aw_st (k := 18) hU.1 aj_d271 (Or.inl ⟨rfl, rfl⟩) rfl (by decide) (by decide) rfl (a := (((49 : Int) * 30 + x47.toInt) * 8 + x48.toInt)) ex81 (by omega) (by omega) ?_
      have hI83 : aw_I s h (aw_sm (aw_wa (aw_wa S43 17 ((((49 : Int) * 30 + x47.toInt) * 8 + x48.toInt)).toNat (aj_nar 4 (Int32.ofInt 0))) 18 ((((49 : Int) * 30 + x47.toInt) * 8 + x48.toInt)).toNat (aj_nar 0 x82))) (aw_wa (aw_wa S43 17 ((((49 : Int) * 30 + x47.toInt) * 8 + x48.toInt)).toNat (aj_nar 4 (Int32.ofInt 0))) 18 ((((49 : Int) * 30 + x47.toInt) * 8 + x48.toInt)).toNat (aj_nar 0 x82)) := ⟨aw_T_a hU.2.1 hs hU.1.1 (hI79).1 (by decide) (by decide) rfl (by decide) (by decide) rfl (aw_full _), aw_sm_rf⟩
      have fr84 := aw_fr_a (k := 18) (j := ((((49 : Int) * 30 + x47.toInt) * 8 + x48.toInt)).toNat) (v := aj_nar 0 x82) (by decide) fr80
      have hG85 := aw_G_sk (S' := (aw_wa (aw_wa S43 17 ((((49 : Int) * 30 + x47.toInt) * 8 + x48.toInt)).toNat (aj_nar 4 (Int32.ofInt 0))) 18 ((((49 : Int) * 30 + x47.toInt) * 8 + x48.toInt)).toNat (aj_nar 0 x82))) hI49.2 (aw_sk_2 aw_sk_rf) (aw_kv_2 (aw_G_B hI49.2).1 (by first | rfl | (congr 1) | omega) (fun z => absurd z (by decide)))
      have hI86 : aw_I s h (aw_sm (aw_wa (aw_wa S43 17 ((((49 : Int) * 30 + x47.toInt) * 8 + x48.toInt)).toNat (aj_nar 4 (Int32.ofInt 0))) 18 ((((49 : Int) * 30 + x47.toInt) * 8 + x48.toInt)).toNat (aj_nar 0 x82))) (aw_wa (aw_wa S43 17 ((((49 : Int) * 30 + x47.toInt) * 8 + x48.toInt)).toNat (aj_nar 4 (Int32.ofInt 0))) 18 ((((49 : Int) * 30 + x47.toInt) * 8 + x48.toInt)).toNat (aj_nar 0 x82)) := ⟨(hI83).1, aw_sm_rf⟩
      refine aw_inc aj_d271 rfl hlv44_5 (a := x48.toInt) rfl (by omega) (by omega) (by decide) (by decide) (fun x87 ex87 => ?_)
      obtain ⟨lv88, elv88⟩ : ∃ l, l = aj_set1 lv44 5 (.int x87) := ⟨_, rfl⟩
      rw [← elv88]
      have hlv88_0 : aj_lv lv88 0 = some (.ref 117) := cw_e1 elv88 hlv44_0 (by decide) (Or.inl (by decide))
      have hlv88_1 : aj_lv lv88 1 = some (.int x45) := cw_e1 elv88 hlv44_1 (by decide) (Or.inl (by decide))
      have hlv88_2 : aj_lv lv88 2 = some (.int x46) := cw_e1 elv88 hlv44_2 (by decide) (Or.inl (by decide))
      have hlv88_3 : aj_lv lv88 3 = some (.int x47) := cw_e1 elv88 hlv44_3 (by decide) (Or.inl (by decide))
      have hlv88_5 : aj_lv lv88 5 = some (.int x87) := by rw [elv88]; exact ak_set1_eq _ _ _
      show aw_W _ _ _ _ 162 lv88 [] _ _
      refine aw_n aj_d271 rfl rfl ?_
      exact ihL119_41 (aw_wa (aw_wa S43 17 ((((49 : Int) * 30 + x47.toInt) * 8 + x48.toInt)).toNat (aj_nar 4 (Int32.ofInt 0))) 18 ((((49 : Int) * 30 + x47.toInt) * 8 + x48.toInt)).toNat (aj_nar 0 x82)) lv88 (x45) (x46) (x47) (x87) hlv88_0 hlv88_1 hlv88_2 hlv88_3 hlv88_5 ⟨(hI86).1, hG85⟩ fr84 (by omega) (by omega) (by omega) (by omega) (show _ ≤ ((S43.1 30)).toInt by omega) (by omega)
theorem ar_comes_L79_24 (hU : aw_U tb s h) (hd : 3 ≤ d + 1) (N5 : Nat) (S7 : aj_S) (x9 : Int32) (x10 : Int32) (x11 : Int32) (x12 : Int32) (ihL5_5 : ∀ (S7 : aj_S) (lv8 : aj_V) (x9 : Int32) (x10 : Int32) (x11 : Int32) (x12 : Int32), (aj_lv lv8 0 = some (.ref 117)) → (aj_lv lv8 1 = some (.int x9)) → (aj_lv lv8 2 = some (.int x10)) → (aj_lv lv8 3 = some (.int x11)) → (aj_lv lv8 4 = some (.int x12)) → (aw_I s h (aw_G g) S7) → (aw_fr [] [14, 17, 18, 19] S S7) → (1 ≤ x9.toInt ∧ x9.toInt ≤ 7) → (0 ≤ x10.toInt ∧ x10.toInt ≤ 1023) → (0 ≤ x11.toInt ∧ x11.toInt ≤ 30) → ((-1) ≤ x12.toInt ∧ x12.toInt ≤ 1) → ((S.1 30).toInt + 0 ≤ (S7.1 30).toInt) → (x11.toInt ≤ (S7.2.2.1 14 49).toInt) → (x12.toInt < 0) → (30 - x11.toInt).toNat < N5 → aw_W tb h d aj_m271 5 lv8 [] S7 ((ar_QB s h [] [14, 17, 18, 19] S (fun S' => aw_G g S' ∧ (S.1 30).toInt ≤ (S'.1 30).toInt) (fun S' => aw_G g S' ∧ (S.1 30).toInt + 0 ≤ (S'.1 30).toInt)))) (hm5 : (30 - x11.toInt).toNat < N5 + 1) : ∀ (N : Nat) (S26 : aj_S) (lv27 : aj_V) (x28 : Int32) (x29 : Int32) (x30 : Int32) (x31 : Int32), (aj_lv lv27 0 = some (.ref 117)) → (aj_lv lv27 1 = some (.int x28)) → (aj_lv lv27 2 = some (.int x29)) → (aj_lv lv27 3 = some (.int x30)) → (aj_lv lv27 5 = some (.int x31)) → (aw_I s h (aw_G g) S26) → (aw_fr [] [14, 17, 18, 19] S S26) → (1 ≤ x28.toInt ∧ x28.toInt ≤ 7) → (0 ≤ x29.toInt ∧ x29.toInt ≤ 1023) → (0 ≤ x30.toInt ∧ x30.toInt ≤ 30) → (0 ≤ x31.toInt ∧ x31.toInt ≤ 29) → ((S.1 30).toInt + 0 ≤ (S26.1 30).toInt) → (x30.toInt ≤ x31.toInt) → ((S26.2.2.1 14 49).toInt ≤ 29) → (x31.toInt).toNat < N → aw_W tb h d aj_m271 79 lv27 [] S26 ((ar_QB s h [] [14, 17, 18, 19] S (fun S' => aw_G g S' ∧ (S.1 30).toInt ≤ (S'.1 30).toInt) (fun S' => aw_G g S' ∧ (S.1 30).toInt + 0 ≤ (S'.1 30).toInt))) := by
  have hs : aw_sT s := aw_hy_sT hU.2.2
  intro N79
  induction N79 with
  | zero =>
    intro S26 lv27 x28 x29 x30 x31 hlv27_0 hlv27_1 hlv27_2 hlv27_3 hlv27_5 hI32 fr33 bx28 bx29 bx30 bx31 ck79 k79 r79 hm79
    omega
  | succ N79 ihL79_24 =>
    intro S26 lv27 x28 x29 x30 x31 hlv27_0 hlv27_1 hlv27_2 hlv27_3 hlv27_5 hI32 fr33 bx28 bx29 bx30 bx31 ck79 k79 r79 hm79
    have hI34 : aw_I s h (aw_sm S26) S26 := ⟨hI32.1, aw_sm_rf⟩
    have b35 : 0 ≤ (S26.1 30).toInt ∧ (S26.1 30).toInt ≤ 1001 := aw_bd_f hs (hI34).1 (by decide) rfl
    refine aw_l0 aj_d271 rfl rfl hlv27_5 ?_
    refine aw_l0 aj_d271 rfl rfl hlv27_3 ?_
    refine aw_c (tgt := 105) aj_d271 rfl rfl (fun q36 => ?_) (fun q36 => ?_)
    · have q36 : x31.toInt ≤ x30.toInt := aw_t_le (a := x31.toInt) (b := x30.toInt) rfl rfl q36
      refine aw_l2 aj_d271 rfl rfl hlv27_0 ?_
      refine aw_g hU.1 aj_d271 rfl rfl (by decide) (v := .ref 131) rfl ?_
      refine aw_n aj_d271 rfl rfl ?_
      refine aw_n aj_d271 rfl rfl ?_
      refine aw_ld (k := 14) hU.1 aj_d271 (Or.inl ⟨rfl, rfl⟩) rfl (by decide) (by decide) rfl (a := (49 : Int)) rfl (by omega) (by omega) (fun x37 ex37 => ?_)
      have bx37 : 0 ≤ x37.toInt ∧ x37.toInt ≤ 30 := by
        rw [ex37]
        exact aw_bd_a hs (hI34).1 (k := 14) (by decide) (by decide) rfl (by decide) rfl (by omega)
      have ftx37 : x37.toInt = (S26.2.2.1 14 49).toInt := congrArg Int32.toInt (ex37.trans (congrFun rfl _))
      refine aw_n aj_d271 rfl rfl ?_
      refine aw_add aj_d271 rfl (a := x37.toInt) (b := (1 : Int)) rfl rfl (by omega) (by omega) (fun x38 ex38 => ?_)
      refine aw_st (k := 14) hU.1 aj_d271 (Or.inl ⟨rfl, rfl⟩) rfl (by decide) (by decide) rfl (a := (49 : Int)) rfl (by omega) (by omega) ?_
      have hI39 := aw_I_a (aw_UV hU aw_Gs_sm) (k := 14) (j := ((49 : Int)).toNat) (v := aj_nar 0 x38) hI34 (by decide) (by decide) (by decide) rfl (by decide) (by decide) rfl (aw_bp (a := x38.toInt) rfl (by omega) (by omega))
      have fr40 := aw_fr_a (k := 14) (j := ((49 : Int)).toNat) (v := aj_nar 0 x38) (by decide) fr33
      refine aw_n aj_d271 rfl rfl ?_
      refine aw_t0 (j := 5) aj_d271 rfl (by decide) rfl ?_
      obtain ⟨lv41, elv41⟩ : ∃ l, l = aj_set1 lv27 5 (.int (Int32.ofInt 0)) := ⟨_, rfl⟩
      rw [← elv41]
      have hlv41_0 : aj_lv lv41 0 = some (.ref 117) := cw_e1 elv41 hlv27_0 (by decide) (Or.inl (by decide))
      have hlv41_1 : aj_lv lv41 1 = some (.int x28) := cw_e1 elv41 hlv27_1 (by decide) (Or.inl (by decide))
      have hlv41_2 : aj_lv lv41 2 = some (.int x29) := cw_e1 elv41 hlv27_2 (by decide) (Or.inl (by decide))
      have hlv41_3 : aj_lv lv41 3 = some (.int x30) := cw_e1 elv41 hlv27_3 (by decide) (Or.inl (by decide))
      have hlv41_5 : aj_lv lv41 5 = some (.int (Int32.ofInt 0)) := by rw [elv41]; exact ak_set1_eq _ _ _
      show aw_W _ _ _ _ 119 lv41 [] _ _
      exact (ar_comes_L119_41 hU hd N5 S7 x9 x10 x11 x12 ihL5_5 hm5 N79 S26 x28 x29 x30 x31 ihL79_24 hm79) _ (aw_wa S26 14 ((49 : Int)).toNat (aj_nar 0 x38)) lv41 (x28) (x29) (x30) ((Int32.ofInt 0)) hlv41_0 hlv41_1 hlv41_2 hlv41_3 hlv41_5 ⟨(hI39).1, (aw_G_sm hI39.2 hI32.2)⟩ fr40 (by omega) (by omega) (by omega) (by first | omega | decide) (show _ ≤ ((S26.1 30)).toInt by omega) (Nat.lt_succ_self _)
    · have q36 : x31.toInt > x30.toInt := aw_t_le (a := x31.toInt) (b := x30.toInt) rfl rfl q36
      refine aw_l2 aj_d271 rfl rfl hlv27_0 ?_
      refine aw_n aj_d271 rfl rfl ?_
      refine aw_l0 aj_d271 rfl rfl hlv27_5 ?_
      refine aw_n aj_d271 rfl rfl ?_
      refine aw_sub aj_d271 rfl (a := x31.toInt) (b := (1 : Int)) rfl rfl (by omega) (by omega) (fun x89 ex89 => ?_)
      refine aw_n aj_d271 rfl rfl ?_
      refine aw_l0 aj_d271 rfl rfl hlv27_5 ?_
      refine aw_k hU.1 aj_d271 rfl rfl [_, _, _, _] rfl rfl rfl (Nat.le_of_ble_eq_true rfl) (ar_copyRow hU (hI34).1 (aw_G_B hI32.2).1 (by omega) (t := (Int8.ofInt 49).toInt32) (r := x89) (u := (Int8.ofInt 49).toInt32) (v := x31) (by decide) (by omega) (by decide) (by omega)) ?_
      rintro _ S90 ⟨hT90, fc90, rfl, sk90, kv90⟩
      have hG90 := aw_G_sk hI32.2 sk90 kv90
      have fr91 := aw_fr_tr fr33 (aw_fr_sub (F := []) (A := [17, 18, 19]) (by decide) (by decide) fc90)
      have hI92 : aw_I s h (aw_sm S90) S90 := ⟨hT90, aw_sm_rf⟩
      show aw_W _ _ _ _ 99 lv27 [] _ _
      refine aw_inc aj_d271 rfl hlv27_5 (a := x31.toInt) rfl (by omega) (by omega) (by decide) (by decide) (fun x93 ex93 => ?_)
      obtain ⟨lv94, elv94⟩ : ∃ l, l = aj_set1 lv27 5 (.int x93) := ⟨_, rfl⟩
      rw [← elv94]
      have hlv94_0 : aj_lv lv94 0 = some (.ref 117) := cw_e1 elv94 hlv27_0 (by decide) (Or.inl (by decide))
      have hlv94_1 : aj_lv lv94 1 = some (.int x28) := cw_e1 elv94 hlv27_1 (by decide) (Or.inl (by decide))
      have hlv94_2 : aj_lv lv94 2 = some (.int x29) := cw_e1 elv94 hlv27_2 (by decide) (Or.inl (by decide))
      have hlv94_3 : aj_lv lv94 3 = some (.int x30) := cw_e1 elv94 hlv27_3 (by decide) (Or.inl (by decide))
      have hlv94_5 : aj_lv lv94 5 = some (.int x93) := by rw [elv94]; exact ak_set1_eq _ _ _
      show aw_W _ _ _ _ 102 lv94 [] _ _
      refine aw_n aj_d271 rfl rfl ?_
      have c95 : (S90.1 30).toInt = (S26.1 30).toInt := (congrArg Int32.toInt (fc90.1 30 (by decide)).1).trans rfl
      have b96 : 0 ≤ (S90.1 30).toInt ∧ (S90.1 30).toInt ≤ 1001 := aw_bd_f hs (hI92).1 (by decide) rfl
      exact ihL79_24 S90 lv94 (x28) (x29) (x30) (x93) hlv94_0 hlv94_1 hlv94_2 hlv94_3 hlv94_5 ⟨(hI92).1, hG90⟩ fr91 (by omega) (by omega) (by omega) (by omega) (show _ ≤ ((S90.1 30)).toInt by omega) (by omega) (by rw [show (S90.2.2.1 14) = S26.2.2.1 14 from ((fc90.2 14 (by decide)).1.trans rfl)]; omega) (by omega)
theorem ar_comes_L168_137 (hU : aw_U tb s h) (hd : 3 ≤ d + 1) (N5 : Nat) (S7 : aj_S) (x9 : Int32) (x10 : Int32) (x11 : Int32) (x12 : Int32) (ihL5_5 : ∀ (S7 : aj_S) (lv8 : aj_V) (x9 : Int32) (x10 : Int32) (x11 : Int32) (x12 : Int32), (aj_lv lv8 0 = some (.ref 117)) → (aj_lv lv8 1 = some (.int x9)) → (aj_lv lv8 2 = some (.int x10)) → (aj_lv lv8 3 = some (.int x11)) → (aj_lv lv8 4 = some (.int x12)) → (aw_I s h (aw_G g) S7) → (aw_fr [] [14, 17, 18, 19] S S7) → (1 ≤ x9.toInt ∧ x9.toInt ≤ 7) → (0 ≤ x10.toInt ∧ x10.toInt ≤ 1023) → (0 ≤ x11.toInt ∧ x11.toInt ≤ 30) → ((-1) ≤ x12.toInt ∧ x12.toInt ≤ 1) → ((S.1 30).toInt + 0 ≤ (S7.1 30).toInt) → (x11.toInt ≤ (S7.2.2.1 14 49).toInt) → (x12.toInt < 0) → (30 - x11.toInt).toNat < N5 → aw_W tb h d aj_m271 5 lv8 [] S7 ((ar_QB s h [] [14, 17, 18, 19] S (fun S' => aw_G g S' ∧ (S.1 30).toInt ≤ (S'.1 30).toInt) (fun S' => aw_G g S' ∧ (S.1 30).toInt + 0 ≤ (S'.1 30).toInt)))) (hm5 : (30 - x11.toInt).toNat < N5 + 1) (N79 : Nat) (S109 : aj_S) (x111 : Int32) (x112 : Int32) (x113 : Int32) (x114 : Int32) (ihL79_107 : ∀ (S109 : aj_S) (lv110 : aj_V) (x111 : Int32) (x112 : Int32) (x113 : Int32) (x114 : Int32), (aj_lv lv110 0 = some (.ref 117)) → (aj_lv lv110 1 = some (.int x111)) → (aj_lv lv110 2 = some (.int x112)) → (aj_lv lv110 3 = some (.int x113)) → (aj_lv lv110 5 = some (.int x114)) → (aw_I s h (aw_G g) S109) → (aw_fr [] [14, 17, 18, 19] S S109) → (1 ≤ x111.toInt ∧ x111.toInt ≤ 7) → (0 ≤ x112.toInt ∧ x112.toInt ≤ 1023) → (0 ≤ x113.toInt ∧ x113.toInt ≤ 30) → (0 ≤ x114.toInt ∧ x114.toInt ≤ 29) → ((S.1 30).toInt + 0 ≤ (S109.1 30).toInt) → (x113.toInt ≤ x114.toInt) → ((S109.2.2.1 14 49).toInt ≤ 29) → (x114.toInt).toNat < N79 → aw_W tb h d aj_m271 79 lv110 [] S109 ((ar_QB s h [] [14, 17, 18, 19] S (fun S' => aw_G g S' ∧ (S.1 30).toInt ≤ (S'.1 30).toInt) (fun S' => aw_G g S' ∧ (S.1 30).toInt + 0 ≤ (S'.1 30).toInt)))) (hm79 : (x114.toInt).toNat < N79 + 1) (N119 : Nat) (S126 : aj_S) (x128 : Int32) (x129 : Int32) (x130 : Int32) (x131 : Int32) (ihL119_124 : ∀ (S126 : aj_S) (lv127 : aj_V) (x128 : Int32) (x129 : Int32) (x130 : Int32) (x131 : Int32), (aj_lv lv127 0 = some (.ref 117)) → (aj_lv lv127 1 = some (.int x128)) → (aj_lv lv127 2 = some (.int x129)) → (aj_lv lv127 3 = some (.int x130)) → (aj_lv lv127 5 = some (.int x131)) → (aw_I s h (aw_G g) S126) → (aw_fr [] [14, 17, 18, 19] S S126) → (1 ≤ x128.toInt ∧ x128.toInt ≤ 7) → (0 ≤ x129.toInt ∧ x129.toInt ≤ 1023) → (0 ≤ x130.toInt ∧ x130.toInt ≤ 29) → (0 ≤ x131.toInt ∧ x131.toInt ≤ 7) → ((S.1 30).toInt + 0 ≤ (S126.1 30).toInt) → (7 - x131.toInt).toNat < N119 → aw_W tb h d aj_m271 119 lv127 [] S126 ((ar_QB s h [] [14, 17, 18, 19] S (fun S' => aw_G g S' ∧ (S.1 30).toInt ≤ (S'.1 30).toInt) (fun S' => aw_G g S' ∧ (S.1 30).toInt + 0 ≤ (S'.1 30).toInt)))) (hm119 : (7 - x131.toInt).toNat < N119 + 1) : ∀ (N : Nat) (S139 : aj_S) (lv140 : aj_V) (x141 : Int32) (x142 : Int32) (x143 : Int32), (aj_lv lv140 0 = some (.ref 117)) → (aj_lv lv140 2 = some (.int x141)) → (aj_lv lv140 3 = some (.int x142)) → (aj_lv lv140 5 = some (.int x143)) → (aw_I s h (aw_G g) S139) → (aw_fr [] [14, 17, 18, 19] S S139) → (0 ≤ x141.toInt ∧ x141.toInt ≤ 1023) → (0 ≤ x142.toInt ∧ x142.toInt ≤ 29) → (0 ≤ x143.toInt ∧ x143.toInt ≤ 32) → ((S.1 30).toInt + 0 ≤ (S139.1 30).toInt) → (32 - x143.toInt).toNat < N → aw_W tb h d aj_m271 168 lv140 [] S139 ((ar_QB s h [] [14, 17, 18, 19] S (fun S' => aw_G g S' ∧ (S.1 30).toInt ≤ (S'.1 30).toInt) (fun S' => aw_G g S' ∧ (S.1 30).toInt + 0 ≤ (S'.1 30).toInt))) := by
  have hs : aw_sT s := aw_hy_sT hU.2.2
  intro N168
  induction N168 with
  | zero =>
    intro S139 lv140 x141 x142 x143 hlv140_0 hlv140_2 hlv140_3 hlv140_5 hI144 fr145 bx141 bx142 bx143 ck168 hm168
    omega
  | succ N168 ihL168_137 =>
    intro S139 lv140 x141 x142 x143 hlv140_0 hlv140_2 hlv140_3 hlv140_5 hI144 fr145 bx141 bx142 bx143 ck168 hm168
    have hI146 : aw_I s h (aw_sm S139) S139 := ⟨hI144.1, aw_sm_rf⟩
    have b147 : 0 ≤ (S139.1 30).toInt ∧ (S139.1 30).toInt ≤ 1001 := aw_bd_f hs (hI146).1 (by decide) rfl
    refine aw_l0 aj_d271 rfl rfl hlv140_5 ?_
    refine aw_n aj_d271 rfl rfl ?_
    refine aw_c (tgt := 197) aj_d271 rfl rfl (fun q148 => ?_) (fun q148 => ?_)
    · have q148 : x143.toInt ≥ (32 : Int) := aw_t_ge (a := x143.toInt) (b := (32 : Int)) rfl rfl q148
      refine aw_l2 aj_d271 rfl rfl hlv140_0 ?_
      refine aw_g hU.1 aj_d271 rfl rfl (by decide) (v := .ref 136) rfl ?_
      refine aw_l2 aj_d271 rfl rfl hlv140_0 ?_
      refine aw_n aj_d271 rfl rfl ?_
      refine aw_l0 aj_d271 rfl rfl hlv140_3 ?_
      refine aw_k hU.1 aj_d271 rfl rfl [_, _] rfl rfl rfl (Nat.le_of_ble_eq_true rfl) (ar_at (by omega) (a := (49 : Int)) (b := x142.toInt) rfl rfl (by omega) (by omega)) ?_
      rintro _ zx149 ⟨fx149, x149, rfl, ex149⟩
      rw [fx149]
      show aw_W _ _ _ _ 208 lv140 [.int x149, .ref 136] _ _
      refine aw_l0 aj_d271 rfl rfl hlv140_2 ?_
      refine aw_n aj_d271 rfl rfl ?_
      refine aw_ks aj_d271 rfl rfl rfl [_, _, _, _] rfl rfl (Nat.le_of_ble_eq_true rfl) (ar_put hU (hI146).1 (by omega) (k := 19) (n := 48000) (by decide) (by decide) rfl rfl (a := (((49 : Int) * 30 + x142.toInt) * 32)) (b := x141.toInt) ex149 rfl (by omega) (by omega) (by omega) (by decide)) ?_
      rintro _ S150 ⟨hT150, fc150, rfl, pe150⟩
      have fr151 := aw_fr_tr fr145 (aw_fr_sub (F := []) (A := [19]) (by decide) (by decide) fc150)
      have hI152 : aw_I s h (aw_sm S139) S150 := ⟨hT150, aw_sm_tr hI146.2 (aw_fr_sm (by decide) (by decide) (by decide) (F := []) (A := [19]) fc150)⟩
      show aw_W _ _ _ _ 213 lv140 [] _ _
      refine aw_n aj_d271 rfl rfl ?_
      refine aw_e aj_d271 rfl rfl ?_
      have c153 : (S150.1 30).toInt = (S139.1 30).toInt := (congrArg Int32.toInt (fc150.1 30 (by decide)).1).trans rfl
      have b154 : 0 ≤ (S150.1 30).toInt ∧ (S150.1 30).toInt ≤ 1001 := aw_bd_f hs (hI152).1 (by decide) rfl
      exact ⟨(hI152).1, fr151, Or.inr ⟨_, rfl, rfl, (aw_G_sm hI152.2 hI144.2), (show _ + 0 ≤ ((S150.1 30)).toInt by omega)⟩⟩
    · have q148 : x143.toInt < (32 : Int) := aw_t_ge (a := x143.toInt) (b := (32 : Int)) rfl rfl q148
      refine aw_l2 aj_d271 rfl rfl hlv140_0 ?_
      refine aw_g hU.1 aj_d271 rfl rfl (by decide) (v := .ref 136) rfl ?_
      refine aw_l2 aj_d271 rfl rfl hlv140_0 ?_
      refine aw_n aj_d271 rfl rfl ?_
      refine aw_l0 aj_d271 rfl rfl hlv140_3 ?_
      refine aw_k hU.1 aj_d271 rfl rfl [_, _] rfl rfl rfl (Nat.le_of_ble_eq_true rfl) (ar_at (by omega) (a := (49 : Int)) (b := x142.toInt) rfl rfl (by omega) (by omega)) ?_
      rintro _ zx155 ⟨fx155, x155, rfl, ex155⟩
      rw [fx155]
      show aw_W _ _ _ _ 186 lv140 [.int x155, .ref 136] _ _
      refine aw_l0 aj_d271 rfl rfl hlv140_5 ?_
      refine aw_add aj_d271 rfl (a := (((49 : Int) * 30 + x142.toInt) * 32)) (b := x143.toInt) ex155 rfl (by omega) (by omega) (fun x156 ex156 => ?_)
      refine aw_n aj_d271 rfl rfl ?_
      refine aw_st (k := 19) hU.1 aj_d271 (Or.inl ⟨rfl, rfl⟩) rfl (by decide) (by decide) rfl (a := x156.toInt) rfl (by omega) (by omega) ?_
      have hI157 := aw_I_a (aw_UV hU aw_Gs_sm) (k := 19) (j := (x156.toInt).toNat) (v := aj_nar 0 (Int32.ofInt 0)) hI146 (by decide) (by decide) (by decide) rfl (by decide) (by decide) rfl (aw_full _)
      have fr158 := aw_fr_a (k := 19) (j := (x156.toInt).toNat) (v := aj_nar 0 (Int32.ofInt 0)) (by decide) fr145
      refine aw_inc aj_d271 rfl hlv140_5 (a := x143.toInt) rfl (by omega) (by omega) (by decide) (by decide) (fun x159 ex159 => ?_)
      obtain ⟨lv160, elv160⟩ : ∃ l, l = aj_set1 lv140 5 (.int x159) := ⟨_, rfl⟩
      rw [← elv160]
      have hlv160_0 : aj_lv lv160 0 = some (.ref 117) := cw_e1 elv160 hlv140_0 (by decide) (Or.inl (by decide))
      have hlv160_2 : aj_lv lv160 2 = some (.int x141) := cw_e1 elv160 hlv140_2 (by decide) (Or.inl (by decide))
      have hlv160_3 : aj_lv lv160 3 = some (.int x142) := cw_e1 elv160 hlv140_3 (by decide) (Or.inl (by decide))
      have hlv160_5 : aj_lv lv160 5 = some (.int x159) := by rw [elv160]; exact ak_set1_eq _ _ _
      show aw_W _ _ _ _ 194 lv160 [] _ _
      refine aw_n aj_d271 rfl rfl ?_
      exact ihL168_137 (aw_wa S139 19 (x156.toInt).toNat (aj_nar 0 (Int32.ofInt 0))) lv160 (x141) (x142) (x159) hlv160_0 hlv160_2 hlv160_3 hlv160_5 ⟨(hI157).1, (aw_G_sm hI157.2 hI144.2)⟩ fr158 (by omega) (by omega) (by omega) (show _ ≤ ((S139.1 30)).toInt by omega) (by omega)
theorem ar_comes_L119_124 (hU : aw_U tb s h) (hd : 3 ≤ d + 1) (N5 : Nat) (S7 : aj_S) (x9 : Int32) (x10 : Int32) (x11 : Int32) (x12 : Int32) (ihL5_5 : ∀ (S7 : aj_S) (lv8 : aj_V) (x9 : Int32) (x10 : Int32) (x11 : Int32) (x12 : Int32), (aj_lv lv8 0 = some (.ref 117)) → (aj_lv lv8 1 = some (.int x9)) → (aj_lv lv8 2 = some (.int x10)) → (aj_lv lv8 3 = some (.int x11)) → (aj_lv lv8 4 = some (.int x12)) → (aw_I s h (aw_G g) S7) → (aw_fr [] [14, 17, 18, 19] S S7) → (1 ≤ x9.toInt ∧ x9.toInt ≤ 7) → (0 ≤ x10.toInt ∧ x10.toInt ≤ 1023) → (0 ≤ x11.toInt ∧ x11.toInt ≤ 30) → ((-1) ≤ x12.toInt ∧ x12.toInt ≤ 1) → ((S.1 30).toInt + 0 ≤ (S7.1 30).toInt) → (x11.toInt ≤ (S7.2.2.1 14 49).toInt) → (x12.toInt < 0) → (30 - x11.toInt).toNat < N5 → aw_W tb h d aj_m271 5 lv8 [] S7 ((ar_QB s h [] [14, 17, 18, 19] S (fun S' => aw_G g S' ∧ (S.1 30).toInt ≤ (S'.1 30).toInt) (fun S' => aw_G g S' ∧ (S.1 30).toInt + 0 ≤ (S'.1 30).toInt)))) (hm5 : (30 - x11.toInt).toNat < N5 + 1) (N79 : Nat) (S109 : aj_S) (x111 : Int32) (x112 : Int32) (x113 : Int32) (x114 : Int32) (ihL79_107 : ∀ (S109 : aj_S) (lv110 : aj_V) (x111 : Int32) (x112 : Int32) (x113 : Int32) (x114 : Int32), (aj_lv lv110 0 = some (.ref 117)) → (aj_lv lv110 1 = some (.int x111)) → (aj_lv lv110 2 = some (.int x112)) → (aj_lv lv110 3 = some (.int x113)) → (aj_lv lv110 5 = some (.int x114)) → (aw_I s h (aw_G g) S109) → (aw_fr [] [14, 17, 18, 19] S S109) → (1 ≤ x111.toInt ∧ x111.toInt ≤ 7) → (0 ≤ x112.toInt ∧ x112.toInt ≤ 1023) → (0 ≤ x113.toInt ∧ x113.toInt ≤ 30) → (0 ≤ x114.toInt ∧ x114.toInt ≤ 29) → ((S.1 30).toInt + 0 ≤ (S109.1 30).toInt) → (x113.toInt ≤ x114.toInt) → ((S109.2.2.1 14 49).toInt ≤ 29) → (x114.toInt).toNat < N79 → aw_W tb h d aj_m271 79 lv110 [] S109 ((ar_QB s h [] [14, 17, 18, 19] S (fun S' => aw_G g S' ∧ (S.1 30).toInt ≤ (S'.1 30).toInt) (fun S' => aw_G g S' ∧ (S.1 30).toInt + 0 ≤ (S'.1 30).toInt)))) (hm79 : (x114.toInt).toNat < N79 + 1) : ∀ (N : Nat) (S126 : aj_S) (lv127 : aj_V) (x128 : Int32) (x129 : Int32) (x130 : Int32) (x131 : Int32), (aj_lv lv127 0 = some (.ref 117)) → (aj_lv lv127 1 = some (.int x128)) → (aj_lv lv127 2 = some (.int x129)) → (aj_lv lv127 3 = some (.int x130)) → (aj_lv lv127 5 = some (.int x131)) → (aw_I s h (aw_G g) S126) → (aw_fr [] [14, 17, 18, 19] S S126) → (1 ≤ x128.toInt ∧ x128.toInt ≤ 7) → (0 ≤ x129.toInt ∧ x129.toInt ≤ 1023) → (0 ≤ x130.toInt ∧ x130.toInt ≤ 29) → (0 ≤ x131.toInt ∧ x131.toInt ≤ 7) → ((S.1 30).toInt + 0 ≤ (S126.1 30).toInt) → (7 - x131.toInt).toNat < N → aw_W tb h d aj_m271 119 lv127 [] S126 ((ar_QB s h [] [14, 17, 18, 19] S (fun S' => aw_G g S' ∧ (S.1 30).toInt ≤ (S'.1 30).toInt) (fun S' => aw_G g S' ∧ (S.1 30).toInt + 0 ≤ (S'.1 30).toInt))) := by
  have hs : aw_sT s := aw_hy_sT hU.2.2
  intro N119
  induction N119 with
  | zero =>
    intro S126 lv127 x128 x129 x130 x131 hlv127_0 hlv127_1 hlv127_2 hlv127_3 hlv127_5 hI132 fr133 bx128 bx129 bx130 bx131 ck119 hm119
    omega
  | succ N119 ihL119_124 =>
    intro S126 lv127 x128 x129 x130 x131 hlv127_0 hlv127_1 hlv127_2 hlv127_3 hlv127_5 hI132 fr133 bx128 bx129 bx130 bx131 ck119 hm119
    have hI134 : aw_I s h (aw_sm S126) S126 := ⟨hI132.1, aw_sm_rf⟩
    have b135 : 0 ≤ (S126.1 30).toInt ∧ (S126.1 30).toInt ≤ 1001 := aw_bd_f hs (hI134).1 (by decide) rfl
    refine aw_l0 aj_d271 rfl rfl hlv127_5 ?_
    refine aw_l0 aj_d271 rfl rfl hlv127_1 ?_
    refine aw_c (tgt := 165) aj_d271 rfl rfl (fun q136 => ?_) (fun q136 => ?_)
    · have q136 : x131.toInt ≥ x128.toInt := aw_t_ge (a := x131.toInt) (b := x128.toInt) rfl rfl q136
      refine aw_n aj_d271 rfl rfl ?_
      refine aw_t0 (j := 5) aj_d271 rfl (by decide) rfl ?_
      obtain ⟨lv137, elv137⟩ : ∃ l, l = aj_set1 lv127 5 (.int (Int32.ofInt 0)) := ⟨_, rfl⟩
      rw [← elv137]
      have hlv137_0 : aj_lv lv137 0 = some (.ref 117) := cw_e1 elv137 hlv127_0 (by decide) (Or.inl (by decide))
      have hlv137_2 : aj_lv lv137 2 = some (.int x129) := cw_e1 elv137 hlv127_2 (by decide) (Or.inl (by decide))
      have hlv137_3 : aj_lv lv137 3 = some (.int x130) := cw_e1 elv137 hlv127_3 (by decide) (Or.inl (by decide))
      have hlv137_5 : aj_lv lv137 5 = some (.int (Int32.ofInt 0)) := by rw [elv137]; exact ak_set1_eq _ _ _
      show aw_W _ _ _ _ 168 lv137 [] _ _
      exact (ar_comes_L168_137 hU hd N5 S7 x9 x10 x11 x12 ihL5_5 hm5 N79 S109 x111 x112 x113 x114 ihL79_107 hm79 N119 S126 x128 x129 x130 x131 ihL119_124 hm119) _ S126 lv137 (x129) (x130) ((Int32.ofInt 0)) hlv137_0 hlv137_2 hlv137_3 hlv137_5 ⟨(hI134).1, hI132.2⟩ fr133 (by omega) (by omega) (by first | omega | decide) (show _ ≤ ((S126.1 30)).toInt by omega) (Nat.lt_succ_self _)
    · have q136 : x131.toInt < x128.toInt := aw_t_ge (a := x131.toInt) (b := x128.toInt) rfl rfl q136
      refine aw_l2 aj_d271 rfl rfl hlv127_0 ?_
      refine aw_g hU.1 aj_d271 rfl rfl (by decide) (v := .ref 134) rfl ?_
      refine aw_n aj_d271 rfl rfl ?_
      refine aw_l0 aj_d271 rfl rfl hlv127_3 ?_
      refine aw_l0 aj_d271 rfl rfl hlv127_5 ?_
      refine aw_ks aj_d271 rfl rfl rfl [_, _, _] rfl rfl (Nat.le_of_ble_eq_true rfl) (ar_cellAt (by omega) (a := (49 : Int)) (b := x130.toInt) (c := x131.toInt) rfl rfl rfl (by omega) (by omega) (by omega)) ?_
      rintro _ zx161 ⟨fx161, x161, rfl, ex161⟩
      rw [fx161]
      show aw_W _ _ _ _ 137 lv127 [.int x161, .ref 134] _ _
      refine aw_n aj_d271 rfl rfl ?_
      refine aw_st (k := 17) hU.1 aj_d271 (Or.inr (Or.inr (Or.inr ⟨rfl, rfl⟩))) rfl (by decide) (by decide) rfl (a := (((49 : Int) * 30 + x130.toInt) * 8 + x131.toInt)) ex161 (by omega) (by omega) ?_
      have hI162 : aw_I s h (aw_sm (aw_wa S126 17 ((((49 : Int) * 30 + x130.toInt) * 8 + x131.toInt)).toNat (aj_nar 4 (Int32.ofInt 0)))) (aw_wa S126 17 ((((49 : Int) * 30 + x130.toInt) * 8 + x131.toInt)).toNat (aj_nar 4 (Int32.ofInt 0))) := ⟨aw_T_a hU.2.1 hs hU.1.1 (hI134).1 (by decide) (by decide) rfl (by decide) (by decide) rfl (aw_nar4 (aw_bp (a := (0 : Int)) rfl (by omega) (by omega)) (by decide) (by decide)), aw_sm_rf⟩
      have fr163 := aw_fr_a (k := 17) (j := ((((49 : Int) * 30 + x130.toInt) * 8 + x131.toInt)).toNat) (v := aj_nar 4 (Int32.ofInt 0)) (by decide) fr133
      refine aw_l2 aj_d271 rfl rfl hlv127_0 ?_
      refine aw_g hU.1 aj_d271 rfl rfl (by decide) (v := .ref 135) rfl ?_
      refine aw_n aj_d271 rfl rfl ?_
      refine aw_l0 aj_d271 rfl rfl hlv127_3 ?_
      refine aw_l0 aj_d271 rfl rfl hlv127_5 ?_
      refine aw_ks aj_d271 rfl rfl rfl [_, _, _] rfl rfl (Nat.le_of_ble_eq_true rfl) (ar_cellAt (by omega) (a := (49 : Int)) (b := x130.toInt) (c := x131.toInt) rfl rfl rfl (by omega) (by omega) (by omega)) ?_
      rintro _ zx164 ⟨fx164, x164, rfl, ex164⟩
      rw [fx164]
      show aw_W _ _ _ _ 151 lv127 [.int x164, .ref 135] _ _
      refine aw_l2 aj_d271 rfl rfl hlv127_0 ?_
      refine aw_g hU.1 aj_d271 rfl rfl (by decide) (v := .ref 144) rfl ?_
      refine aw_l0 aj_d271 rfl rfl hlv127_5 ?_
      refine aw_ld (k := 27) hU.1 aj_d271 (Or.inl ⟨rfl, rfl⟩) rfl (by decide) (by decide) rfl (a := x131.toInt) rfl (by omega) (by omega) (fun x165 ex165 => ?_)
      refine aw_st (k := 18) hU.1 aj_d271 (Or.inl ⟨rfl, rfl⟩) rfl (by decide) (by decide) rfl (a := (((49 : Int) * 30 + x130.toInt) * 8 + x131.toInt)) ex164 (by omega) (by omega) ?_
      have hI166 : aw_I s h (aw_sm (aw_wa (aw_wa S126 17 ((((49 : Int) * 30 + x130.toInt) * 8 + x131.toInt)).toNat (aj_nar 4 (Int32.ofInt 0))) 18 ((((49 : Int) * 30 + x130.toInt) * 8 + x131.toInt)).toNat (aj_nar 0 x165))) (aw_wa (aw_wa S126 17 ((((49 : Int) * 30 + x130.toInt) * 8 + x131.toInt)).toNat (aj_nar 4 (Int32.ofInt 0))) 18 ((((49 : Int) * 30 + x130.toInt) * 8 + x131.toInt)).toNat (aj_nar 0 x165)) := ⟨aw_T_a hU.2.1 hs hU.1.1 (hI162).1 (by decide) (by decide) rfl (by decide) (by decide) rfl (aw_full _), aw_sm_rf⟩
      have fr167 := aw_fr_a (k := 18) (j := ((((49 : Int) * 30 + x130.toInt) * 8 + x131.toInt)).toNat) (v := aj_nar 0 x165) (by decide) fr163
      have hG168 := aw_G_sk (S' := (aw_wa (aw_wa S126 17 ((((49 : Int) * 30 + x130.toInt) * 8 + x131.toInt)).toNat (aj_nar 4 (Int32.ofInt 0))) 18 ((((49 : Int) * 30 + x130.toInt) * 8 + x131.toInt)).toNat (aj_nar 0 x165))) hI132.2 (aw_sk_2 aw_sk_rf) (aw_kv_2 (aw_G_B hI132.2).1 (by first | rfl | (congr 1) | omega) (fun z => absurd z (by decide)))
      have hI169 : aw_I s h (aw_sm (aw_wa (aw_wa S126 17 ((((49 : Int) * 30 + x130.toInt) * 8 + x131.toInt)).toNat (aj_nar 4 (Int32.ofInt 0))) 18 ((((49 : Int) * 30 + x130.toInt) * 8 + x131.toInt)).toNat (aj_nar 0 x165))) (aw_wa (aw_wa S126 17 ((((49 : Int) * 30 + x130.toInt) * 8 + x131.toInt)).toNat (aj_nar 4 (Int32.ofInt 0))) 18 ((((49 : Int) * 30 + x130.toInt) * 8 + x131.toInt)).toNat (aj_nar 0 x165)) := ⟨(hI166).1, aw_sm_rf⟩
      refine aw_inc aj_d271 rfl hlv127_5 (a := x131.toInt) rfl (by omega) (by omega) (by decide) (by decide) (fun x170 ex170 => ?_)
      obtain ⟨lv171, elv171⟩ : ∃ l, l = aj_set1 lv127 5 (.int x170) := ⟨_, rfl⟩
      rw [← elv171]
      have hlv171_0 : aj_lv lv171 0 = some (.ref 117) := cw_e1 elv171 hlv127_0 (by decide) (Or.inl (by decide))
      have hlv171_1 : aj_lv lv171 1 = some (.int x128) := cw_e1 elv171 hlv127_1 (by decide) (Or.inl (by decide))
      have hlv171_2 : aj_lv lv171 2 = some (.int x129) := cw_e1 elv171 hlv127_2 (by decide) (Or.inl (by decide))
      have hlv171_3 : aj_lv lv171 3 = some (.int x130) := cw_e1 elv171 hlv127_3 (by decide) (Or.inl (by decide))
      have hlv171_5 : aj_lv lv171 5 = some (.int x170) := by rw [elv171]; exact ak_set1_eq _ _ _
      show aw_W _ _ _ _ 162 lv171 [] _ _
      refine aw_n aj_d271 rfl rfl ?_
      exact ihL119_124 (aw_wa (aw_wa S126 17 ((((49 : Int) * 30 + x130.toInt) * 8 + x131.toInt)).toNat (aj_nar 4 (Int32.ofInt 0))) 18 ((((49 : Int) * 30 + x130.toInt) * 8 + x131.toInt)).toNat (aj_nar 0 x165)) lv171 (x128) (x129) (x130) (x170) hlv171_0 hlv171_1 hlv171_2 hlv171_3 hlv171_5 ⟨(hI169).1, hG168⟩ fr167 (by omega) (by omega) (by omega) (by omega) (show _ ≤ ((S126.1 30)).toInt by omega) (by omega)
theorem ar_comes_L79_107 (hU : aw_U tb s h) (hd : 3 ≤ d + 1) (N5 : Nat) (S7 : aj_S) (x9 : Int32) (x10 : Int32) (x11 : Int32) (x12 : Int32) (ihL5_5 : ∀ (S7 : aj_S) (lv8 : aj_V) (x9 : Int32) (x10 : Int32) (x11 : Int32) (x12 : Int32), (aj_lv lv8 0 = some (.ref 117)) → (aj_lv lv8 1 = some (.int x9)) → (aj_lv lv8 2 = some (.int x10)) → (aj_lv lv8 3 = some (.int x11)) → (aj_lv lv8 4 = some (.int x12)) → (aw_I s h (aw_G g) S7) → (aw_fr [] [14, 17, 18, 19] S S7) → (1 ≤ x9.toInt ∧ x9.toInt ≤ 7) → (0 ≤ x10.toInt ∧ x10.toInt ≤ 1023) → (0 ≤ x11.toInt ∧ x11.toInt ≤ 30) → ((-1) ≤ x12.toInt ∧ x12.toInt ≤ 1) → ((S.1 30).toInt + 0 ≤ (S7.1 30).toInt) → (x11.toInt ≤ (S7.2.2.1 14 49).toInt) → (x12.toInt < 0) → (30 - x11.toInt).toNat < N5 → aw_W tb h d aj_m271 5 lv8 [] S7 ((ar_QB s h [] [14, 17, 18, 19] S (fun S' => aw_G g S' ∧ (S.1 30).toInt ≤ (S'.1 30).toInt) (fun S' => aw_G g S' ∧ (S.1 30).toInt + 0 ≤ (S'.1 30).toInt)))) (hm5 : (30 - x11.toInt).toNat < N5 + 1) : ∀ (N : Nat) (S109 : aj_S) (lv110 : aj_V) (x111 : Int32) (x112 : Int32) (x113 : Int32) (x114 : Int32), (aj_lv lv110 0 = some (.ref 117)) → (aj_lv lv110 1 = some (.int x111)) → (aj_lv lv110 2 = some (.int x112)) → (aj_lv lv110 3 = some (.int x113)) → (aj_lv lv110 5 = some (.int x114)) → (aw_I s h (aw_G g) S109) → (aw_fr [] [14, 17, 18, 19] S S109) → (1 ≤ x111.toInt ∧ x111.toInt ≤ 7) → (0 ≤ x112.toInt ∧ x112.toInt ≤ 1023) → (0 ≤ x113.toInt ∧ x113.toInt ≤ 30) → (0 ≤ x114.toInt ∧ x114.toInt ≤ 29) → ((S.1 30).toInt + 0 ≤ (S109.1 30).toInt) → (x113.toInt ≤ x114.toInt) → ((S109.2.2.1 14 49).toInt ≤ 29) → (x114.toInt).toNat < N → aw_W tb h d aj_m271 79 lv110 [] S109 ((ar_QB s h [] [14, 17, 18, 19] S (fun S' => aw_G g S' ∧ (S.1 30).toInt ≤ (S'.1 30).toInt) (fun S' => aw_G g S' ∧ (S.1 30).toInt + 0 ≤ (S'.1 30).toInt))) := by
  have hs : aw_sT s := aw_hy_sT hU.2.2
  intro N79
  induction N79 with
  | zero =>
    intro S109 lv110 x111 x112 x113 x114 hlv110_0 hlv110_1 hlv110_2 hlv110_3 hlv110_5 hI115 fr116 bx111 bx112 bx113 bx114 ck79 k79 r79 hm79
    omega
  | succ N79 ihL79_107 =>
    intro S109 lv110 x111 x112 x113 x114 hlv110_0 hlv110_1 hlv110_2 hlv110_3 hlv110_5 hI115 fr116 bx111 bx112 bx113 bx114 ck79 k79 r79 hm79
    have hI117 : aw_I s h (aw_sm S109) S109 := ⟨hI115.1, aw_sm_rf⟩
    have b118 : 0 ≤ (S109.1 30).toInt ∧ (S109.1 30).toInt ≤ 1001 := aw_bd_f hs (hI117).1 (by decide) rfl
    refine aw_l0 aj_d271 rfl rfl hlv110_5 ?_
    refine aw_l0 aj_d271 rfl rfl hlv110_3 ?_
    refine aw_c (tgt := 105) aj_d271 rfl rfl (fun q119 => ?_) (fun q119 => ?_)
    · have q119 : x114.toInt ≤ x113.toInt := aw_t_le (a := x114.toInt) (b := x113.toInt) rfl rfl q119
      refine aw_l2 aj_d271 rfl rfl hlv110_0 ?_
      refine aw_g hU.1 aj_d271 rfl rfl (by decide) (v := .ref 131) rfl ?_
      refine aw_n aj_d271 rfl rfl ?_
      refine aw_n aj_d271 rfl rfl ?_
      refine aw_ld (k := 14) hU.1 aj_d271 (Or.inl ⟨rfl, rfl⟩) rfl (by decide) (by decide) rfl (a := (49 : Int)) rfl (by omega) (by omega) (fun x120 ex120 => ?_)
      have bx120 : 0 ≤ x120.toInt ∧ x120.toInt ≤ 30 := by
        rw [ex120]
        exact aw_bd_a hs (hI117).1 (k := 14) (by decide) (by decide) rfl (by decide) rfl (by omega)
      have ftx120 : x120.toInt = (S109.2.2.1 14 49).toInt := congrArg Int32.toInt (ex120.trans (congrFun rfl _))
      refine aw_n aj_d271 rfl rfl ?_
      refine aw_add aj_d271 rfl (a := x120.toInt) (b := (1 : Int)) rfl rfl (by omega) (by omega) (fun x121 ex121 => ?_)
      refine aw_st (k := 14) hU.1 aj_d271 (Or.inl ⟨rfl, rfl⟩) rfl (by decide) (by decide) rfl (a := (49 : Int)) rfl (by omega) (by omega) ?_
      have hI122 := aw_I_a (aw_UV hU aw_Gs_sm) (k := 14) (j := ((49 : Int)).toNat) (v := aj_nar 0 x121) hI117 (by decide) (by decide) (by decide) rfl (by decide) (by decide) rfl (aw_bp (a := x121.toInt) rfl (by omega) (by omega))
      have fr123 := aw_fr_a (k := 14) (j := ((49 : Int)).toNat) (v := aj_nar 0 x121) (by decide) fr116
      refine aw_n aj_d271 rfl rfl ?_
      refine aw_t0 (j := 5) aj_d271 rfl (by decide) rfl ?_
      obtain ⟨lv124, elv124⟩ : ∃ l, l = aj_set1 lv110 5 (.int (Int32.ofInt 0)) := ⟨_, rfl⟩
      rw [← elv124]
      have hlv124_0 : aj_lv lv124 0 = some (.ref 117) := cw_e1 elv124 hlv110_0 (by decide) (Or.inl (by decide))
      have hlv124_1 : aj_lv lv124 1 = some (.int x111) := cw_e1 elv124 hlv110_1 (by decide) (Or.inl (by decide))
      have hlv124_2 : aj_lv lv124 2 = some (.int x112) := cw_e1 elv124 hlv110_2 (by decide) (Or.inl (by decide))
      have hlv124_3 : aj_lv lv124 3 = some (.int x113) := cw_e1 elv124 hlv110_3 (by decide) (Or.inl (by decide))
      have hlv124_5 : aj_lv lv124 5 = some (.int (Int32.ofInt 0)) := by rw [elv124]; exact ak_set1_eq _ _ _
      show aw_W _ _ _ _ 119 lv124 [] _ _
      exact (ar_comes_L119_124 hU hd N5 S7 x9 x10 x11 x12 ihL5_5 hm5 N79 S109 x111 x112 x113 x114 ihL79_107 hm79) _ (aw_wa S109 14 ((49 : Int)).toNat (aj_nar 0 x121)) lv124 (x111) (x112) (x113) ((Int32.ofInt 0)) hlv124_0 hlv124_1 hlv124_2 hlv124_3 hlv124_5 ⟨(hI122).1, (aw_G_sm hI122.2 hI115.2)⟩ fr123 (by omega) (by omega) (by omega) (by first | omega | decide) (show _ ≤ ((S109.1 30)).toInt by omega) (Nat.lt_succ_self _)
    · have q119 : x114.toInt > x113.toInt := aw_t_le (a := x114.toInt) (b := x113.toInt) rfl rfl q119
      refine aw_l2 aj_d271 rfl rfl hlv110_0 ?_
      refine aw_n aj_d271 rfl rfl ?_
      refine aw_l0 aj_d271 rfl rfl hlv110_5 ?_
      refine aw_n aj_d271 rfl rfl ?_
      refine aw_sub aj_d271 rfl (a := x114.toInt) (b := (1 : Int)) rfl rfl (by omega) (by omega) (fun x172 ex172 => ?_)
      refine aw_n aj_d271 rfl rfl ?_
      refine aw_l0 aj_d271 rfl rfl hlv110_5 ?_
      refine aw_k hU.1 aj_d271 rfl rfl [_, _, _, _] rfl rfl rfl (Nat.le_of_ble_eq_true rfl) (ar_copyRow hU (hI117).1 (aw_G_B hI115.2).1 (by omega) (t := (Int8.ofInt 49).toInt32) (r := x172) (u := (Int8.ofInt 49).toInt32) (v := x114) (by decide) (by omega) (by decide) (by omega)) ?_
      rintro _ S173 ⟨hT173, fc173, rfl, sk173, kv173⟩
      have hG173 := aw_G_sk hI115.2 sk173 kv173
      have fr174 := aw_fr_tr fr116 (aw_fr_sub (F := []) (A := [17, 18, 19]) (by decide) (by decide) fc173)
      have hI175 : aw_I s h (aw_sm S173) S173 := ⟨hT173, aw_sm_rf⟩
      show aw_W _ _ _ _ 99 lv110 [] _ _
      refine aw_inc aj_d271 rfl hlv110_5 (a := x114.toInt) rfl (by omega) (by omega) (by decide) (by decide) (fun x176 ex176 => ?_)
      obtain ⟨lv177, elv177⟩ : ∃ l, l = aj_set1 lv110 5 (.int x176) := ⟨_, rfl⟩
      rw [← elv177]
      have hlv177_0 : aj_lv lv177 0 = some (.ref 117) := cw_e1 elv177 hlv110_0 (by decide) (Or.inl (by decide))
      have hlv177_1 : aj_lv lv177 1 = some (.int x111) := cw_e1 elv177 hlv110_1 (by decide) (Or.inl (by decide))
      have hlv177_2 : aj_lv lv177 2 = some (.int x112) := cw_e1 elv177 hlv110_2 (by decide) (Or.inl (by decide))
      have hlv177_3 : aj_lv lv177 3 = some (.int x113) := cw_e1 elv177 hlv110_3 (by decide) (Or.inl (by decide))
      have hlv177_5 : aj_lv lv177 5 = some (.int x176) := by rw [elv177]; exact ak_set1_eq _ _ _
      show aw_W _ _ _ _ 102 lv177 [] _ _
      refine aw_n aj_d271 rfl rfl ?_
      have c178 : (S173.1 30).toInt = (S109.1 30).toInt := (congrArg Int32.toInt (fc173.1 30 (by decide)).1).trans rfl
      have b179 : 0 ≤ (S173.1 30).toInt ∧ (S173.1 30).toInt ≤ 1001 := aw_bd_f hs (hI175).1 (by decide) rfl
      exact ihL79_107 S173 lv177 (x111) (x112) (x113) (x176) hlv177_0 hlv177_1 hlv177_2 hlv177_3 hlv177_5 ⟨(hI175).1, hG173⟩ fr174 (by omega) (by omega) (by omega) (by omega) (show _ ≤ ((S173.1 30)).toInt by omega) (by omega) (by rw [show (S173.2.2.1 14) = S109.2.2.1 14 from ((fc173.2 14 (by decide)).1.trans rfl)]; omega) (by omega)
theorem ar_comes_L168_216 (hU : aw_U tb s h) (hd : 3 ≤ d + 1) (N5 : Nat) (S7 : aj_S) (x9 : Int32) (x10 : Int32) (x11 : Int32) (x12 : Int32) (ihL5_5 : ∀ (S7 : aj_S) (lv8 : aj_V) (x9 : Int32) (x10 : Int32) (x11 : Int32) (x12 : Int32), (aj_lv lv8 0 = some (.ref 117)) → (aj_lv lv8 1 = some (.int x9)) → (aj_lv lv8 2 = some (.int x10)) → (aj_lv lv8 3 = some (.int x11)) → (aj_lv lv8 4 = some (.int x12)) → (aw_I s h (aw_G g) S7) → (aw_fr [] [14, 17, 18, 19] S S7) → (1 ≤ x9.toInt ∧ x9.toInt ≤ 7) → (0 ≤ x10.toInt ∧ x10.toInt ≤ 1023) → (0 ≤ x11.toInt ∧ x11.toInt ≤ 30) → ((-1) ≤ x12.toInt ∧ x12.toInt ≤ 1) → ((S.1 30).toInt + 0 ≤ (S7.1 30).toInt) → (x11.toInt ≤ (S7.2.2.1 14 49).toInt) → (x12.toInt < 0) → (30 - x11.toInt).toNat < N5 → aw_W tb h d aj_m271 5 lv8 [] S7 ((ar_QB s h [] [14, 17, 18, 19] S (fun S' => aw_G g S' ∧ (S.1 30).toInt ≤ (S'.1 30).toInt) (fun S' => aw_G g S' ∧ (S.1 30).toInt + 0 ≤ (S'.1 30).toInt)))) (hm5 : (30 - x11.toInt).toNat < N5 + 1) (N79 : Nat) (S188 : aj_S) (x190 : Int32) (x191 : Int32) (x192 : Int32) (x193 : Int32) (ihL79_186 : ∀ (S188 : aj_S) (lv189 : aj_V) (x190 : Int32) (x191 : Int32) (x192 : Int32) (x193 : Int32), (aj_lv lv189 0 = some (.ref 117)) → (aj_lv lv189 1 = some (.int x190)) → (aj_lv lv189 2 = some (.int x191)) → (aj_lv lv189 3 = some (.int x192)) → (aj_lv lv189 5 = some (.int x193)) → (aw_I s h (aw_G g) S188) → (aw_fr [] [14, 17, 18, 19] S S188) → (1 ≤ x190.toInt ∧ x190.toInt ≤ 7) → (0 ≤ x191.toInt ∧ x191.toInt ≤ 1023) → (0 ≤ x192.toInt ∧ x192.toInt ≤ 30) → (0 ≤ x193.toInt ∧ x193.toInt ≤ 29) → ((S.1 30).toInt + 0 ≤ (S188.1 30).toInt) → (x192.toInt ≤ x193.toInt) → ((S188.2.2.1 14 49).toInt ≤ 29) → (x193.toInt).toNat < N79 → aw_W tb h d aj_m271 79 lv189 [] S188 ((ar_QB s h [] [14, 17, 18, 19] S (fun S' => aw_G g S' ∧ (S.1 30).toInt ≤ (S'.1 30).toInt) (fun S' => aw_G g S' ∧ (S.1 30).toInt + 0 ≤ (S'.1 30).toInt)))) (hm79 : (x193.toInt).toNat < N79 + 1) (N119 : Nat) (S205 : aj_S) (x207 : Int32) (x208 : Int32) (x209 : Int32) (x210 : Int32) (ihL119_203 : ∀ (S205 : aj_S) (lv206 : aj_V) (x207 : Int32) (x208 : Int32) (x209 : Int32) (x210 : Int32), (aj_lv lv206 0 = some (.ref 117)) → (aj_lv lv206 1 = some (.int x207)) → (aj_lv lv206 2 = some (.int x208)) → (aj_lv lv206 3 = some (.int x209)) → (aj_lv lv206 5 = some (.int x210)) → (aw_I s h (aw_G g) S205) → (aw_fr [] [14, 17, 18, 19] S S205) → (1 ≤ x207.toInt ∧ x207.toInt ≤ 7) → (0 ≤ x208.toInt ∧ x208.toInt ≤ 1023) → (0 ≤ x209.toInt ∧ x209.toInt ≤ 29) → (0 ≤ x210.toInt ∧ x210.toInt ≤ 7) → ((S.1 30).toInt + 0 ≤ (S205.1 30).toInt) → (7 - x210.toInt).toNat < N119 → aw_W tb h d aj_m271 119 lv206 [] S205 ((ar_QB s h [] [14, 17, 18, 19] S (fun S' => aw_G g S' ∧ (S.1 30).toInt ≤ (S'.1 30).toInt) (fun S' => aw_G g S' ∧ (S.1 30).toInt + 0 ≤ (S'.1 30).toInt)))) (hm119 : (7 - x210.toInt).toNat < N119 + 1) : ∀ (N : Nat) (S218 : aj_S) (lv219 : aj_V) (x220 : Int32) (x221 : Int32) (x222 : Int32), (aj_lv lv219 0 = some (.ref 117)) → (aj_lv lv219 2 = some (.int x220)) → (aj_lv lv219 3 = some (.int x221)) → (aj_lv lv219 5 = some (.int x222)) → (aw_I s h (aw_G g) S218) → (aw_fr [] [14, 17, 18, 19] S S218) → (0 ≤ x220.toInt ∧ x220.toInt ≤ 1023) → (0 ≤ x221.toInt ∧ x221.toInt ≤ 29) → (0 ≤ x222.toInt ∧ x222.toInt ≤ 32) → ((S.1 30).toInt + 0 ≤ (S218.1 30).toInt) → (32 - x222.toInt).toNat < N → aw_W tb h d aj_m271 168 lv219 [] S218 ((ar_QB s h [] [14, 17, 18, 19] S (fun S' => aw_G g S' ∧ (S.1 30).toInt ≤ (S'.1 30).toInt) (fun S' => aw_G g S' ∧ (S.1 30).toInt + 0 ≤ (S'.1 30).toInt))) := by
  have hs : aw_sT s := aw_hy_sT hU.2.2
  intro N168
  induction N168 with
  | zero =>
    intro S218 lv219 x220 x221 x222 hlv219_0 hlv219_2 hlv219_3 hlv219_5 hI223 fr224 bx220 bx221 bx222 ck168 hm168
    omega
  | succ N168 ihL168_216 =>
    intro S218 lv219 x220 x221 x222 hlv219_0 hlv219_2 hlv219_3 hlv219_5 hI223 fr224 bx220 bx221 bx222 ck168 hm168
    have hI225 : aw_I s h (aw_sm S218) S218 := ⟨hI223.1, aw_sm_rf⟩
    have b226 : 0 ≤ (S218.1 30).toInt ∧ (S218.1 30).toInt ≤ 1001 := aw_bd_f hs (hI225).1 (by decide) rfl
    refine aw_l0 aj_d271 rfl rfl hlv219_5 ?_
    refine aw_n aj_d271 rfl rfl ?_
    refine aw_c (tgt := 197) aj_d271 rfl rfl (fun q227 => ?_) (fun q227 => ?_)
    · have q227 : x222.toInt ≥ (32 : Int) := aw_t_ge (a := x222.toInt) (b := (32 : Int)) rfl rfl q227
      refine aw_l2 aj_d271 rfl rfl hlv219_0 ?_
      refine aw_g hU.1 aj_d271 rfl rfl (by decide) (v := .ref 136) rfl ?_
      refine aw_l2 aj_d271 rfl rfl hlv219_0 ?_
      refine aw_n aj_d271 rfl rfl ?_
      refine aw_l0 aj_d271 rfl rfl hlv219_3 ?_
      refine aw_k hU.1 aj_d271 rfl rfl [_, _] rfl rfl rfl (Nat.le_of_ble_eq_true rfl) (ar_at (by omega) (a := (49 : Int)) (b := x221.toInt) rfl rfl (by omega) (by omega)) ?_
      rintro _ zx228 ⟨fx228, x228, rfl, ex228⟩
      rw [fx228]
      show aw_W _ _ _ _ 208 lv219 [.int x228, .ref 136] _ _
      refine aw_l0 aj_d271 rfl rfl hlv219_2 ?_
      refine aw_n aj_d271 rfl rfl ?_
      refine aw_ks aj_d271 rfl rfl rfl [_, _, _, _] rfl rfl (Nat.le_of_ble_eq_true rfl) (ar_put hU (hI225).1 (by omega) (k := 19) (n := 48000) (by decide) (by decide) rfl rfl (a := (((49 : Int) * 30 + x221.toInt) * 32)) (b := x220.toInt) ex228 rfl (by omega) (by omega) (by omega) (by decide)) ?_
      rintro _ S229 ⟨hT229, fc229, rfl, pe229⟩
      have fr230 := aw_fr_tr fr224 (aw_fr_sub (F := []) (A := [19]) (by decide) (by decide) fc229)
      have hI231 : aw_I s h (aw_sm S218) S229 := ⟨hT229, aw_sm_tr hI225.2 (aw_fr_sm (by decide) (by decide) (by decide) (F := []) (A := [19]) fc229)⟩
      show aw_W _ _ _ _ 213 lv219 [] _ _
      refine aw_n aj_d271 rfl rfl ?_
      refine aw_e aj_d271 rfl rfl ?_
      have c232 : (S229.1 30).toInt = (S218.1 30).toInt := (congrArg Int32.toInt (fc229.1 30 (by decide)).1).trans rfl
      have b233 : 0 ≤ (S229.1 30).toInt ∧ (S229.1 30).toInt ≤ 1001 := aw_bd_f hs (hI231).1 (by decide) rfl
      exact ⟨(hI231).1, fr230, Or.inr ⟨_, rfl, rfl, (aw_G_sm hI231.2 hI223.2), (show _ + 0 ≤ ((S229.1 30)).toInt by omega)⟩⟩
    · have q227 : x222.toInt < (32 : Int) := aw_t_ge (a := x222.toInt) (b := (32 : Int)) rfl rfl q227
      refine aw_l2 aj_d271 rfl rfl hlv219_0 ?_
      refine aw_g hU.1 aj_d271 rfl rfl (by decide) (v := .ref 136) rfl ?_
      refine aw_l2 aj_d271 rfl rfl hlv219_0 ?_
      refine aw_n aj_d271 rfl rfl ?_
      refine aw_l0 aj_d271 rfl rfl hlv219_3 ?_
      refine aw_k hU.1 aj_d271 rfl rfl [_, _] rfl rfl rfl (Nat.le_of_ble_eq_true rfl) (ar_at (by omega) (a := (49 : Int)) (b := x221.toInt) rfl rfl (by omega) (by omega)) ?_
      rintro _ zx234 ⟨fx234, x234, rfl, ex234⟩
      rw [fx234]
      show aw_W _ _ _ _ 186 lv219 [.int x234, .ref 136] _ _
      refine aw_l0 aj_d271 rfl rfl hlv219_5 ?_
      refine aw_add aj_d271 rfl (a := (((49 : Int) * 30 + x221.toInt) * 32)) (b := x222.toInt) ex234 rfl (by omega) (by omega) (fun x235 ex235 => ?_)
      refine aw_n aj_d271 rfl rfl ?_
      refine aw_st (k := 19) hU.1 aj_d271 (Or.inl ⟨rfl, rfl⟩) rfl (by decide) (by decide) rfl (a := x235.toInt) rfl (by omega) (by omega) ?_
      have hI236 := aw_I_a (aw_UV hU aw_Gs_sm) (k := 19) (j := (x235.toInt).toNat) (v := aj_nar 0 (Int32.ofInt 0)) hI225 (by decide) (by decide) (by decide) rfl (by decide) (by decide) rfl (aw_full _)
      have fr237 := aw_fr_a (k := 19) (j := (x235.toInt).toNat) (v := aj_nar 0 (Int32.ofInt 0)) (by decide) fr224
      refine aw_inc aj_d271 rfl hlv219_5 (a := x222.toInt) rfl (by omega) (by omega) (by decide) (by decide) (fun x238 ex238 => ?_)
      obtain ⟨lv239, elv239⟩ : ∃ l, l = aj_set1 lv219 5 (.int x238) := ⟨_, rfl⟩
      rw [← elv239]
      have hlv239_0 : aj_lv lv239 0 = some (.ref 117) := cw_e1 elv239 hlv219_0 (by decide) (Or.inl (by decide))
      have hlv239_2 : aj_lv lv239 2 = some (.int x220) := cw_e1 elv239 hlv219_2 (by decide) (Or.inl (by decide))
      have hlv239_3 : aj_lv lv239 3 = some (.int x221) := cw_e1 elv239 hlv219_3 (by decide) (Or.inl (by decide))
      have hlv239_5 : aj_lv lv239 5 = some (.int x238) := by rw [elv239]; exact ak_set1_eq _ _ _
      show aw_W _ _ _ _ 194 lv239 [] _ _
      refine aw_n aj_d271 rfl rfl ?_
      exact ihL168_216 (aw_wa S218 19 (x235.toInt).toNat (aj_nar 0 (Int32.ofInt 0))) lv239 (x220) (x221) (x238) hlv239_0 hlv239_2 hlv239_3 hlv239_5 ⟨(hI236).1, (aw_G_sm hI236.2 hI223.2)⟩ fr237 (by omega) (by omega) (by omega) (show _ ≤ ((S218.1 30)).toInt by omega) (by omega)
theorem ar_comes_L119_203 (hU : aw_U tb s h) (hd : 3 ≤ d + 1) (N5 : Nat) (S7 : aj_S) (x9 : Int32) (x10 : Int32) (x11 : Int32) (x12 : Int32) (ihL5_5 : ∀ (S7 : aj_S) (lv8 : aj_V) (x9 : Int32) (x10 : Int32) (x11 : Int32) (x12 : Int32), (aj_lv lv8 0 = some (.ref 117)) → (aj_lv lv8 1 = some (.int x9)) → (aj_lv lv8 2 = some (.int x10)) → (aj_lv lv8 3 = some (.int x11)) → (aj_lv lv8 4 = some (.int x12)) → (aw_I s h (aw_G g) S7) → (aw_fr [] [14, 17, 18, 19] S S7) → (1 ≤ x9.toInt ∧ x9.toInt ≤ 7) → (0 ≤ x10.toInt ∧ x10.toInt ≤ 1023) → (0 ≤ x11.toInt ∧ x11.toInt ≤ 30) → ((-1) ≤ x12.toInt ∧ x12.toInt ≤ 1) → ((S.1 30).toInt + 0 ≤ (S7.1 30).toInt) → (x11.toInt ≤ (S7.2.2.1 14 49).toInt) → (x12.toInt < 0) → (30 - x11.toInt).toNat < N5 → aw_W tb h d aj_m271 5 lv8 [] S7 ((ar_QB s h [] [14, 17, 18, 19] S (fun S' => aw_G g S' ∧ (S.1 30).toInt ≤ (S'.1 30).toInt) (fun S' => aw_G g S' ∧ (S.1 30).toInt + 0 ≤ (S'.1 30).toInt)))) (hm5 : (30 - x11.toInt).toNat < N5 + 1) (N79 : Nat) (S188 : aj_S) (x190 : Int32) (x191 : Int32) (x192 : Int32) (x193 : Int32) (ihL79_186 : ∀ (S188 : aj_S) (lv189 : aj_V) (x190 : Int32) (x191 : Int32) (x192 : Int32) (x193 : Int32), (aj_lv lv189 0 = some (.ref 117)) → (aj_lv lv189 1 = some (.int x190)) → (aj_lv lv189 2 = some (.int x191)) → (aj_lv lv189 3 = some (.int x192)) → (aj_lv lv189 5 = some (.int x193)) → (aw_I s h (aw_G g) S188) → (aw_fr [] [14, 17, 18, 19] S S188) → (1 ≤ x190.toInt ∧ x190.toInt ≤ 7) → (0 ≤ x191.toInt ∧ x191.toInt ≤ 1023) → (0 ≤ x192.toInt ∧ x192.toInt ≤ 30) → (0 ≤ x193.toInt ∧ x193.toInt ≤ 29) → ((S.1 30).toInt + 0 ≤ (S188.1 30).toInt) → (x192.toInt ≤ x193.toInt) → ((S188.2.2.1 14 49).toInt ≤ 29) → (x193.toInt).toNat < N79 → aw_W tb h d aj_m271 79 lv189 [] S188 ((ar_QB s h [] [14, 17, 18, 19] S (fun S' => aw_G g S' ∧ (S.1 30).toInt ≤ (S'.1 30).toInt) (fun S' => aw_G g S' ∧ (S.1 30).toInt + 0 ≤ (S'.1 30).toInt)))) (hm79 : (x193.toInt).toNat < N79 + 1) : ∀ (N : Nat) (S205 : aj_S) (lv206 : aj_V) (x207 : Int32) (x208 : Int32) (x209 : Int32) (x210 : Int32), (aj_lv lv206 0 = some (.ref 117)) → (aj_lv lv206 1 = some (.int x207)) → (aj_lv lv206 2 = some (.int x208)) → (aj_lv lv206 3 = some (.int x209)) → (aj_lv lv206 5 = some (.int x210)) → (aw_I s h (aw_G g) S205) → (aw_fr [] [14, 17, 18, 19] S S205) → (1 ≤ x207.toInt ∧ x207.toInt ≤ 7) → (0 ≤ x208.toInt ∧ x208.toInt ≤ 1023) → (0 ≤ x209.toInt ∧ x209.toInt ≤ 29) → (0 ≤ x210.toInt ∧ x210.toInt ≤ 7) → ((S.1 30).toInt + 0 ≤ (S205.1 30).toInt) → (7 - x210.toInt).toNat < N → aw_W tb h d aj_m271 119 lv206 [] S205 ((ar_QB s h [] [14, 17, 18, 19] S (fun S' => aw_G g S' ∧ (S.1 30).toInt ≤ (S'.1 30).toInt) (fun S' => aw_G g S' ∧ (S.1 30).toInt + 0 ≤ (S'.1 30).toInt))) := by
  have hs : aw_sT s := aw_hy_sT hU.2.2
  intro N119
  induction N119 with
  | zero =>
    intro S205 lv206 x207 x208 x209 x210 hlv206_0 hlv206_1 hlv206_2 hlv206_3 hlv206_5 hI211 fr212 bx207 bx208 bx209 bx210 ck119 hm119
    omega
  | succ N119 ihL119_203 =>
    intro S205 lv206 x207 x208 x209 x210 hlv206_0 hlv206_1 hlv206_2 hlv206_3 hlv206_5 hI211 fr212 bx207 bx208 bx209 bx210 ck119 hm119
    have hI213 : aw_I s h (aw_sm S205) S205 := ⟨hI211.1, aw_sm_rf⟩
    have b214 : 0 ≤ (S205.1 30).toInt ∧ (S205.1 30).toInt ≤ 1001 := aw_bd_f hs (hI213).1 (by decide) rfl
    refine aw_l0 aj_d271 rfl rfl hlv206_5 ?_
    refine aw_l0 aj_d271 rfl rfl hlv206_1 ?_
    refine aw_c (tgt := 165) aj_d271 rfl rfl (fun q215 => ?_) (fun q215 => ?_)
    · have q215 : x210.toInt ≥ x207.toInt := aw_t_ge (a := x210.toInt) (b := x207.toInt) rfl rfl q215
      refine aw_n aj_d271 rfl rfl ?_
      refine aw_t0 (j := 5) aj_d271 rfl (by decide) rfl ?_
      obtain ⟨lv216, elv216⟩ : ∃ l, l = aj_set1 lv206 5 (.int (Int32.ofInt 0)) := ⟨_, rfl⟩
      rw [← elv216]
      have hlv216_0 : aj_lv lv216 0 = some (.ref 117) := cw_e1 elv216 hlv206_0 (by decide) (Or.inl (by decide))
      have hlv216_2 : aj_lv lv216 2 = some (.int x208) := cw_e1 elv216 hlv206_2 (by decide) (Or.inl (by decide))
      have hlv216_3 : aj_lv lv216 3 = some (.int x209) := cw_e1 elv216 hlv206_3 (by decide) (Or.inl (by decide))
      have hlv216_5 : aj_lv lv216 5 = some (.int (Int32.ofInt 0)) := by rw [elv216]; exact ak_set1_eq _ _ _
      show aw_W _ _ _ _ 168 lv216 [] _ _
      exact (ar_comes_L168_216 hU hd N5 S7 x9 x10 x11 x12 ihL5_5 hm5 N79 S188 x190 x191 x192 x193 ihL79_186 hm79 N119 S205 x207 x208 x209 x210 ihL119_203 hm119) _ S205 lv216 (x208) (x209) ((Int32.ofInt 0)) hlv216_0 hlv216_2 hlv216_3 hlv216_5 ⟨(hI213).1, hI211.2⟩ fr212 (by omega) (by omega) (by first | omega | decide) (show _ ≤ ((S205.1 30)).toInt by omega) (Nat.lt_succ_self _)
    · have q215 : x210.toInt < x207.toInt := aw_t_ge (a := x210.toInt) (b := x207.toInt) rfl rfl q215
      refine aw_l2 aj_d271 rfl rfl hlv206_0 ?_
      refine aw_g hU.1 aj_d271 rfl rfl (by decide) (v := .ref 134) rfl ?_
      refine aw_n aj_d271 rfl rfl ?_
      refine aw_l0 aj_d271 rfl rfl hlv206_3 ?_
      refine aw_l0 aj_d271 rfl rfl hlv206_5 ?_
      refine aw_ks aj_d271 rfl rfl rfl [_, _, _] rfl rfl (Nat.le_of_ble_eq_true rfl) (ar_cellAt (by omega) (a := (49 : Int)) (b := x209.toInt) (c := x210.toInt) rfl rfl rfl (by omega) (by omega) (by omega)) ?_
      rintro _ zx240 ⟨fx240, x240, rfl, ex240⟩
      rw [fx240]
      show aw_W _ _ _ _ 137 lv206 [.int x240, .ref 134] _ _
      refine aw_n aj_d271 rfl rfl ?_
      refine aw_st (k := 17) hU.1 aj_d271 (Or.inr (Or.inr (Or.inr ⟨rfl, rfl⟩))) rfl (by decide) (by decide) rfl (a := (((49 : Int) * 30 + x209.toInt) * 8 + x210.toInt)) ex240 (by omega) (by omega) ?_
      have hI241 : aw_I s h (aw_sm (aw_wa S205 17 ((((49 : Int) * 30 + x209.toInt) * 8 + x210.toInt)).toNat (aj_nar 4 (Int32.ofInt 0)))) (aw_wa S205 17 ((((49 : Int) * 30 + x209.toInt) * 8 + x210.toInt)).toNat (aj_nar 4 (Int32.ofInt 0))) := ⟨aw_T_a hU.2.1 hs hU.1.1 (hI213).1 (by decide) (by decide) rfl (by decide) (by decide) rfl (aw_nar4 (aw_bp (a := (0 : Int)) rfl (by omega) (by omega)) (by decide) (by decide)), aw_sm_rf⟩
      have fr242 := aw_fr_a (k := 17) (j := ((((49 : Int) * 30 + x209.toInt) * 8 + x210.toInt)).toNat) (v := aj_nar 4 (Int32.ofInt 0)) (by decide) fr212
      refine aw_l2 aj_d271 rfl rfl hlv206_0 ?_
      refine aw_g hU.1 aj_d271 rfl rfl (by decide) (v := .ref 135) rfl ?_
      refine aw_n aj_d271 rfl rfl ?_
      refine aw_l0 aj_d271 rfl rfl hlv206_3 ?_
      refine aw_l0 aj_d271 rfl rfl hlv206_5 ?_
      refine aw_ks aj_d271 rfl rfl rfl [_, _, _] rfl rfl (Nat.le_of_ble_eq_true rfl) (ar_cellAt (by omega) (a := (49 : Int)) (b := x209.toInt) (c := x210.toInt) rfl rfl rfl (by omega) (by omega) (by omega)) ?_
      rintro _ zx243 ⟨fx243, x243, rfl, ex243⟩
      rw [fx243]
      show aw_W _ _ _ _ 151 lv206 [.int x243, .ref 135] _ _
      refine aw_l2 aj_d271 rfl rfl hlv206_0 ?_
      refine aw_g hU.1 aj_d271 rfl rfl (by decide) (v := .ref 144) rfl ?_
      refine aw_l0 aj_d271 rfl rfl hlv206_5 ?_
      refine aw_ld (k := 27) hU.1 aj_d271 (Or.inl ⟨rfl, rfl⟩) rfl (by decide) (by decide) rfl (a := x210.toInt) rfl (by omega) (by omega) (fun x244 ex244 => ?_)
      refine aw_st (k := 18) hU.1 aj_d271 (Or.inl ⟨rfl, rfl⟩) rfl (by decide) (by decide) rfl (a := (((49 : Int) * 30 + x209.toInt) * 8 + x210.toInt)) ex243 (by omega) (by omega) ?_
      have hI245 : aw_I s h (aw_sm (aw_wa (aw_wa S205 17 ((((49 : Int) * 30 + x209.toInt) * 8 + x210.toInt)).toNat (aj_nar 4 (Int32.ofInt 0))) 18 ((((49 : Int) * 30 + x209.toInt) * 8 + x210.toInt)).toNat (aj_nar 0 x244))) (aw_wa (aw_wa S205 17 ((((49 : Int) * 30 + x209.toInt) * 8 + x210.toInt)).toNat (aj_nar 4 (Int32.ofInt 0))) 18 ((((49 : Int) * 30 + x209.toInt) * 8 + x210.toInt)).toNat (aj_nar 0 x244)) := ⟨aw_T_a hU.2.1 hs hU.1.1 (hI241).1 (by decide) (by decide) rfl (by decide) (by decide) rfl (aw_full _), aw_sm_rf⟩
      have fr246 := aw_fr_a (k := 18) (j := ((((49 : Int) * 30 + x209.toInt) * 8 + x210.toInt)).toNat) (v := aj_nar 0 x244) (by decide) fr242
      have hG247 := aw_G_sk (S' := (aw_wa (aw_wa S205 17 ((((49 : Int) * 30 + x209.toInt) * 8 + x210.toInt)).toNat (aj_nar 4 (Int32.ofInt 0))) 18 ((((49 : Int) * 30 + x209.toInt) * 8 + x210.toInt)).toNat (aj_nar 0 x244))) hI211.2 (aw_sk_2 aw_sk_rf) (aw_kv_2 (aw_G_B hI211.2).1 (by first | rfl | (congr 1) | omega) (fun z => absurd z (by decide)))
      have hI248 : aw_I s h (aw_sm (aw_wa (aw_wa S205 17 ((((49 : Int) * 30 + x209.toInt) * 8 + x210.toInt)).toNat (aj_nar 4 (Int32.ofInt 0))) 18 ((((49 : Int) * 30 + x209.toInt) * 8 + x210.toInt)).toNat (aj_nar 0 x244))) (aw_wa (aw_wa S205 17 ((((49 : Int) * 30 + x209.toInt) * 8 + x210.toInt)).toNat (aj_nar 4 (Int32.ofInt 0))) 18 ((((49 : Int) * 30 + x209.toInt) * 8 + x210.toInt)).toNat (aj_nar 0 x244)) := ⟨(hI245).1, aw_sm_rf⟩
      refine aw_inc aj_d271 rfl hlv206_5 (a := x210.toInt) rfl (by omega) (by omega) (by decide) (by decide) (fun x249 ex249 => ?_)
      obtain ⟨lv250, elv250⟩ : ∃ l, l = aj_set1 lv206 5 (.int x249) := ⟨_, rfl⟩
      rw [← elv250]
      have hlv250_0 : aj_lv lv250 0 = some (.ref 117) := cw_e1 elv250 hlv206_0 (by decide) (Or.inl (by decide))
      have hlv250_1 : aj_lv lv250 1 = some (.int x207) := cw_e1 elv250 hlv206_1 (by decide) (Or.inl (by decide))
      have hlv250_2 : aj_lv lv250 2 = some (.int x208) := cw_e1 elv250 hlv206_2 (by decide) (Or.inl (by decide))
      have hlv250_3 : aj_lv lv250 3 = some (.int x209) := cw_e1 elv250 hlv206_3 (by decide) (Or.inl (by decide))
      have hlv250_5 : aj_lv lv250 5 = some (.int x249) := by rw [elv250]; exact ak_set1_eq _ _ _
      show aw_W _ _ _ _ 162 lv250 [] _ _
      refine aw_n aj_d271 rfl rfl ?_
      exact ihL119_203 (aw_wa (aw_wa S205 17 ((((49 : Int) * 30 + x209.toInt) * 8 + x210.toInt)).toNat (aj_nar 4 (Int32.ofInt 0))) 18 ((((49 : Int) * 30 + x209.toInt) * 8 + x210.toInt)).toNat (aj_nar 0 x244)) lv250 (x207) (x208) (x209) (x249) hlv250_0 hlv250_1 hlv250_2 hlv250_3 hlv250_5 ⟨(hI248).1, hG247⟩ fr246 (by omega) (by omega) (by omega) (by omega) (show _ ≤ ((S205.1 30)).toInt by omega) (by omega)
theorem ar_comes_L79_186 (hU : aw_U tb s h) (hd : 3 ≤ d + 1) (N5 : Nat) (S7 : aj_S) (x9 : Int32) (x10 : Int32) (x11 : Int32) (x12 : Int32) (ihL5_5 : ∀ (S7 : aj_S) (lv8 : aj_V) (x9 : Int32) (x10 : Int32) (x11 : Int32) (x12 : Int32), (aj_lv lv8 0 = some (.ref 117)) → (aj_lv lv8 1 = some (.int x9)) → (aj_lv lv8 2 = some (.int x10)) → (aj_lv lv8 3 = some (.int x11)) → (aj_lv lv8 4 = some (.int x12)) → (aw_I s h (aw_G g) S7) → (aw_fr [] [14, 17, 18, 19] S S7) → (1 ≤ x9.toInt ∧ x9.toInt ≤ 7) → (0 ≤ x10.toInt ∧ x10.toInt ≤ 1023) → (0 ≤ x11.toInt ∧ x11.toInt ≤ 30) → ((-1) ≤ x12.toInt ∧ x12.toInt ≤ 1) → ((S.1 30).toInt + 0 ≤ (S7.1 30).toInt) → (x11.toInt ≤ (S7.2.2.1 14 49).toInt) → (x12.toInt < 0) → (30 - x11.toInt).toNat < N5 → aw_W tb h d aj_m271 5 lv8 [] S7 ((ar_QB s h [] [14, 17, 18, 19] S (fun S' => aw_G g S' ∧ (S.1 30).toInt ≤ (S'.1 30).toInt) (fun S' => aw_G g S' ∧ (S.1 30).toInt + 0 ≤ (S'.1 30).toInt)))) (hm5 : (30 - x11.toInt).toNat < N5 + 1) : ∀ (N : Nat) (S188 : aj_S) (lv189 : aj_V) (x190 : Int32) (x191 : Int32) (x192 : Int32) (x193 : Int32), (aj_lv lv189 0 = some (.ref 117)) → (aj_lv lv189 1 = some (.int x190)) → (aj_lv lv189 2 = some (.int x191)) → (aj_lv lv189 3 = some (.int x192)) → (aj_lv lv189 5 = some (.int x193)) → (aw_I s h (aw_G g) S188) → (aw_fr [] [14, 17, 18, 19] S S188) → (1 ≤ x190.toInt ∧ x190.toInt ≤ 7) → (0 ≤ x191.toInt ∧ x191.toInt ≤ 1023) → (0 ≤ x192.toInt ∧ x192.toInt ≤ 30) → (0 ≤ x193.toInt ∧ x193.toInt ≤ 29) → ((S.1 30).toInt + 0 ≤ (S188.1 30).toInt) → (x192.toInt ≤ x193.toInt) → ((S188.2.2.1 14 49).toInt ≤ 29) → (x193.toInt).toNat < N → aw_W tb h d aj_m271 79 lv189 [] S188 ((ar_QB s h [] [14, 17, 18, 19] S (fun S' => aw_G g S' ∧ (S.1 30).toInt ≤ (S'.1 30).toInt) (fun S' => aw_G g S' ∧ (S.1 30).toInt + 0 ≤ (S'.1 30).toInt))) := by
  have hs : aw_sT s := aw_hy_sT hU.2.2
  intro N79
  induction N79 with
  | zero =>
    intro S188 lv189 x190 x191 x192 x193 hlv189_0 hlv189_1 hlv189_2 hlv189_3 hlv189_5 hI194 fr195 bx190 bx191 bx192 bx193 ck79 k79 r79 hm79
    omega
  | succ N79 ihL79_186 =>
    intro S188 lv189 x190 x191 x192 x193 hlv189_0 hlv189_1 hlv189_2 hlv189_3 hlv189_5 hI194 fr195 bx190 bx191 bx192 bx193 ck79 k79 r79 hm79
    have hI196 : aw_I s h (aw_sm S188) S188 := ⟨hI194.1, aw_sm_rf⟩
    have b197 : 0 ≤ (S188.1 30).toInt ∧ (S188.1 30).toInt ≤ 1001 := aw_bd_f hs (hI196).1 (by decide) rfl
    refine aw_l0 aj_d271 rfl rfl hlv189_5 ?_
    refine aw_l0 aj_d271 rfl rfl hlv189_3 ?_
    refine aw_c (tgt := 105) aj_d271 rfl rfl (fun q198 => ?_) (fun q198 => ?_)
    · have q198 : x193.toInt ≤ x192.toInt := aw_t_le (a := x193.toInt) (b := x192.toInt) rfl rfl q198
      refine aw_l2 aj_d271 rfl rfl hlv189_0 ?_
      refine aw_g hU.1 aj_d271 rfl rfl (by decide) (v := .ref 131) rfl ?_
      refine aw_n aj_d271 rfl rfl ?_
      refine aw_n aj_d271 rfl rfl ?_
      refine aw_ld (k := 14) hU.1 aj_d271 (Or.inl ⟨rfl, rfl⟩) rfl (by decide) (by decide) rfl (a := (49 : Int)) rfl (by omega) (by omega) (fun x199 ex199 => ?_)
      have bx199 : 0 ≤ x199.toInt ∧ x199.toInt ≤ 30 := by
        rw [ex199]
        exact aw_bd_a hs (hI196).1 (k := 14) (by decide) (by decide) rfl (by decide) rfl (by omega)
      have ftx199 : x199.toInt = (S188.2.2.1 14 49).toInt := congrArg Int32.toInt (ex199.trans (congrFun rfl _))
      refine aw_n aj_d271 rfl rfl ?_
      refine aw_add aj_d271 rfl (a := x199.toInt) (b := (1 : Int)) rfl rfl (by omega) (by omega) (fun x200 ex200 => ?_)
      refine aw_st (k := 14) hU.1 aj_d271 (Or.inl ⟨rfl, rfl⟩) rfl (by decide) (by decide) rfl (a := (49 : Int)) rfl (by omega) (by omega) ?_
      have hI201 := aw_I_a (aw_UV hU aw_Gs_sm) (k := 14) (j := ((49 : Int)).toNat) (v := aj_nar 0 x200) hI196 (by decide) (by decide) (by decide) rfl (by decide) (by decide) rfl (aw_bp (a := x200.toInt) rfl (by omega) (by omega))
      have fr202 := aw_fr_a (k := 14) (j := ((49 : Int)).toNat) (v := aj_nar 0 x200) (by decide) fr195
      refine aw_n aj_d271 rfl rfl ?_
      refine aw_t0 (j := 5) aj_d271 rfl (by decide) rfl ?_
      obtain ⟨lv203, elv203⟩ : ∃ l, l = aj_set1 lv189 5 (.int (Int32.ofInt 0)) := ⟨_, rfl⟩
      rw [← elv203]
      have hlv203_0 : aj_lv lv203 0 = some (.ref 117) := cw_e1 elv203 hlv189_0 (by decide) (Or.inl (by decide))
      have hlv203_1 : aj_lv lv203 1 = some (.int x190) := cw_e1 elv203 hlv189_1 (by decide) (Or.inl (by decide))
      have hlv203_2 : aj_lv lv203 2 = some (.int x191) := cw_e1 elv203 hlv189_2 (by decide) (Or.inl (by decide))
      have hlv203_3 : aj_lv lv203 3 = some (.int x192) := cw_e1 elv203 hlv189_3 (by decide) (Or.inl (by decide))
      have hlv203_5 : aj_lv lv203 5 = some (.int (Int32.ofInt 0)) := by rw [elv203]; exact ak_set1_eq _ _ _
      show aw_W _ _ _ _ 119 lv203 [] _ _
      exact (ar_comes_L119_203 hU hd N5 S7 x9 x10 x11 x12 ihL5_5 hm5 N79 S188 x190 x191 x192 x193 ihL79_186 hm79) _ (aw_wa S188 14 ((49 : Int)).toNat (aj_nar 0 x200)) lv203 (x190) (x191) (x192) ((Int32.ofInt 0)) hlv203_0 hlv203_1 hlv203_2 hlv203_3 hlv203_5 ⟨(hI201).1, (aw_G_sm hI201.2 hI194.2)⟩ fr202 (by omega) (by omega) (by omega) (by first | omega | decide) (show _ ≤ ((S188.1 30)).toInt by omega) (Nat.lt_succ_self _)
    · have q198 : x193.toInt > x192.toInt := aw_t_le (a := x193.toInt) (b := x192.toInt) rfl rfl q198
      refine aw_l2 aj_d271 rfl rfl hlv189_0 ?_
      refine aw_n aj_d271 rfl rfl ?_
      refine aw_l0 aj_d271 rfl rfl hlv189_5 ?_
      refine aw_n aj_d271 rfl rfl ?_
      refine aw_sub aj_d271 rfl (a := x193.toInt) (b := (1 : Int)) rfl rfl (by omega) (by omega) (fun x251 ex251 => ?_)
      refine aw_n aj_d271 rfl rfl ?_
      refine aw_l0 aj_d271 rfl rfl hlv189_5 ?_
      refine aw_k hU.1 aj_d271 rfl rfl [_, _, _, _] rfl rfl rfl (Nat.le_of_ble_eq_true rfl) (ar_copyRow hU (hI196).1 (aw_G_B hI194.2).1 (by omega) (t := (Int8.ofInt 49).toInt32) (r := x251) (u := (Int8.ofInt 49).toInt32) (v := x193) (by decide) (by omega) (by decide) (by omega)) ?_
      rintro _ S252 ⟨hT252, fc252, rfl, sk252, kv252⟩
      have hG252 := aw_G_sk hI194.2 sk252 kv252
      have fr253 := aw_fr_tr fr195 (aw_fr_sub (F := []) (A := [17, 18, 19]) (by decide) (by decide) fc252)
      have hI254 : aw_I s h (aw_sm S252) S252 := ⟨hT252, aw_sm_rf⟩
      show aw_W _ _ _ _ 99 lv189 [] _ _
      refine aw_inc aj_d271 rfl hlv189_5 (a := x193.toInt) rfl (by omega) (by omega) (by decide) (by decide) (fun x255 ex255 => ?_)
      obtain ⟨lv256, elv256⟩ : ∃ l, l = aj_set1 lv189 5 (.int x255) := ⟨_, rfl⟩
      rw [← elv256]
      have hlv256_0 : aj_lv lv256 0 = some (.ref 117) := cw_e1 elv256 hlv189_0 (by decide) (Or.inl (by decide))
      have hlv256_1 : aj_lv lv256 1 = some (.int x190) := cw_e1 elv256 hlv189_1 (by decide) (Or.inl (by decide))
      have hlv256_2 : aj_lv lv256 2 = some (.int x191) := cw_e1 elv256 hlv189_2 (by decide) (Or.inl (by decide))
      have hlv256_3 : aj_lv lv256 3 = some (.int x192) := cw_e1 elv256 hlv189_3 (by decide) (Or.inl (by decide))
      have hlv256_5 : aj_lv lv256 5 = some (.int x255) := by rw [elv256]; exact ak_set1_eq _ _ _
      show aw_W _ _ _ _ 102 lv256 [] _ _
      refine aw_n aj_d271 rfl rfl ?_
      have c257 : (S252.1 30).toInt = (S188.1 30).toInt := (congrArg Int32.toInt (fc252.1 30 (by decide)).1).trans rfl
      have b258 : 0 ≤ (S252.1 30).toInt ∧ (S252.1 30).toInt ≤ 1001 := aw_bd_f hs (hI254).1 (by decide) rfl
      exact ihL79_186 S252 lv256 (x190) (x191) (x192) (x255) hlv256_0 hlv256_1 hlv256_2 hlv256_3 hlv256_5 ⟨(hI254).1, hG252⟩ fr253 (by omega) (by omega) (by omega) (by omega) (show _ ≤ ((S252.1 30)).toInt by omega) (by omega) (by rw [show (S252.2.2.1 14) = S188.2.2.1 14 from ((fc252.2 14 (by decide)).1.trans rfl)]; omega) (by omega)
theorem ar_comes_L168_299 (hU : aw_U tb s h) (hd : 3 ≤ d + 1) (N5 : Nat) (S7 : aj_S) (x9 : Int32) (x10 : Int32) (x11 : Int32) (x12 : Int32) (ihL5_5 : ∀ (S7 : aj_S) (lv8 : aj_V) (x9 : Int32) (x10 : Int32) (x11 : Int32) (x12 : Int32), (aj_lv lv8 0 = some (.ref 117)) → (aj_lv lv8 1 = some (.int x9)) → (aj_lv lv8 2 = some (.int x10)) → (aj_lv lv8 3 = some (.int x11)) → (aj_lv lv8 4 = some (.int x12)) → (aw_I s h (aw_G g) S7) → (aw_fr [] [14, 17, 18, 19] S S7) → (1 ≤ x9.toInt ∧ x9.toInt ≤ 7) → (0 ≤ x10.toInt ∧ x10.toInt ≤ 1023) → (0 ≤ x11.toInt ∧ x11.toInt ≤ 30) → ((-1) ≤ x12.toInt ∧ x12.toInt ≤ 1) → ((S.1 30).toInt + 0 ≤ (S7.1 30).toInt) → (x11.toInt ≤ (S7.2.2.1 14 49).toInt) → (x12.toInt < 0) → (30 - x11.toInt).toNat < N5 → aw_W tb h d aj_m271 5 lv8 [] S7 ((ar_QB s h [] [14, 17, 18, 19] S (fun S' => aw_G g S' ∧ (S.1 30).toInt ≤ (S'.1 30).toInt) (fun S' => aw_G g S' ∧ (S.1 30).toInt + 0 ≤ (S'.1 30).toInt)))) (hm5 : (30 - x11.toInt).toNat < N5 + 1) (N79 : Nat) (S271 : aj_S) (x273 : Int32) (x274 : Int32) (x275 : Int32) (x276 : Int32) (ihL79_269 : ∀ (S271 : aj_S) (lv272 : aj_V) (x273 : Int32) (x274 : Int32) (x275 : Int32) (x276 : Int32), (aj_lv lv272 0 = some (.ref 117)) → (aj_lv lv272 1 = some (.int x273)) → (aj_lv lv272 2 = some (.int x274)) → (aj_lv lv272 3 = some (.int x275)) → (aj_lv lv272 5 = some (.int x276)) → (aw_I s h (aw_G g) S271) → (aw_fr [] [14, 17, 18, 19] S S271) → (1 ≤ x273.toInt ∧ x273.toInt ≤ 7) → (0 ≤ x274.toInt ∧ x274.toInt ≤ 1023) → (0 ≤ x275.toInt ∧ x275.toInt ≤ 30) → (0 ≤ x276.toInt ∧ x276.toInt ≤ 29) → ((S.1 30).toInt + 0 ≤ (S271.1 30).toInt) → (x275.toInt ≤ x276.toInt) → ((S271.2.2.1 14 49).toInt ≤ 29) → (x276.toInt).toNat < N79 → aw_W tb h d aj_m271 79 lv272 [] S271 ((ar_QB s h [] [14, 17, 18, 19] S (fun S' => aw_G g S' ∧ (S.1 30).toInt ≤ (S'.1 30).toInt) (fun S' => aw_G g S' ∧ (S.1 30).toInt + 0 ≤ (S'.1 30).toInt)))) (hm79 : (x276.toInt).toNat < N79 + 1) (N119 : Nat) (S288 : aj_S) (x290 : Int32) (x291 : Int32) (x292 : Int32) (x293 : Int32) (ihL119_286 : ∀ (S288 : aj_S) (lv289 : aj_V) (x290 : Int32) (x291 : Int32) (x292 : Int32) (x293 : Int32), (aj_lv lv289 0 = some (.ref 117)) → (aj_lv lv289 1 = some (.int x290)) → (aj_lv lv289 2 = some (.int x291)) → (aj_lv lv289 3 = some (.int x292)) → (aj_lv lv289 5 = some (.int x293)) → (aw_I s h (aw_G g) S288) → (aw_fr [] [14, 17, 18, 19] S S288) → (1 ≤ x290.toInt ∧ x290.toInt ≤ 7) → (0 ≤ x291.toInt ∧ x291.toInt ≤ 1023) → (0 ≤ x292.toInt ∧ x292.toInt ≤ 29) → (0 ≤ x293.toInt ∧ x293.toInt ≤ 7) → ((S.1 30).toInt + 0 ≤ (S288.1 30).toInt) → (7 - x293.toInt).toNat < N119 → aw_W tb h d aj_m271 119 lv289 [] S288 ((ar_QB s h [] [14, 17, 18, 19] S (fun S' => aw_G g S' ∧ (S.1 30).toInt ≤ (S'.1 30).toInt) (fun S' => aw_G g S' ∧ (S.1 30).toInt + 0 ≤ (S'.1 30).toInt)))) (hm119 : (7 - x293.toInt).toNat < N119 + 1) : ∀ (N : Nat) (S301 : aj_S) (lv302 : aj_V) (x303 : Int32) (x304 : Int32) (x305 : Int32), (aj_lv lv302 0 = some (.ref 117)) → (aj_lv lv302 2 = some (.int x303)) → (aj_lv lv302 3 = some (.int x304)) → (aj_lv lv302 5 = some (.int x305)) → (aw_I s h (aw_G g) S301) → (aw_fr [] [14, 17, 18, 19] S S301) → (0 ≤ x303.toInt ∧ x303.toInt ≤ 1023) → (0 ≤ x304.toInt ∧ x304.toInt ≤ 29) → (0 ≤ x305.toInt ∧ x305.toInt ≤ 32) → ((S.1 30).toInt + 0 ≤ (S301.1 30).toInt) → (32 - x305.toInt).toNat < N → aw_W tb h d aj_m271 168 lv302 [] S301 ((ar_QB s h [] [14, 17, 18, 19] S (fun S' => aw_G g S' ∧ (S.1 30).toInt ≤ (S'.1 30).toInt) (fun S' => aw_G g S' ∧ (S.1 30).toInt + 0 ≤ (S'.1 30).toInt))) := by
  have hs : aw_sT s := aw_hy_sT hU.2.2
  intro N168
  induction N168 with
  | zero =>
    intro S301 lv302 x303 x304 x305 hlv302_0 hlv302_2 hlv302_3 hlv302_5 hI306 fr307 bx303 bx304 bx305 ck168 hm168
    omega
  | succ N168 ihL168_299 =>
    intro S301 lv302 x303 x304 x305 hlv302_0 hlv302_2 hlv302_3 hlv302_5 hI306 fr307 bx303 bx304 bx305 ck168 hm168
    have hI308 : aw_I s h (aw_sm S301) S301 := ⟨hI306.1, aw_sm_rf⟩
    have b309 : 0 ≤ (S301.1 30).toInt ∧ (S301.1 30).toInt ≤ 1001 := aw_bd_f hs (hI308).1 (by decide) rfl
    refine aw_l0 aj_d271 rfl rfl hlv302_5 ?_
    refine aw_n aj_d271 rfl rfl ?_
    refine aw_c (tgt := 197) aj_d271 rfl rfl (fun q310 => ?_) (fun q310 => ?_)
    · have q310 : x305.toInt ≥ (32 : Int) := aw_t_ge (a := x305.toInt) (b := (32 : Int)) rfl rfl q310
      refine aw_l2 aj_d271 rfl rfl hlv302_0 ?_
      refine aw_g hU.1 aj_d271 rfl rfl (by decide) (v := .ref 136) rfl ?_
      refine aw_l2 aj_d271 rfl rfl hlv302_0 ?_
      refine aw_n aj_d271 rfl rfl ?_
      refine aw_l0 aj_d271 rfl rfl hlv302_3 ?_
      refine aw_k hU.1 aj_d271 rfl rfl [_, _] rfl rfl rfl (Nat.le_of_ble_eq_true rfl) (ar_at (by omega) (a := (49 : Int)) (b := x304.toInt) rfl rfl (by omega) (by omega)) ?_
      rintro _ zx311 ⟨fx311, x311, rfl, ex311⟩
      rw [fx311]
      show aw_W _ _ _ _ 208 lv302 [.int x311, .ref 136] _ _
      refine aw_l0 aj_d271 rfl rfl hlv302_2 ?_
      refine aw_n aj_d271 rfl rfl ?_
      refine aw_ks aj_d271 rfl rfl rfl [_, _, _, _] rfl rfl (Nat.le_of_ble_eq_true rfl) (ar_put hU (hI308).1 (by omega) (k := 19) (n := 48000) (by decide) (by decide) rfl rfl (a := (((49 : Int) * 30 + x304.toInt) * 32)) (b := x303.toInt) ex311 rfl (by omega) (by omega) (by omega) (by decide)) ?_
      rintro _ S312 ⟨hT312, fc312, rfl, pe312⟩
      have fr313 := aw_fr_tr fr307 (aw_fr_sub (F := []) (A := [19]) (by decide) (by decide) fc312)
      have hI314 : aw_I s h (aw_sm S301) S312 := ⟨hT312, aw_sm_tr hI308.2 (aw_fr_sm (by decide) (by decide) (by decide) (F := []) (A := [19]) fc312)⟩
      show aw_W _ _ _ _ 213 lv302 [] _ _
      refine aw_n aj_d271 rfl rfl ?_
      refine aw_e aj_d271 rfl rfl ?_
      have c315 : (S312.1 30).toInt = (S301.1 30).toInt := (congrArg Int32.toInt (fc312.1 30 (by decide)).1).trans rfl
      have b316 : 0 ≤ (S312.1 30).toInt ∧ (S312.1 30).toInt ≤ 1001 := aw_bd_f hs (hI314).1 (by decide) rfl
      exact ⟨(hI314).1, fr313, Or.inr ⟨_, rfl, rfl, (aw_G_sm hI314.2 hI306.2), (show _ + 0 ≤ ((S312.1 30)).toInt by omega)⟩⟩
    · have q310 : x305.toInt < (32 : Int) := aw_t_ge (a := x305.toInt) (b := (32 : Int)) rfl rfl q310
      refine aw_l2 aj_d271 rfl rfl hlv302_0 ?_
      refine aw_g hU.1 aj_d271 rfl rfl (by decide) (v := .ref 136) rfl ?_
      refine aw_l2 aj_d271 rfl rfl hlv302_0 ?_
      refine aw_n aj_d271 rfl rfl ?_
      refine aw_l0 aj_d271 rfl rfl hlv302_3 ?_
      refine aw_k hU.1 aj_d271 rfl rfl [_, _] rfl rfl rfl (Nat.le_of_ble_eq_true rfl) (ar_at (by omega) (a := (49 : Int)) (b := x304.toInt) rfl rfl (by omega) (by omega)) ?_
      rintro _ zx317 ⟨fx317, x317, rfl, ex317⟩
      rw [fx317]
      show aw_W _ _ _ _ 186 lv302 [.int x317, .ref 136] _ _
      refine aw_l0 aj_d271 rfl rfl hlv302_5 ?_
      refine aw_add aj_d271 rfl (a := (((49 : Int) * 30 + x304.toInt) * 32)) (b := x305.toInt) ex317 rfl (by omega) (by omega) (fun x318 ex318 => ?_)
      refine aw_n aj_d271 rfl rfl ?_
      refine aw_st (k := 19) hU.1 aj_d271 (Or.inl ⟨rfl, rfl⟩) rfl (by decide) (by decide) rfl (a := x318.toInt) rfl (by omega) (by omega) ?_
      have hI319 := aw_I_a (aw_UV hU aw_Gs_sm) (k := 19) (j := (x318.toInt).toNat) (v := aj_nar 0 (Int32.ofInt 0)) hI308 (by decide) (by decide) (by decide) rfl (by decide) (by decide) rfl (aw_full _)
      have fr320 := aw_fr_a (k := 19) (j := (x318.toInt).toNat) (v := aj_nar 0 (Int32.ofInt 0)) (by decide) fr307
      refine aw_inc aj_d271 rfl hlv302_5 (a := x305.toInt) rfl (by omega) (by omega) (by decide) (by decide) (fun x321 ex321 => ?_)
      obtain ⟨lv322, elv322⟩ : ∃ l, l = aj_set1 lv302 5 (.int x321) := ⟨_, rfl⟩
      rw [← elv322]
      have hlv322_0 : aj_lv lv322 0 = some (.ref 117) := cw_e1 elv322 hlv302_0 (by decide) (Or.inl (by decide))
      have hlv322_2 : aj_lv lv322 2 = some (.int x303) := cw_e1 elv322 hlv302_2 (by decide) (Or.inl (by decide))
      have hlv322_3 : aj_lv lv322 3 = some (.int x304) := cw_e1 elv322 hlv302_3 (by decide) (Or.inl (by decide))
      have hlv322_5 : aj_lv lv322 5 = some (.int x321) := by rw [elv322]; exact ak_set1_eq _ _ _
      show aw_W _ _ _ _ 194 lv322 [] _ _
      refine aw_n aj_d271 rfl rfl ?_
      exact ihL168_299 (aw_wa S301 19 (x318.toInt).toNat (aj_nar 0 (Int32.ofInt 0))) lv322 (x303) (x304) (x321) hlv322_0 hlv322_2 hlv322_3 hlv322_5 ⟨(hI319).1, (aw_G_sm hI319.2 hI306.2)⟩ fr320 (by omega) (by omega) (by omega) (show _ ≤ ((S301.1 30)).toInt by omega) (by omega)
theorem ar_comes_L119_286 (hU : aw_U tb s h) (hd : 3 ≤ d + 1) (N5 : Nat) (S7 : aj_S) (x9 : Int32) (x10 : Int32) (x11 : Int32) (x12 : Int32) (ihL5_5 : ∀ (S7 : aj_S) (lv8 : aj_V) (x9 : Int32) (x10 : Int32) (x11 : Int32) (x12 : Int32), (aj_lv lv8 0 = some (.ref 117)) → (aj_lv lv8 1 = some (.int x9)) → (aj_lv lv8 2 = some (.int x10)) → (aj_lv lv8 3 = some (.int x11)) → (aj_lv lv8 4 = some (.int x12)) → (aw_I s h (aw_G g) S7) → (aw_fr [] [14, 17, 18, 19] S S7) → (1 ≤ x9.toInt ∧ x9.toInt ≤ 7) → (0 ≤ x10.toInt ∧ x10.toInt ≤ 1023) → (0 ≤ x11.toInt ∧ x11.toInt ≤ 30) → ((-1) ≤ x12.toInt ∧ x12.toInt ≤ 1) → ((S.1 30).toInt + 0 ≤ (S7.1 30).toInt) → (x11.toInt ≤ (S7.2.2.1 14 49).toInt) → (x12.toInt < 0) → (30 - x11.toInt).toNat < N5 → aw_W tb h d aj_m271 5 lv8 [] S7 ((ar_QB s h [] [14, 17, 18, 19] S (fun S' => aw_G g S' ∧ (S.1 30).toInt ≤ (S'.1 30).toInt) (fun S' => aw_G g S' ∧ (S.1 30).toInt + 0 ≤ (S'.1 30).toInt)))) (hm5 : (30 - x11.toInt).toNat < N5 + 1) (N79 : Nat) (S271 : aj_S) (x273 : Int32) (x274 : Int32) (x275 : Int32) (x276 : Int32) (ihL79_269 : ∀ (S271 : aj_S) (lv272 : aj_V) (x273 : Int32) (x274 : Int32) (x275 : Int32) (x276 : Int32), (aj_lv lv272 0 = some (.ref 117)) → (aj_lv lv272 1 = some (.int x273)) → (aj_lv lv272 2 = some (.int x274)) → (aj_lv lv272 3 = some (.int x275)) → (aj_lv lv272 5 = some (.int x276)) → (aw_I s h (aw_G g) S271) → (aw_fr [] [14, 17, 18, 19] S S271) → (1 ≤ x273.toInt ∧ x273.toInt ≤ 7) → (0 ≤ x274.toInt ∧ x274.toInt ≤ 1023) → (0 ≤ x275.toInt ∧ x275.toInt ≤ 30) → (0 ≤ x276.toInt ∧ x276.toInt ≤ 29) → ((S.1 30).toInt + 0 ≤ (S271.1 30).toInt) → (x275.toInt ≤ x276.toInt) → ((S271.2.2.1 14 49).toInt ≤ 29) → (x276.toInt).toNat < N79 → aw_W tb h d aj_m271 79 lv272 [] S271 ((ar_QB s h [] [14, 17, 18, 19] S (fun S' => aw_G g S' ∧ (S.1 30).toInt ≤ (S'.1 30).toInt) (fun S' => aw_G g S' ∧ (S.1 30).toInt + 0 ≤ (S'.1 30).toInt)))) (hm79 : (x276.toInt).toNat < N79 + 1) : ∀ (N : Nat) (S288 : aj_S) (lv289 : aj_V) (x290 : Int32) (x291 : Int32) (x292 : Int32) (x293 : Int32), (aj_lv lv289 0 = some (.ref 117)) → (aj_lv lv289 1 = some (.int x290)) → (aj_lv lv289 2 = some (.int x291)) → (aj_lv lv289 3 = some (.int x292)) → (aj_lv lv289 5 = some (.int x293)) → (aw_I s h (aw_G g) S288) → (aw_fr [] [14, 17, 18, 19] S S288) → (1 ≤ x290.toInt ∧ x290.toInt ≤ 7) → (0 ≤ x291.toInt ∧ x291.toInt ≤ 1023) → (0 ≤ x292.toInt ∧ x292.toInt ≤ 29) → (0 ≤ x293.toInt ∧ x293.toInt ≤ 7) → ((S.1 30).toInt + 0 ≤ (S288.1 30).toInt) → (7 - x293.toInt).toNat < N → aw_W tb h d aj_m271 119 lv289 [] S288 ((ar_QB s h [] [14, 17, 18, 19] S (fun S' => aw_G g S' ∧ (S.1 30).toInt ≤ (S'.1 30).toInt) (fun S' => aw_G g S' ∧ (S.1 30).toInt + 0 ≤ (S'.1 30).toInt))) := by
  have hs : aw_sT s := aw_hy_sT hU.2.2
  intro N119
  induction N119 with
  | zero =>
    intro S288 lv289 x290 x291 x292 x293 hlv289_0 hlv289_1 hlv289_2 hlv289_3 hlv289_5 hI294 fr295 bx290 bx291 bx292 bx293 ck119 hm119
    omega
  | succ N119 ihL119_286 =>
    intro S288 lv289 x290 x291 x292 x293 hlv289_0 hlv289_1 hlv289_2 hlv289_3 hlv289_5 hI294 fr295 bx290 bx291 bx292 bx293 ck119 hm119
    have hI296 : aw_I s h (aw_sm S288) S288 := ⟨hI294.1, aw_sm_rf⟩
    have b297 : 0 ≤ (S288.1 30).toInt ∧ (S288.1 30).toInt ≤ 1001 := aw_bd_f hs (hI296).1 (by decide) rfl
    refine aw_l0 aj_d271 rfl rfl hlv289_5 ?_
    refine aw_l0 aj_d271 rfl rfl hlv289_1 ?_
    refine aw_c (tgt := 165) aj_d271 rfl rfl (fun q298 => ?_) (fun q298 => ?_)
    · have q298 : x293.toInt ≥ x290.toInt := aw_t_ge (a := x293.toInt) (b := x290.toInt) rfl rfl q298
      refine aw_n aj_d271 rfl rfl ?_
      refine aw_t0 (j := 5) aj_d271 rfl (by decide) rfl ?_
      obtain ⟨lv299, elv299⟩ : ∃ l, l = aj_set1 lv289 5 (.int (Int32.ofInt 0)) := ⟨_, rfl⟩
      rw [← elv299]
      have hlv299_0 : aj_lv lv299 0 = some (.ref 117) := cw_e1 elv299 hlv289_0 (by decide) (Or.inl (by decide))
      have hlv299_2 : aj_lv lv299 2 = some (.int x291) := cw_e1 elv299 hlv289_2 (by decide) (Or.inl (by decide))
      have hlv299_3 : aj_lv lv299 3 = some (.int x292) := cw_e1 elv299 hlv289_3 (by decide) (Or.inl (by decide))
      have hlv299_5 : aj_lv lv299 5 = some (.int (Int32.ofInt 0)) := by rw [elv299]; exact ak_set1_eq _ _ _
      show aw_W _ _ _ _ 168 lv299 [] _ _
      exact (ar_comes_L168_299 hU hd N5 S7 x9 x10 x11 x12 ihL5_5 hm5 N79 S271 x273 x274 x275 x276 ihL79_269 hm79 N119 S288 x290 x291 x292 x293 ihL119_286 hm119) _ S288 lv299 (x291) (x292) ((Int32.ofInt 0)) hlv299_0 hlv299_2 hlv299_3 hlv299_5 ⟨(hI296).1, hI294.2⟩ fr295 (by omega) (by omega) (by first | omega | decide) (show _ ≤ ((S288.1 30)).toInt by omega) (Nat.lt_succ_self _)
    · have q298 : x293.toInt < x290.toInt := aw_t_ge (a := x293.toInt) (b := x290.toInt) rfl rfl q298
      refine aw_l2 aj_d271 rfl rfl hlv289_0 ?_
      refine aw_g hU.1 aj_d271 rfl rfl (by decide) (v := .ref 134) rfl ?_
      refine aw_n aj_d271 rfl rfl ?_
      refine aw_l0 aj_d271 rfl rfl hlv289_3 ?_
      refine aw_l0 aj_d271 rfl rfl hlv289_5 ?_
      refine aw_ks aj_d271 rfl rfl rfl [_, _, _] rfl rfl (Nat.le_of_ble_eq_true rfl) (ar_cellAt (by omega) (a := (49 : Int)) (b := x292.toInt) (c := x293.toInt) rfl rfl rfl (by omega) (by omega) (by omega)) ?_
      rintro _ zx323 ⟨fx323, x323, rfl, ex323⟩
      rw [fx323]
      show aw_W _ _ _ _ 137 lv289 [.int x323, .ref 134] _ _
      refine aw_n aj_d271 rfl rfl ?_
      refine aw_st (k := 17) hU.1 aj_d271 (Or.inr (Or.inr (Or.inr ⟨rfl, rfl⟩))) rfl (by decide) (by decide) rfl (a := (((49 : Int) * 30 + x292.toInt) * 8 + x293.toInt)) ex323 (by omega) (by omega) ?_
      have hI324 : aw_I s h (aw_sm (aw_wa S288 17 ((((49 : Int) * 30 + x292.toInt) * 8 + x293.toInt)).toNat (aj_nar 4 (Int32.ofInt 0)))) (aw_wa S288 17 ((((49 : Int) * 30 + x292.toInt) * 8 + x293.toInt)).toNat (aj_nar 4 (Int32.ofInt 0))) := ⟨aw_T_a hU.2.1 hs hU.1.1 (hI296).1 (by decide) (by decide) rfl (by decide) (by decide) rfl (aw_nar4 (aw_bp (a := (0 : Int)) rfl (by omega) (by omega)) (by decide) (by decide)), aw_sm_rf⟩
      have fr325 := aw_fr_a (k := 17) (j := ((((49 : Int) * 30 + x292.toInt) * 8 + x293.toInt)).toNat) (v := aj_nar 4 (Int32.ofInt 0)) (by decide) fr295
      refine aw_l2 aj_d271 rfl rfl hlv289_0 ?_
      refine aw_g hU.1 aj_d271 rfl rfl (by decide) (v := .ref 135) rfl ?_
      refine aw_n aj_d271 rfl rfl ?_
      refine aw_l0 aj_d271 rfl rfl hlv289_3 ?_
      refine aw_l0 aj_d271 rfl rfl hlv289_5 ?_
      refine aw_ks aj_d271 rfl rfl rfl [_, _, _] rfl rfl (Nat.le_of_ble_eq_true rfl) (ar_cellAt (by omega) (a := (49 : Int)) (b := x292.toInt) (c := x293.toInt) rfl rfl rfl (by omega) (by omega) (by omega)) ?_
      rintro _ zx326 ⟨fx326, x326, rfl, ex326⟩
      rw [fx326]
      show aw_W _ _ _ _ 151 lv289 [.int x326, .ref 135] _ _
      refine aw_l2 aj_d271 rfl rfl hlv289_0 ?_
      refine aw_g hU.1 aj_d271 rfl rfl (by decide) (v := .ref 144) rfl ?_
      refine aw_l0 aj_d271 rfl rfl hlv289_5 ?_
      refine aw_ld (k := 27) hU.1 aj_d271 (Or.inl ⟨rfl, rfl⟩) rfl (by decide) (by decide) rfl (a := x293.toInt) rfl (by omega) (by omega) (fun x327 ex327 => ?_)
      refine aw_st (k := 18) hU.1 aj_d271 (Or.inl ⟨rfl, rfl⟩) rfl (by decide) (by decide) rfl (a := (((49 : Int) * 30 + x292.toInt) * 8 + x293.toInt)) ex326 (by omega) (by omega) ?_
      have hI328 : aw_I s h (aw_sm (aw_wa (aw_wa S288 17 ((((49 : Int) * 30 + x292.toInt) * 8 + x293.toInt)).toNat (aj_nar 4 (Int32.ofInt 0))) 18 ((((49 : Int) * 30 + x292.toInt) * 8 + x293.toInt)).toNat (aj_nar 0 x327))) (aw_wa (aw_wa S288 17 ((((49 : Int) * 30 + x292.toInt) * 8 + x293.toInt)).toNat (aj_nar 4 (Int32.ofInt 0))) 18 ((((49 : Int) * 30 + x292.toInt) * 8 + x293.toInt)).toNat (aj_nar 0 x327)) := ⟨aw_T_a hU.2.1 hs hU.1.1 (hI324).1 (by decide) (by decide) rfl (by decide) (by decide) rfl (aw_full _), aw_sm_rf⟩
      have fr329 := aw_fr_a (k := 18) (j := ((((49 : Int) * 30 + x292.toInt) * 8 + x293.toInt)).toNat) (v := aj_nar 0 x327) (by decide) fr325
      have hG330 := aw_G_sk (S' := (aw_wa (aw_wa S288 17 ((((49 : Int) * 30 + x292.toInt) * 8 + x293.toInt)).toNat (aj_nar 4 (Int32.ofInt 0))) 18 ((((49 : Int) * 30 + x292.toInt) * 8 + x293.toInt)).toNat (aj_nar 0 x327))) hI294.2 (aw_sk_2 aw_sk_rf) (aw_kv_2 (aw_G_B hI294.2).1 (by first | rfl | (congr 1) | omega) (fun z => absurd z (by decide)))
      have hI331 : aw_I s h (aw_sm (aw_wa (aw_wa S288 17 ((((49 : Int) * 30 + x292.toInt) * 8 + x293.toInt)).toNat (aj_nar 4 (Int32.ofInt 0))) 18 ((((49 : Int) * 30 + x292.toInt) * 8 + x293.toInt)).toNat (aj_nar 0 x327))) (aw_wa (aw_wa S288 17 ((((49 : Int) * 30 + x292.toInt) * 8 + x293.toInt)).toNat (aj_nar 4 (Int32.ofInt 0))) 18 ((((49 : Int) * 30 + x292.toInt) * 8 + x293.toInt)).toNat (aj_nar 0 x327)) := ⟨(hI328).1, aw_sm_rf⟩
      refine aw_inc aj_d271 rfl hlv289_5 (a := x293.toInt) rfl (by omega) (by omega) (by decide) (by decide) (fun x332 ex332 => ?_)
      obtain ⟨lv333, elv333⟩ : ∃ l, l = aj_set1 lv289 5 (.int x332) := ⟨_, rfl⟩
      rw [← elv333]
      have hlv333_0 : aj_lv lv333 0 = some (.ref 117) := cw_e1 elv333 hlv289_0 (by decide) (Or.inl (by decide))
      have hlv333_1 : aj_lv lv333 1 = some (.int x290) := cw_e1 elv333 hlv289_1 (by decide) (Or.inl (by decide))
      have hlv333_2 : aj_lv lv333 2 = some (.int x291) := cw_e1 elv333 hlv289_2 (by decide) (Or.inl (by decide))
      have hlv333_3 : aj_lv lv333 3 = some (.int x292) := cw_e1 elv333 hlv289_3 (by decide) (Or.inl (by decide))
      have hlv333_5 : aj_lv lv333 5 = some (.int x332) := by rw [elv333]; exact ak_set1_eq _ _ _
      show aw_W _ _ _ _ 162 lv333 [] _ _
      refine aw_n aj_d271 rfl rfl ?_
      exact ihL119_286 (aw_wa (aw_wa S288 17 ((((49 : Int) * 30 + x292.toInt) * 8 + x293.toInt)).toNat (aj_nar 4 (Int32.ofInt 0))) 18 ((((49 : Int) * 30 + x292.toInt) * 8 + x293.toInt)).toNat (aj_nar 0 x327)) lv333 (x290) (x291) (x292) (x332) hlv333_0 hlv333_1 hlv333_2 hlv333_3 hlv333_5 ⟨(hI331).1, hG330⟩ fr329 (by omega) (by omega) (by omega) (by omega) (show _ ≤ ((S288.1 30)).toInt by omega) (by omega)
theorem ar_comes_L79_269 (hU : aw_U tb s h) (hd : 3 ≤ d + 1) (N5 : Nat) (S7 : aj_S) (x9 : Int32) (x10 : Int32) (x11 : Int32) (x12 : Int32) (ihL5_5 : ∀ (S7 : aj_S) (lv8 : aj_V) (x9 : Int32) (x10 : Int32) (x11 : Int32) (x12 : Int32), (aj_lv lv8 0 = some (.ref 117)) → (aj_lv lv8 1 = some (.int x9)) → (aj_lv lv8 2 = some (.int x10)) → (aj_lv lv8 3 = some (.int x11)) → (aj_lv lv8 4 = some (.int x12)) → (aw_I s h (aw_G g) S7) → (aw_fr [] [14, 17, 18, 19] S S7) → (1 ≤ x9.toInt ∧ x9.toInt ≤ 7) → (0 ≤ x10.toInt ∧ x10.toInt ≤ 1023) → (0 ≤ x11.toInt ∧ x11.toInt ≤ 30) → ((-1) ≤ x12.toInt ∧ x12.toInt ≤ 1) → ((S.1 30).toInt + 0 ≤ (S7.1 30).toInt) → (x11.toInt ≤ (S7.2.2.1 14 49).toInt) → (x12.toInt < 0) → (30 - x11.toInt).toNat < N5 → aw_W tb h d aj_m271 5 lv8 [] S7 ((ar_QB s h [] [14, 17, 18, 19] S (fun S' => aw_G g S' ∧ (S.1 30).toInt ≤ (S'.1 30).toInt) (fun S' => aw_G g S' ∧ (S.1 30).toInt + 0 ≤ (S'.1 30).toInt)))) (hm5 : (30 - x11.toInt).toNat < N5 + 1) : ∀ (N : Nat) (S271 : aj_S) (lv272 : aj_V) (x273 : Int32) (x274 : Int32) (x275 : Int32) (x276 : Int32), (aj_lv lv272 0 = some (.ref 117)) → (aj_lv lv272 1 = some (.int x273)) → (aj_lv lv272 2 = some (.int x274)) → (aj_lv lv272 3 = some (.int x275)) → (aj_lv lv272 5 = some (.int x276)) → (aw_I s h (aw_G g) S271) → (aw_fr [] [14, 17, 18, 19] S S271) → (1 ≤ x273.toInt ∧ x273.toInt ≤ 7) → (0 ≤ x274.toInt ∧ x274.toInt ≤ 1023) → (0 ≤ x275.toInt ∧ x275.toInt ≤ 30) → (0 ≤ x276.toInt ∧ x276.toInt ≤ 29) → ((S.1 30).toInt + 0 ≤ (S271.1 30).toInt) → (x275.toInt ≤ x276.toInt) → ((S271.2.2.1 14 49).toInt ≤ 29) → (x276.toInt).toNat < N → aw_W tb h d aj_m271 79 lv272 [] S271 ((ar_QB s h [] [14, 17, 18, 19] S (fun S' => aw_G g S' ∧ (S.1 30).toInt ≤ (S'.1 30).toInt) (fun S' => aw_G g S' ∧ (S.1 30).toInt + 0 ≤ (S'.1 30).toInt))) := by
  have hs : aw_sT s := aw_hy_sT hU.2.2
  intro N79
  induction N79 with
  | zero =>
    intro S271 lv272 x273 x274 x275 x276 hlv272_0 hlv272_1 hlv272_2 hlv272_3 hlv272_5 hI277 fr278 bx273 bx274 bx275 bx276 ck79 k79 r79 hm79
    omega
  | succ N79 ihL79_269 =>
    intro S271 lv272 x273 x274 x275 x276 hlv272_0 hlv272_1 hlv272_2 hlv272_3 hlv272_5 hI277 fr278 bx273 bx274 bx275 bx276 ck79 k79 r79 hm79
    have hI279 : aw_I s h (aw_sm S271) S271 := ⟨hI277.1, aw_sm_rf⟩
    have b280 : 0 ≤ (S271.1 30).toInt ∧ (S271.1 30).toInt ≤ 1001 := aw_bd_f hs (hI279).1 (by decide) rfl
    refine aw_l0 aj_d271 rfl rfl hlv272_5 ?_
    refine aw_l0 aj_d271 rfl rfl hlv272_3 ?_
    refine aw_c (tgt := 105) aj_d271 rfl rfl (fun q281 => ?_) (fun q281 => ?_)
    · have q281 : x276.toInt ≤ x275.toInt := aw_t_le (a := x276.toInt) (b := x275.toInt) rfl rfl q281
      refine aw_l2 aj_d271 rfl rfl hlv272_0 ?_
      refine aw_g hU.1 aj_d271 rfl rfl (by decide) (v := .ref 131) rfl ?_
      refine aw_n aj_d271 rfl rfl ?_
      refine aw_n aj_d271 rfl rfl ?_
      refine aw_ld (k := 14) hU.1 aj_d271 (Or.inl ⟨rfl, rfl⟩) rfl (by decide) (by decide) rfl (a := (49 : Int)) rfl (by omega) (by omega) (fun x282 ex282 => ?_)
      have bx282 : 0 ≤ x282.toInt ∧ x282.toInt ≤ 30 := by
        rw [ex282]
        exact aw_bd_a hs (hI279).1 (k := 14) (by decide) (by decide) rfl (by decide) rfl (by omega)
      have ftx282 : x282.toInt = (S271.2.2.1 14 49).toInt := congrArg Int32.toInt (ex282.trans (congrFun rfl _))
      refine aw_n aj_d271 rfl rfl ?_
      refine aw_add aj_d271 rfl (a := x282.toInt) (b := (1 : Int)) rfl rfl (by omega) (by omega) (fun x283 ex283 => ?_)
      refine aw_st (k := 14) hU.1 aj_d271 (Or.inl ⟨rfl, rfl⟩) rfl (by decide) (by decide) rfl (a := (49 : Int)) rfl (by omega) (by omega) ?_
      have hI284 := aw_I_a (aw_UV hU aw_Gs_sm) (k := 14) (j := ((49 : Int)).toNat) (v := aj_nar 0 x283) hI279 (by decide) (by decide) (by decide) rfl (by decide) (by decide) rfl (aw_bp (a := x283.toInt) rfl (by omega) (by omega))
      have fr285 := aw_fr_a (k := 14) (j := ((49 : Int)).toNat) (v := aj_nar 0 x283) (by decide) fr278
      refine aw_n aj_d271 rfl rfl ?_
      refine aw_t0 (j := 5) aj_d271 rfl (by decide) rfl ?_
      obtain ⟨lv286, elv286⟩ : ∃ l, l = aj_set1 lv272 5 (.int (Int32.ofInt 0)) := ⟨_, rfl⟩
      rw [← elv286]
      have hlv286_0 : aj_lv lv286 0 = some (.ref 117) := cw_e1 elv286 hlv272_0 (by decide) (Or.inl (by decide))
      have hlv286_1 : aj_lv lv286 1 = some (.int x273) := cw_e1 elv286 hlv272_1 (by decide) (Or.inl (by decide))
      have hlv286_2 : aj_lv lv286 2 = some (.int x274) := cw_e1 elv286 hlv272_2 (by decide) (Or.inl (by decide))
      have hlv286_3 : aj_lv lv286 3 = some (.int x275) := cw_e1 elv286 hlv272_3 (by decide) (Or.inl (by decide))
      have hlv286_5 : aj_lv lv286 5 = some (.int (Int32.ofInt 0)) := by rw [elv286]; exact ak_set1_eq _ _ _
      show aw_W _ _ _ _ 119 lv286 [] _ _
      exact (ar_comes_L119_286 hU hd N5 S7 x9 x10 x11 x12 ihL5_5 hm5 N79 S271 x273 x274 x275 x276 ihL79_269 hm79) _ (aw_wa S271 14 ((49 : Int)).toNat (aj_nar 0 x283)) lv286 (x273) (x274) (x275) ((Int32.ofInt 0)) hlv286_0 hlv286_1 hlv286_2 hlv286_3 hlv286_5 ⟨(hI284).1, (aw_G_sm hI284.2 hI277.2)⟩ fr285 (by omega) (by omega) (by omega) (by first | omega | decide) (show _ ≤ ((S271.1 30)).toInt by omega) (Nat.lt_succ_self _)
    · have q281 : x276.toInt > x275.toInt := aw_t_le (a := x276.toInt) (b := x275.toInt) rfl rfl q281
      refine aw_l2 aj_d271 rfl rfl hlv272_0 ?_
      refine aw_n aj_d271 rfl rfl ?_
      refine aw_l0 aj_d271 rfl rfl hlv272_5 ?_
      refine aw_n aj_d271 rfl rfl ?_
      refine aw_sub aj_d271 rfl (a := x276.toInt) (b := (1 : Int)) rfl rfl (by omega) (by omega) (fun x334 ex334 => ?_)
      refine aw_n aj_d271 rfl rfl ?_
      refine aw_l0 aj_d271 rfl rfl hlv272_5 ?_
      refine aw_k hU.1 aj_d271 rfl rfl [_, _, _, _] rfl rfl rfl (Nat.le_of_ble_eq_true rfl) (ar_copyRow hU (hI279).1 (aw_G_B hI277.2).1 (by omega) (t := (Int8.ofInt 49).toInt32) (r := x334) (u := (Int8.ofInt 49).toInt32) (v := x276) (by decide) (by omega) (by decide) (by omega)) ?_
      rintro _ S335 ⟨hT335, fc335, rfl, sk335, kv335⟩
      have hG335 := aw_G_sk hI277.2 sk335 kv335
      have fr336 := aw_fr_tr fr278 (aw_fr_sub (F := []) (A := [17, 18, 19]) (by decide) (by decide) fc335)
      have hI337 : aw_I s h (aw_sm S335) S335 := ⟨hT335, aw_sm_rf⟩
      show aw_W _ _ _ _ 99 lv272 [] _ _
      refine aw_inc aj_d271 rfl hlv272_5 (a := x276.toInt) rfl (by omega) (by omega) (by decide) (by decide) (fun x338 ex338 => ?_)
      obtain ⟨lv339, elv339⟩ : ∃ l, l = aj_set1 lv272 5 (.int x338) := ⟨_, rfl⟩
      rw [← elv339]
      have hlv339_0 : aj_lv lv339 0 = some (.ref 117) := cw_e1 elv339 hlv272_0 (by decide) (Or.inl (by decide))
      have hlv339_1 : aj_lv lv339 1 = some (.int x273) := cw_e1 elv339 hlv272_1 (by decide) (Or.inl (by decide))
      have hlv339_2 : aj_lv lv339 2 = some (.int x274) := cw_e1 elv339 hlv272_2 (by decide) (Or.inl (by decide))
      have hlv339_3 : aj_lv lv339 3 = some (.int x275) := cw_e1 elv339 hlv272_3 (by decide) (Or.inl (by decide))
      have hlv339_5 : aj_lv lv339 5 = some (.int x338) := by rw [elv339]; exact ak_set1_eq _ _ _
      show aw_W _ _ _ _ 102 lv339 [] _ _
      refine aw_n aj_d271 rfl rfl ?_
      have c340 : (S335.1 30).toInt = (S271.1 30).toInt := (congrArg Int32.toInt (fc335.1 30 (by decide)).1).trans rfl
      have b341 : 0 ≤ (S335.1 30).toInt ∧ (S335.1 30).toInt ≤ 1001 := aw_bd_f hs (hI337).1 (by decide) rfl
      exact ihL79_269 S335 lv339 (x273) (x274) (x275) (x338) hlv339_0 hlv339_1 hlv339_2 hlv339_3 hlv339_5 ⟨(hI337).1, hG335⟩ fr336 (by omega) (by omega) (by omega) (by omega) (show _ ≤ ((S335.1 30)).toInt by omega) (by omega) (by rw [show (S335.2.2.1 14) = S271.2.2.1 14 from ((fc335.2 14 (by decide)).1.trans rfl)]; omega) (by omega)
theorem ar_comes_L168_384 (hU : aw_U tb s h) (hd : 3 ≤ d + 1) (N5 : Nat) (S7 : aj_S) (x9 : Int32) (x10 : Int32) (x11 : Int32) (x12 : Int32) (ihL5_5 : ∀ (S7 : aj_S) (lv8 : aj_V) (x9 : Int32) (x10 : Int32) (x11 : Int32) (x12 : Int32), (aj_lv lv8 0 = some (.ref 117)) → (aj_lv lv8 1 = some (.int x9)) → (aj_lv lv8 2 = some (.int x10)) → (aj_lv lv8 3 = some (.int x11)) → (aj_lv lv8 4 = some (.int x12)) → (aw_I s h (aw_G g) S7) → (aw_fr [] [14, 17, 18, 19] S S7) → (1 ≤ x9.toInt ∧ x9.toInt ≤ 7) → (0 ≤ x10.toInt ∧ x10.toInt ≤ 1023) → (0 ≤ x11.toInt ∧ x11.toInt ≤ 30) → ((-1) ≤ x12.toInt ∧ x12.toInt ≤ 1) → ((S.1 30).toInt + 0 ≤ (S7.1 30).toInt) → (x11.toInt ≤ (S7.2.2.1 14 49).toInt) → (x12.toInt < 0) → (30 - x11.toInt).toNat < N5 → aw_W tb h d aj_m271 5 lv8 [] S7 ((ar_QB s h [] [14, 17, 18, 19] S (fun S' => aw_G g S' ∧ (S.1 30).toInt ≤ (S'.1 30).toInt) (fun S' => aw_G g S' ∧ (S.1 30).toInt + 0 ≤ (S'.1 30).toInt)))) (hm5 : (30 - x11.toInt).toNat < N5 + 1) (N79 : Nat) (S356 : aj_S) (x358 : Int32) (x359 : Int32) (x360 : Int32) (x361 : Int32) (ihL79_354 : ∀ (S356 : aj_S) (lv357 : aj_V) (x358 : Int32) (x359 : Int32) (x360 : Int32) (x361 : Int32), (aj_lv lv357 0 = some (.ref 117)) → (aj_lv lv357 1 = some (.int x358)) → (aj_lv lv357 2 = some (.int x359)) → (aj_lv lv357 3 = some (.int x360)) → (aj_lv lv357 5 = some (.int x361)) → (aw_I s h (aw_G g) S356) → (aw_fr [] [14, 17, 18, 19] S S356) → (1 ≤ x358.toInt ∧ x358.toInt ≤ 7) → (0 ≤ x359.toInt ∧ x359.toInt ≤ 1023) → (0 ≤ x360.toInt ∧ x360.toInt ≤ 30) → (0 ≤ x361.toInt ∧ x361.toInt ≤ 29) → ((S.1 30).toInt + 0 ≤ (S356.1 30).toInt) → (x360.toInt ≤ x361.toInt) → ((S356.2.2.1 14 49).toInt ≤ 29) → (x361.toInt).toNat < N79 → aw_W tb h d aj_m271 79 lv357 [] S356 ((ar_QB s h [] [14, 17, 18, 19] S (fun S' => aw_G g S' ∧ (S.1 30).toInt ≤ (S'.1 30).toInt) (fun S' => aw_G g S' ∧ (S.1 30).toInt + 0 ≤ (S'.1 30).toInt)))) (hm79 : (x361.toInt).toNat < N79 + 1) (N119 : Nat) (S373 : aj_S) (x375 : Int32) (x376 : Int32) (x377 : Int32) (x378 : Int32) (ihL119_371 : ∀ (S373 : aj_S) (lv374 : aj_V) (x375 : Int32) (x376 : Int32) (x377 : Int32) (x378 : Int32), (aj_lv lv374 0 = some (.ref 117)) → (aj_lv lv374 1 = some (.int x375)) → (aj_lv lv374 2 = some (.int x376)) → (aj_lv lv374 3 = some (.int x377)) → (aj_lv lv374 5 = some (.int x378)) → (aw_I s h (aw_G g) S373) → (aw_fr [] [14, 17, 18, 19] S S373) → (1 ≤ x375.toInt ∧ x375.toInt ≤ 7) → (0 ≤ x376.toInt ∧ x376.toInt ≤ 1023) → (0 ≤ x377.toInt ∧ x377.toInt ≤ 29) → (0 ≤ x378.toInt ∧ x378.toInt ≤ 7) → ((S.1 30).toInt + 0 ≤ (S373.1 30).toInt) → (7 - x378.toInt).toNat < N119 → aw_W tb h d aj_m271 119 lv374 [] S373 ((ar_QB s h [] [14, 17, 18, 19] S (fun S' => aw_G g S' ∧ (S.1 30).toInt ≤ (S'.1 30).toInt) (fun S' => aw_G g S' ∧ (S.1 30).toInt + 0 ≤ (S'.1 30).toInt)))) (hm119 : (7 - x378.toInt).toNat < N119 + 1) : ∀ (N : Nat) (S386 : aj_S) (lv387 : aj_V) (x388 : Int32) (x389 : Int32) (x390 : Int32), (aj_lv lv387 0 = some (.ref 117)) → (aj_lv lv387 2 = some (.int x388)) → (aj_lv lv387 3 = some (.int x389)) → (aj_lv lv387 5 = some (.int x390)) → (aw_I s h (aw_G g) S386) → (aw_fr [] [14, 17, 18, 19] S S386) → (0 ≤ x388.toInt ∧ x388.toInt ≤ 1023) → (0 ≤ x389.toInt ∧ x389.toInt ≤ 29) → (0 ≤ x390.toInt ∧ x390.toInt ≤ 32) → ((S.1 30).toInt + 0 ≤ (S386.1 30).toInt) → (32 - x390.toInt).toNat < N → aw_W tb h d aj_m271 168 lv387 [] S386 ((ar_QB s h [] [14, 17, 18, 19] S (fun S' => aw_G g S' ∧ (S.1 30).toInt ≤ (S'.1 30).toInt) (fun S' => aw_G g S' ∧ (S.1 30).toInt + 0 ≤ (S'.1 30).toInt))) := by
  have hs : aw_sT s := aw_hy_sT hU.2.2
  intro N168
  induction N168 with
  | zero =>
    intro S386 lv387 x388 x389 x390 hlv387_0 hlv387_2 hlv387_3 hlv387_5 hI391 fr392 bx388 bx389 bx390 ck168 hm168
    omega
  | succ N168 ihL168_384 =>
    intro S386 lv387 x388 x389 x390 hlv387_0 hlv387_2 hlv387_3 hlv387_5 hI391 fr392 bx388 bx389 bx390 ck168 hm168
    have hI393 : aw_I s h (aw_sm S386) S386 := ⟨hI391.1, aw_sm_rf⟩
    have b394 : 0 ≤ (S386.1 30).toInt ∧ (S386.1 30).toInt ≤ 1001 := aw_bd_f hs (hI393).1 (by decide) rfl
    refine aw_l0 aj_d271 rfl rfl hlv387_5 ?_
    refine aw_n aj_d271 rfl rfl ?_
    refine aw_c (tgt := 197) aj_d271 rfl rfl (fun q395 => ?_) (fun q395 => ?_)
    · have q395 : x390.toInt ≥ (32 : Int) := aw_t_ge (a := x390.toInt) (b := (32 : Int)) rfl rfl q395
      refine aw_l2 aj_d271 rfl rfl hlv387_0 ?_
      refine aw_g hU.1 aj_d271 rfl rfl (by decide) (v := .ref 136) rfl ?_
      refine aw_l2 aj_d271 rfl rfl hlv387_0 ?_
      refine aw_n aj_d271 rfl rfl ?_
      refine aw_l0 aj_d271 rfl rfl hlv387_3 ?_
      refine aw_k hU.1 aj_d271 rfl rfl [_, _] rfl rfl rfl (Nat.le_of_ble_eq_true rfl) (ar_at (by omega) (a := (49 : Int)) (b := x389.toInt) rfl rfl (by omega) (by omega)) ?_
      rintro _ zx396 ⟨fx396, x396, rfl, ex396⟩
      rw [fx396]
      show aw_W _ _ _ _ 208 lv387 [.int x396, .ref 136] _ _
      refine aw_l0 aj_d271 rfl rfl hlv387_2 ?_
      refine aw_n aj_d271 rfl rfl ?_
      refine aw_ks aj_d271 rfl rfl rfl [_, _, _, _] rfl rfl (Nat.le_of_ble_eq_true rfl) (ar_put hU (hI393).1 (by omega) (k := 19) (n := 48000) (by decide) (by decide) rfl rfl (a := (((49 : Int) * 30 + x389.toInt) * 32)) (b := x388.toInt) ex396 rfl (by omega) (by omega) (by omega) (by decide)) ?_
      rintro _ S397 ⟨hT397, fc397, rfl, pe397⟩
      have fr398 := aw_fr_tr fr392 (aw_fr_sub (F := []) (A := [19]) (by decide) (by decide) fc397)
      have hI399 : aw_I s h (aw_sm S386) S397 := ⟨hT397, aw_sm_tr hI393.2 (aw_fr_sm (by decide) (by decide) (by decide) (F := []) (A := [19]) fc397)⟩
      show aw_W _ _ _ _ 213 lv387 [] _ _
      refine aw_n aj_d271 rfl rfl ?_
      refine aw_e aj_d271 rfl rfl ?_
      have c400 : (S397.1 30).toInt = (S386.1 30).toInt := (congrArg Int32.toInt (fc397.1 30 (by decide)).1).trans rfl
      have b401 : 0 ≤ (S397.1 30).toInt ∧ (S397.1 30).toInt ≤ 1001 := aw_bd_f hs (hI399).1 (by decide) rfl
      exact ⟨(hI399).1, fr398, Or.inr ⟨_, rfl, rfl, (aw_G_sm hI399.2 hI391.2), (show _ + 0 ≤ ((S397.1 30)).toInt by omega)⟩⟩
    · have q395 : x390.toInt < (32 : Int) := aw_t_ge (a := x390.toInt) (b := (32 : Int)) rfl rfl q395
      refine aw_l2 aj_d271 rfl rfl hlv387_0 ?_
      refine aw_g hU.1 aj_d271 rfl rfl (by decide) (v := .ref 136) rfl ?_
      refine aw_l2 aj_d271 rfl rfl hlv387_0 ?_
      refine aw_n aj_d271 rfl rfl ?_
      refine aw_l0 aj_d271 rfl rfl hlv387_3 ?_
      refine aw_k hU.1 aj_d271 rfl rfl [_, _] rfl rfl rfl (Nat.le_of_ble_eq_true rfl) (ar_at (by omega) (a := (49 : Int)) (b := x389.toInt) rfl rfl (by omega) (by omega)) ?_
      rintro _ zx402 ⟨fx402, x402, rfl, ex402⟩
      rw [fx402]
      show aw_W _ _ _ _ 186 lv387 [.int x402, .ref 136] _ _
      refine aw_l0 aj_d271 rfl rfl hlv387_5 ?_
      refine aw_add aj_d271 rfl (a := (((49 : Int) * 30 + x389.toInt) * 32)) (b := x390.toInt) ex402 rfl (by omega) (by omega) (fun x403 ex403 => ?_)
      refine aw_n aj_d271 rfl rfl ?_
      refine aw_st (k := 19) hU.1 aj_d271 (Or.inl ⟨rfl, rfl⟩) rfl (by decide) (by decide) rfl (a := x403.toInt) rfl (by omega) (by omega) ?_
      have hI404 := aw_I_a (aw_UV hU aw_Gs_sm) (k := 19) (j := (x403.toInt).toNat) (v := aj_nar 0 (Int32.ofInt 0)) hI393 (by decide) (by decide) (by decide) rfl (by decide) (by decide) rfl (aw_full _)
      have fr405 := aw_fr_a (k := 19) (j := (x403.toInt).toNat) (v := aj_nar 0 (Int32.ofInt 0)) (by decide) fr392
      refine aw_inc aj_d271 rfl hlv387_5 (a := x390.toInt) rfl (by omega) (by omega) (by decide) (by decide) (fun x406 ex406 => ?_)
      obtain ⟨lv407, elv407⟩ : ∃ l, l = aj_set1 lv387 5 (.int x406) := ⟨_, rfl⟩
      rw [← elv407]
      have hlv407_0 : aj_lv lv407 0 = some (.ref 117) := cw_e1 elv407 hlv387_0 (by decide) (Or.inl (by decide))
      have hlv407_2 : aj_lv lv407 2 = some (.int x388) := cw_e1 elv407 hlv387_2 (by decide) (Or.inl (by decide))
      have hlv407_3 : aj_lv lv407 3 = some (.int x389) := cw_e1 elv407 hlv387_3 (by decide) (Or.inl (by decide))
      have hlv407_5 : aj_lv lv407 5 = some (.int x406) := by rw [elv407]; exact ak_set1_eq _ _ _
      show aw_W _ _ _ _ 194 lv407 [] _ _
      refine aw_n aj_d271 rfl rfl ?_
      exact ihL168_384 (aw_wa S386 19 (x403.toInt).toNat (aj_nar 0 (Int32.ofInt 0))) lv407 (x388) (x389) (x406) hlv407_0 hlv407_2 hlv407_3 hlv407_5 ⟨(hI404).1, (aw_G_sm hI404.2 hI391.2)⟩ fr405 (by omega) (by omega) (by omega) (show _ ≤ ((S386.1 30)).toInt by omega) (by omega)
theorem ar_comes_L119_371 (hU : aw_U tb s h) (hd : 3 ≤ d + 1) (N5 : Nat) (S7 : aj_S) (x9 : Int32) (x10 : Int32) (x11 : Int32) (x12 : Int32) (ihL5_5 : ∀ (S7 : aj_S) (lv8 : aj_V) (x9 : Int32) (x10 : Int32) (x11 : Int32) (x12 : Int32), (aj_lv lv8 0 = some (.ref 117)) → (aj_lv lv8 1 = some (.int x9)) → (aj_lv lv8 2 = some (.int x10)) → (aj_lv lv8 3 = some (.int x11)) → (aj_lv lv8 4 = some (.int x12)) → (aw_I s h (aw_G g) S7) → (aw_fr [] [14, 17, 18, 19] S S7) → (1 ≤ x9.toInt ∧ x9.toInt ≤ 7) → (0 ≤ x10.toInt ∧ x10.toInt ≤ 1023) → (0 ≤ x11.toInt ∧ x11.toInt ≤ 30) → ((-1) ≤ x12.toInt ∧ x12.toInt ≤ 1) → ((S.1 30).toInt + 0 ≤ (S7.1 30).toInt) → (x11.toInt ≤ (S7.2.2.1 14 49).toInt) → (x12.toInt < 0) → (30 - x11.toInt).toNat < N5 → aw_W tb h d aj_m271 5 lv8 [] S7 ((ar_QB s h [] [14, 17, 18, 19] S (fun S' => aw_G g S' ∧ (S.1 30).toInt ≤ (S'.1 30).toInt) (fun S' => aw_G g S' ∧ (S.1 30).toInt + 0 ≤ (S'.1 30).toInt)))) (hm5 : (30 - x11.toInt).toNat < N5 + 1) (N79 : Nat) (S356 : aj_S) (x358 : Int32) (x359 : Int32) (x360 : Int32) (x361 : Int32) (ihL79_354 : ∀ (S356 : aj_S) (lv357 : aj_V) (x358 : Int32) (x359 : Int32) (x360 : Int32) (x361 : Int32), (aj_lv lv357 0 = some (.ref 117)) → (aj_lv lv357 1 = some (.int x358)) → (aj_lv lv357 2 = some (.int x359)) → (aj_lv lv357 3 = some (.int x360)) → (aj_lv lv357 5 = some (.int x361)) → (aw_I s h (aw_G g) S356) → (aw_fr [] [14, 17, 18, 19] S S356) → (1 ≤ x358.toInt ∧ x358.toInt ≤ 7) → (0 ≤ x359.toInt ∧ x359.toInt ≤ 1023) → (0 ≤ x360.toInt ∧ x360.toInt ≤ 30) → (0 ≤ x361.toInt ∧ x361.toInt ≤ 29) → ((S.1 30).toInt + 0 ≤ (S356.1 30).toInt) → (x360.toInt ≤ x361.toInt) → ((S356.2.2.1 14 49).toInt ≤ 29) → (x361.toInt).toNat < N79 → aw_W tb h d aj_m271 79 lv357 [] S356 ((ar_QB s h [] [14, 17, 18, 19] S (fun S' => aw_G g S' ∧ (S.1 30).toInt ≤ (S'.1 30).toInt) (fun S' => aw_G g S' ∧ (S.1 30).toInt + 0 ≤ (S'.1 30).toInt)))) (hm79 : (x361.toInt).toNat < N79 + 1) : ∀ (N : Nat) (S373 : aj_S) (lv374 : aj_V) (x375 : Int32) (x376 : Int32) (x377 : Int32) (x378 : Int32), (aj_lv lv374 0 = some (.ref 117)) → (aj_lv lv374 1 = some (.int x375)) → (aj_lv lv374 2 = some (.int x376)) → (aj_lv lv374 3 = some (.int x377)) → (aj_lv lv374 5 = some (.int x378)) → (aw_I s h (aw_G g) S373) → (aw_fr [] [14, 17, 18, 19] S S373) → (1 ≤ x375.toInt ∧ x375.toInt ≤ 7) → (0 ≤ x376.toInt ∧ x376.toInt ≤ 1023) → (0 ≤ x377.toInt ∧ x377.toInt ≤ 29) → (0 ≤ x378.toInt ∧ x378.toInt ≤ 7) → ((S.1 30).toInt + 0 ≤ (S373.1 30).toInt) → (7 - x378.toInt).toNat < N → aw_W tb h d aj_m271 119 lv374 [] S373 ((ar_QB s h [] [14, 17, 18, 19] S (fun S' => aw_G g S' ∧ (S.1 30).toInt ≤ (S'.1 30).toInt) (fun S' => aw_G g S' ∧ (S.1 30).toInt + 0 ≤ (S'.1 30).toInt))) := by
  have hs : aw_sT s := aw_hy_sT hU.2.2
  intro N119
  induction N119 with
  | zero =>
    intro S373 lv374 x375 x376 x377 x378 hlv374_0 hlv374_1 hlv374_2 hlv374_3 hlv374_5 hI379 fr380 bx375 bx376 bx377 bx378 ck119 hm119
    omega
  | succ N119 ihL119_371 =>
    intro S373 lv374 x375 x376 x377 x378 hlv374_0 hlv374_1 hlv374_2 hlv374_3 hlv374_5 hI379 fr380 bx375 bx376 bx377 bx378 ck119 hm119
    have hI381 : aw_I s h (aw_sm S373) S373 := ⟨hI379.1, aw_sm_rf⟩
    have b382 : 0 ≤ (S373.1 30).toInt ∧ (S373.1 30).toInt ≤ 1001 := aw_bd_f hs (hI381).1 (by decide) rfl
    refine aw_l0 aj_d271 rfl rfl hlv374_5 ?_
    refine aw_l0 aj_d271 rfl rfl hlv374_1 ?_
    refine aw_c (tgt := 165) aj_d271 rfl rfl (fun q383 => ?_) (fun q383 => ?_)
    · have q383 : x378.toInt ≥ x375.toInt := aw_t_ge (a := x378.toInt) (b := x375.toInt) rfl rfl q383
      refine aw_n aj_d271 rfl rfl ?_
      refine aw_t0 (j := 5) aj_d271 rfl (by decide) rfl ?_
      obtain ⟨lv384, elv384⟩ : ∃ l, l = aj_set1 lv374 5 (.int (Int32.ofInt 0)) := ⟨_, rfl⟩
      rw [← elv384]
      have hlv384_0 : aj_lv lv384 0 = some (.ref 117) := cw_e1 elv384 hlv374_0 (by decide) (Or.inl (by decide))
      have hlv384_2 : aj_lv lv384 2 = some (.int x376) := cw_e1 elv384 hlv374_2 (by decide) (Or.inl (by decide))
      have hlv384_3 : aj_lv lv384 3 = some (.int x377) := cw_e1 elv384 hlv374_3 (by decide) (Or.inl (by decide))
      have hlv384_5 : aj_lv lv384 5 = some (.int (Int32.ofInt 0)) := by rw [elv384]; exact ak_set1_eq _ _ _
      show aw_W _ _ _ _ 168 lv384 [] _ _
      exact (ar_comes_L168_384 hU hd N5 S7 x9 x10 x11 x12 ihL5_5 hm5 N79 S356 x358 x359 x360 x361 ihL79_354 hm79 N119 S373 x375 x376 x377 x378 ihL119_371 hm119) _ S373 lv384 (x376) (x377) ((Int32.ofInt 0)) hlv384_0 hlv384_2 hlv384_3 hlv384_5 ⟨(hI381).1, hI379.2⟩ fr380 (by omega) (by omega) (by first | omega | decide) (show _ ≤ ((S373.1 30)).toInt by omega) (Nat.lt_succ_self _)
    · have q383 : x378.toInt < x375.toInt := aw_t_ge (a := x378.toInt) (b := x375.toInt) rfl rfl q383
      refine aw_l2 aj_d271 rfl rfl hlv374_0 ?_
      refine aw_g hU.1 aj_d271 rfl rfl (by decide) (v := .ref 134) rfl ?_
      refine aw_n aj_d271 rfl rfl ?_
      refine aw_l0 aj_d271 rfl rfl hlv374_3 ?_
      refine aw_l0 aj_d271 rfl rfl hlv374_5 ?_
      refine aw_ks aj_d271 rfl rfl rfl [_, _, _] rfl rfl (Nat.le_of_ble_eq_true rfl) (ar_cellAt (by omega) (a := (49 : Int)) (b := x377.toInt) (c := x378.toInt) rfl rfl rfl (by omega) (by omega) (by omega)) ?_
      rintro _ zx408 ⟨fx408, x408, rfl, ex408⟩
      rw [fx408]
      show aw_W _ _ _ _ 137 lv374 [.int x408, .ref 134] _ _
      refine aw_n aj_d271 rfl rfl ?_
      refine aw_st (k := 17) hU.1 aj_d271 (Or.inr (Or.inr (Or.inr ⟨rfl, rfl⟩))) rfl (by decide) (by decide) rfl (a := (((49 : Int) * 30 + x377.toInt) * 8 + x378.toInt)) ex408 (by omega) (by omega) ?_
      have hI409 : aw_I s h (aw_sm (aw_wa S373 17 ((((49 : Int) * 30 + x377.toInt) * 8 + x378.toInt)).toNat (aj_nar 4 (Int32.ofInt 0)))) (aw_wa S373 17 ((((49 : Int) * 30 + x377.toInt) * 8 + x378.toInt)).toNat (aj_nar 4 (Int32.ofInt 0))) := ⟨aw_T_a hU.2.1 hs hU.1.1 (hI381).1 (by decide) (by decide) rfl (by decide) (by decide) rfl (aw_nar4 (aw_bp (a := (0 : Int)) rfl (by omega) (by omega)) (by decide) (by decide)), aw_sm_rf⟩
      have fr410 := aw_fr_a (k := 17) (j := ((((49 : Int) * 30 + x377.toInt) * 8 + x378.toInt)).toNat) (v := aj_nar 4 (Int32.ofInt 0)) (by decide) fr380
      refine aw_l2 aj_d271 rfl rfl hlv374_0 ?_
      refine aw_g hU.1 aj_d271 rfl rfl (by decide) (v := .ref 135) rfl ?_
      refine aw_n aj_d271 rfl rfl ?_
      refine aw_l0 aj_d271 rfl rfl hlv374_3 ?_
      refine aw_l0 aj_d271 rfl rfl hlv374_5 ?_
      refine aw_ks aj_d271 rfl rfl rfl [_, _, _] rfl rfl (Nat.le_of_ble_eq_true rfl) (ar_cellAt (by omega) (a := (49 : Int)) (b := x377.toInt) (c := x378.toInt) rfl rfl rfl (by omega) (by omega) (by omega)) ?_
      rintro _ zx411 ⟨fx411, x411, rfl, ex411⟩
      rw [fx411]
      show aw_W _ _ _ _ 151 lv374 [.int x411, .ref 135] _ _
      refine aw_l2 aj_d271 rfl rfl hlv374_0 ?_
      refine aw_g hU.1 aj_d271 rfl rfl (by decide) (v := .ref 144) rfl ?_
      refine aw_l0 aj_d271 rfl rfl hlv374_5 ?_
      refine aw_ld (k := 27) hU.1 aj_d271 (Or.inl ⟨rfl, rfl⟩) rfl (by decide) (by decide) rfl (a := x378.toInt) rfl (by omega) (by omega) (fun x412 ex412 => ?_)
      refine aw_st (k := 18) hU.1 aj_d271 (Or.inl ⟨rfl, rfl⟩) rfl (by decide) (by decide) rfl (a := (((49 : Int) * 30 + x377.toInt) * 8 + x378.toInt)) ex411 (by omega) (by omega) ?_
      have hI413 : aw_I s h (aw_sm (aw_wa (aw_wa S373 17 ((((49 : Int) * 30 + x377.toInt) * 8 + x378.toInt)).toNat (aj_nar 4 (Int32.ofInt 0))) 18 ((((49 : Int) * 30 + x377.toInt) * 8 + x378.toInt)).toNat (aj_nar 0 x412))) (aw_wa (aw_wa S373 17 ((((49 : Int) * 30 + x377.toInt) * 8 + x378.toInt)).toNat (aj_nar 4 (Int32.ofInt 0))) 18 ((((49 : Int) * 30 + x377.toInt) * 8 + x378.toInt)).toNat (aj_nar 0 x412)) := ⟨aw_T_a hU.2.1 hs hU.1.1 (hI409).1 (by decide) (by decide) rfl (by decide) (by decide) rfl (aw_full _), aw_sm_rf⟩
      have fr414 := aw_fr_a (k := 18) (j := ((((49 : Int) * 30 + x377.toInt) * 8 + x378.toInt)).toNat) (v := aj_nar 0 x412) (by decide) fr410
      have hG415 := aw_G_sk (S' := (aw_wa (aw_wa S373 17 ((((49 : Int) * 30 + x377.toInt) * 8 + x378.toInt)).toNat (aj_nar 4 (Int32.ofInt 0))) 18 ((((49 : Int) * 30 + x377.toInt) * 8 + x378.toInt)).toNat (aj_nar 0 x412))) hI379.2 (aw_sk_2 aw_sk_rf) (aw_kv_2 (aw_G_B hI379.2).1 (by first | rfl | (congr 1) | omega) (fun z => absurd z (by decide)))
      have hI416 : aw_I s h (aw_sm (aw_wa (aw_wa S373 17 ((((49 : Int) * 30 + x377.toInt) * 8 + x378.toInt)).toNat (aj_nar 4 (Int32.ofInt 0))) 18 ((((49 : Int) * 30 + x377.toInt) * 8 + x378.toInt)).toNat (aj_nar 0 x412))) (aw_wa (aw_wa S373 17 ((((49 : Int) * 30 + x377.toInt) * 8 + x378.toInt)).toNat (aj_nar 4 (Int32.ofInt 0))) 18 ((((49 : Int) * 30 + x377.toInt) * 8 + x378.toInt)).toNat (aj_nar 0 x412)) := ⟨(hI413).1, aw_sm_rf⟩
      refine aw_inc aj_d271 rfl hlv374_5 (a := x378.toInt) rfl (by omega) (by omega) (by decide) (by decide) (fun x417 ex417 => ?_)
      obtain ⟨lv418, elv418⟩ : ∃ l, l = aj_set1 lv374 5 (.int x417) := ⟨_, rfl⟩
      rw [← elv418]
      have hlv418_0 : aj_lv lv418 0 = some (.ref 117) := cw_e1 elv418 hlv374_0 (by decide) (Or.inl (by decide))
      have hlv418_1 : aj_lv lv418 1 = some (.int x375) := cw_e1 elv418 hlv374_1 (by decide) (Or.inl (by decide))
      have hlv418_2 : aj_lv lv418 2 = some (.int x376) := cw_e1 elv418 hlv374_2 (by decide) (Or.inl (by decide))
      have hlv418_3 : aj_lv lv418 3 = some (.int x377) := cw_e1 elv418 hlv374_3 (by decide) (Or.inl (by decide))
      have hlv418_5 : aj_lv lv418 5 = some (.int x417) := by rw [elv418]; exact ak_set1_eq _ _ _
      show aw_W _ _ _ _ 162 lv418 [] _ _
      refine aw_n aj_d271 rfl rfl ?_
      exact ihL119_371 (aw_wa (aw_wa S373 17 ((((49 : Int) * 30 + x377.toInt) * 8 + x378.toInt)).toNat (aj_nar 4 (Int32.ofInt 0))) 18 ((((49 : Int) * 30 + x377.toInt) * 8 + x378.toInt)).toNat (aj_nar 0 x412)) lv418 (x375) (x376) (x377) (x417) hlv418_0 hlv418_1 hlv418_2 hlv418_3 hlv418_5 ⟨(hI416).1, hG415⟩ fr414 (by omega) (by omega) (by omega) (by omega) (show _ ≤ ((S373.1 30)).toInt by omega) (by omega)
theorem ar_comes_L79_354 (hU : aw_U tb s h) (hd : 3 ≤ d + 1) (N5 : Nat) (S7 : aj_S) (x9 : Int32) (x10 : Int32) (x11 : Int32) (x12 : Int32) (ihL5_5 : ∀ (S7 : aj_S) (lv8 : aj_V) (x9 : Int32) (x10 : Int32) (x11 : Int32) (x12 : Int32), (aj_lv lv8 0 = some (.ref 117)) → (aj_lv lv8 1 = some (.int x9)) → (aj_lv lv8 2 = some (.int x10)) → (aj_lv lv8 3 = some (.int x11)) → (aj_lv lv8 4 = some (.int x12)) → (aw_I s h (aw_G g) S7) → (aw_fr [] [14, 17, 18, 19] S S7) → (1 ≤ x9.toInt ∧ x9.toInt ≤ 7) → (0 ≤ x10.toInt ∧ x10.toInt ≤ 1023) → (0 ≤ x11.toInt ∧ x11.toInt ≤ 30) → ((-1) ≤ x12.toInt ∧ x12.toInt ≤ 1) → ((S.1 30).toInt + 0 ≤ (S7.1 30).toInt) → (x11.toInt ≤ (S7.2.2.1 14 49).toInt) → (x12.toInt < 0) → (30 - x11.toInt).toNat < N5 → aw_W tb h d aj_m271 5 lv8 [] S7 ((ar_QB s h [] [14, 17, 18, 19] S (fun S' => aw_G g S' ∧ (S.1 30).toInt ≤ (S'.1 30).toInt) (fun S' => aw_G g S' ∧ (S.1 30).toInt + 0 ≤ (S'.1 30).toInt)))) (hm5 : (30 - x11.toInt).toNat < N5 + 1) : ∀ (N : Nat) (S356 : aj_S) (lv357 : aj_V) (x358 : Int32) (x359 : Int32) (x360 : Int32) (x361 : Int32), (aj_lv lv357 0 = some (.ref 117)) → (aj_lv lv357 1 = some (.int x358)) → (aj_lv lv357 2 = some (.int x359)) → (aj_lv lv357 3 = some (.int x360)) → (aj_lv lv357 5 = some (.int x361)) → (aw_I s h (aw_G g) S356) → (aw_fr [] [14, 17, 18, 19] S S356) → (1 ≤ x358.toInt ∧ x358.toInt ≤ 7) → (0 ≤ x359.toInt ∧ x359.toInt ≤ 1023) → (0 ≤ x360.toInt ∧ x360.toInt ≤ 30) → (0 ≤ x361.toInt ∧ x361.toInt ≤ 29) → ((S.1 30).toInt + 0 ≤ (S356.1 30).toInt) → (x360.toInt ≤ x361.toInt) → ((S356.2.2.1 14 49).toInt ≤ 29) → (x361.toInt).toNat < N → aw_W tb h d aj_m271 79 lv357 [] S356 ((ar_QB s h [] [14, 17, 18, 19] S (fun S' => aw_G g S' ∧ (S.1 30).toInt ≤ (S'.1 30).toInt) (fun S' => aw_G g S' ∧ (S.1 30).toInt + 0 ≤ (S'.1 30).toInt))) := by
  have hs : aw_sT s := aw_hy_sT hU.2.2
  intro N79
  induction N79 with
  | zero =>
    intro S356 lv357 x358 x359 x360 x361 hlv357_0 hlv357_1 hlv357_2 hlv357_3 hlv357_5 hI362 fr363 bx358 bx359 bx360 bx361 ck79 k79 r79 hm79
    omega
  | succ N79 ihL79_354 =>
    intro S356 lv357 x358 x359 x360 x361 hlv357_0 hlv357_1 hlv357_2 hlv357_3 hlv357_5 hI362 fr363 bx358 bx359 bx360 bx361 ck79 k79 r79 hm79
    have hI364 : aw_I s h (aw_sm S356) S356 := ⟨hI362.1, aw_sm_rf⟩
    have b365 : 0 ≤ (S356.1 30).toInt ∧ (S356.1 30).toInt ≤ 1001 := aw_bd_f hs (hI364).1 (by decide) rfl
    refine aw_l0 aj_d271 rfl rfl hlv357_5 ?_
    refine aw_l0 aj_d271 rfl rfl hlv357_3 ?_
    refine aw_c (tgt := 105) aj_d271 rfl rfl (fun q366 => ?_) (fun q366 => ?_)
    · have q366 : x361.toInt ≤ x360.toInt := aw_t_le (a := x361.toInt) (b := x360.toInt) rfl rfl q366
      refine aw_l2 aj_d271 rfl rfl hlv357_0 ?_
      refine aw_g hU.1 aj_d271 rfl rfl (by decide) (v := .ref 131) rfl ?_
      refine aw_n aj_d271 rfl rfl ?_
      refine aw_n aj_d271 rfl rfl ?_
      refine aw_ld (k := 14) hU.1 aj_d271 (Or.inl ⟨rfl, rfl⟩) rfl (by decide) (by decide) rfl (a := (49 : Int)) rfl (by omega) (by omega) (fun x367 ex367 => ?_)
      have bx367 : 0 ≤ x367.toInt ∧ x367.toInt ≤ 30 := by
        rw [ex367]
        exact aw_bd_a hs (hI364).1 (k := 14) (by decide) (by decide) rfl (by decide) rfl (by omega)
      have ftx367 : x367.toInt = (S356.2.2.1 14 49).toInt := congrArg Int32.toInt (ex367.trans (congrFun rfl _))
      refine aw_n aj_d271 rfl rfl ?_
      refine aw_add aj_d271 rfl (a := x367.toInt) (b := (1 : Int)) rfl rfl (by omega) (by omega) (fun x368 ex368 => ?_)
      refine aw_st (k := 14) hU.1 aj_d271 (Or.inl ⟨rfl, rfl⟩) rfl (by decide) (by decide) rfl (a := (49 : Int)) rfl (by omega) (by omega) ?_
      have hI369 := aw_I_a (aw_UV hU aw_Gs_sm) (k := 14) (j := ((49 : Int)).toNat) (v := aj_nar 0 x368) hI364 (by decide) (by decide) (by decide) rfl (by decide) (by decide) rfl (aw_bp (a := x368.toInt) rfl (by omega) (by omega))
      have fr370 := aw_fr_a (k := 14) (j := ((49 : Int)).toNat) (v := aj_nar 0 x368) (by decide) fr363
      refine aw_n aj_d271 rfl rfl ?_
      refine aw_t0 (j := 5) aj_d271 rfl (by decide) rfl ?_
      obtain ⟨lv371, elv371⟩ : ∃ l, l = aj_set1 lv357 5 (.int (Int32.ofInt 0)) := ⟨_, rfl⟩
      rw [← elv371]
      have hlv371_0 : aj_lv lv371 0 = some (.ref 117) := cw_e1 elv371 hlv357_0 (by decide) (Or.inl (by decide))
      have hlv371_1 : aj_lv lv371 1 = some (.int x358) := cw_e1 elv371 hlv357_1 (by decide) (Or.inl (by decide))
      have hlv371_2 : aj_lv lv371 2 = some (.int x359) := cw_e1 elv371 hlv357_2 (by decide) (Or.inl (by decide))
      have hlv371_3 : aj_lv lv371 3 = some (.int x360) := cw_e1 elv371 hlv357_3 (by decide) (Or.inl (by decide))
      have hlv371_5 : aj_lv lv371 5 = some (.int (Int32.ofInt 0)) := by rw [elv371]; exact ak_set1_eq _ _ _
      show aw_W _ _ _ _ 119 lv371 [] _ _
      exact (ar_comes_L119_371 hU hd N5 S7 x9 x10 x11 x12 ihL5_5 hm5 N79 S356 x358 x359 x360 x361 ihL79_354 hm79) _ (aw_wa S356 14 ((49 : Int)).toNat (aj_nar 0 x368)) lv371 (x358) (x359) (x360) ((Int32.ofInt 0)) hlv371_0 hlv371_1 hlv371_2 hlv371_3 hlv371_5 ⟨(hI369).1, (aw_G_sm hI369.2 hI362.2)⟩ fr370 (by omega) (by omega) (by omega) (by first | omega | decide) (show _ ≤ ((S356.1 30)).toInt by omega) (Nat.lt_succ_self _)
    · have q366 : x361.toInt > x360.toInt := aw_t_le (a := x361.toInt) (b := x360.toInt) rfl rfl q366
      refine aw_l2 aj_d271 rfl rfl hlv357_0 ?_
      refine aw_n aj_d271 rfl rfl ?_
      refine aw_l0 aj_d271 rfl rfl hlv357_5 ?_
      refine aw_n aj_d271 rfl rfl ?_
      refine aw_sub aj_d271 rfl (a := x361.toInt) (b := (1 : Int)) rfl rfl (by omega) (by omega) (fun x419 ex419 => ?_)
      refine aw_n aj_d271 rfl rfl ?_
      refine aw_l0 aj_d271 rfl rfl hlv357_5 ?_
      refine aw_k hU.1 aj_d271 rfl rfl [_, _, _, _] rfl rfl rfl (Nat.le_of_ble_eq_true rfl) (ar_copyRow hU (hI364).1 (aw_G_B hI362.2).1 (by omega) (t := (Int8.ofInt 49).toInt32) (r := x419) (u := (Int8.ofInt 49).toInt32) (v := x361) (by decide) (by omega) (by decide) (by omega)) ?_
      rintro _ S420 ⟨hT420, fc420, rfl, sk420, kv420⟩
      have hG420 := aw_G_sk hI362.2 sk420 kv420
      have fr421 := aw_fr_tr fr363 (aw_fr_sub (F := []) (A := [17, 18, 19]) (by decide) (by decide) fc420)
      have hI422 : aw_I s h (aw_sm S420) S420 := ⟨hT420, aw_sm_rf⟩
      show aw_W _ _ _ _ 99 lv357 [] _ _
      refine aw_inc aj_d271 rfl hlv357_5 (a := x361.toInt) rfl (by omega) (by omega) (by decide) (by decide) (fun x423 ex423 => ?_)
      obtain ⟨lv424, elv424⟩ : ∃ l, l = aj_set1 lv357 5 (.int x423) := ⟨_, rfl⟩
      rw [← elv424]
      have hlv424_0 : aj_lv lv424 0 = some (.ref 117) := cw_e1 elv424 hlv357_0 (by decide) (Or.inl (by decide))
      have hlv424_1 : aj_lv lv424 1 = some (.int x358) := cw_e1 elv424 hlv357_1 (by decide) (Or.inl (by decide))
      have hlv424_2 : aj_lv lv424 2 = some (.int x359) := cw_e1 elv424 hlv357_2 (by decide) (Or.inl (by decide))
      have hlv424_3 : aj_lv lv424 3 = some (.int x360) := cw_e1 elv424 hlv357_3 (by decide) (Or.inl (by decide))
      have hlv424_5 : aj_lv lv424 5 = some (.int x423) := by rw [elv424]; exact ak_set1_eq _ _ _
      show aw_W _ _ _ _ 102 lv424 [] _ _
      refine aw_n aj_d271 rfl rfl ?_
      have c425 : (S420.1 30).toInt = (S356.1 30).toInt := (congrArg Int32.toInt (fc420.1 30 (by decide)).1).trans rfl
      have b426 : 0 ≤ (S420.1 30).toInt ∧ (S420.1 30).toInt ≤ 1001 := aw_bd_f hs (hI422).1 (by decide) rfl
      exact ihL79_354 S420 lv424 (x358) (x359) (x360) (x423) hlv424_0 hlv424_1 hlv424_2 hlv424_3 hlv424_5 ⟨(hI422).1, hG420⟩ fr421 (by omega) (by omega) (by omega) (by omega) (show _ ≤ ((S420.1 30)).toInt by omega) (by omega) (by rw [show (S420.2.2.1 14) = S356.2.2.1 14 from ((fc420.2 14 (by decide)).1.trans rfl)]; omega) (by omega)
theorem ar_comes_L168_473 (hU : aw_U tb s h) (hd : 3 ≤ d + 1) (N5 : Nat) (S7 : aj_S) (x9 : Int32) (x10 : Int32) (x11 : Int32) (x12 : Int32) (ihL5_5 : ∀ (S7 : aj_S) (lv8 : aj_V) (x9 : Int32) (x10 : Int32) (x11 : Int32) (x12 : Int32), (aj_lv lv8 0 = some (.ref 117)) → (aj_lv lv8 1 = some (.int x9)) → (aj_lv lv8 2 = some (.int x10)) → (aj_lv lv8 3 = some (.int x11)) → (aj_lv lv8 4 = some (.int x12)) → (aw_I s h (aw_G g) S7) → (aw_fr [] [14, 17, 18, 19] S S7) → (1 ≤ x9.toInt ∧ x9.toInt ≤ 7) → (0 ≤ x10.toInt ∧ x10.toInt ≤ 1023) → (0 ≤ x11.toInt ∧ x11.toInt ≤ 30) → ((-1) ≤ x12.toInt ∧ x12.toInt ≤ 1) → ((S.1 30).toInt + 0 ≤ (S7.1 30).toInt) → (x11.toInt ≤ (S7.2.2.1 14 49).toInt) → (x12.toInt < 0) → (30 - x11.toInt).toNat < N5 → aw_W tb h d aj_m271 5 lv8 [] S7 ((ar_QB s h [] [14, 17, 18, 19] S (fun S' => aw_G g S' ∧ (S.1 30).toInt ≤ (S'.1 30).toInt) (fun S' => aw_G g S' ∧ (S.1 30).toInt + 0 ≤ (S'.1 30).toInt)))) (hm5 : (30 - x11.toInt).toNat < N5 + 1) (N79 : Nat) (S445 : aj_S) (x447 : Int32) (x448 : Int32) (x449 : Int32) (x450 : Int32) (ihL79_443 : ∀ (S445 : aj_S) (lv446 : aj_V) (x447 : Int32) (x448 : Int32) (x449 : Int32) (x450 : Int32), (aj_lv lv446 0 = some (.ref 117)) → (aj_lv lv446 1 = some (.int x447)) → (aj_lv lv446 2 = some (.int x448)) → (aj_lv lv446 3 = some (.int x449)) → (aj_lv lv446 5 = some (.int x450)) → (aw_I s h (aw_G g) S445) → (aw_fr [] [14, 17, 18, 19] S S445) → (1 ≤ x447.toInt ∧ x447.toInt ≤ 7) → (0 ≤ x448.toInt ∧ x448.toInt ≤ 1023) → (0 ≤ x449.toInt ∧ x449.toInt ≤ 30) → (0 ≤ x450.toInt ∧ x450.toInt ≤ 29) → ((S.1 30).toInt + 0 ≤ (S445.1 30).toInt) → (x449.toInt ≤ x450.toInt) → ((S445.2.2.1 14 49).toInt ≤ 29) → (x450.toInt).toNat < N79 → aw_W tb h d aj_m271 79 lv446 [] S445 ((ar_QB s h [] [14, 17, 18, 19] S (fun S' => aw_G g S' ∧ (S.1 30).toInt ≤ (S'.1 30).toInt) (fun S' => aw_G g S' ∧ (S.1 30).toInt + 0 ≤ (S'.1 30).toInt)))) (hm79 : (x450.toInt).toNat < N79 + 1) (N119 : Nat) (S462 : aj_S) (x464 : Int32) (x465 : Int32) (x466 : Int32) (x467 : Int32) (ihL119_460 : ∀ (S462 : aj_S) (lv463 : aj_V) (x464 : Int32) (x465 : Int32) (x466 : Int32) (x467 : Int32), (aj_lv lv463 0 = some (.ref 117)) → (aj_lv lv463 1 = some (.int x464)) → (aj_lv lv463 2 = some (.int x465)) → (aj_lv lv463 3 = some (.int x466)) → (aj_lv lv463 5 = some (.int x467)) → (aw_I s h (aw_G g) S462) → (aw_fr [] [14, 17, 18, 19] S S462) → (1 ≤ x464.toInt ∧ x464.toInt ≤ 7) → (0 ≤ x465.toInt ∧ x465.toInt ≤ 1023) → (0 ≤ x466.toInt ∧ x466.toInt ≤ 29) → (0 ≤ x467.toInt ∧ x467.toInt ≤ 7) → ((S.1 30).toInt + 0 ≤ (S462.1 30).toInt) → (7 - x467.toInt).toNat < N119 → aw_W tb h d aj_m271 119 lv463 [] S462 ((ar_QB s h [] [14, 17, 18, 19] S (fun S' => aw_G g S' ∧ (S.1 30).toInt ≤ (S'.1 30).toInt) (fun S' => aw_G g S' ∧ (S.1 30).toInt + 0 ≤ (S'.1 30).toInt)))) (hm119 : (7 - x467.toInt).toNat < N119 + 1) : ∀ (N : Nat) (S475 : aj_S) (lv476 : aj_V) (x477 : Int32) (x478 : Int32) (x479 : Int32), (aj_lv lv476 0 = some (.ref 117)) → (aj_lv lv476 2 = some (.int x477)) → (aj_lv lv476 3 = some (.int x478)) → (aj_lv lv476 5 = some (.int x479)) → (aw_I s h (aw_G g) S475) → (aw_fr [] [14, 17, 18, 19] S S475) → (0 ≤ x477.toInt ∧ x477.toInt ≤ 1023) → (0 ≤ x478.toInt ∧ x478.toInt ≤ 29) → (0 ≤ x479.toInt ∧ x479.toInt ≤ 32) → ((S.1 30).toInt + 0 ≤ (S475.1 30).toInt) → (32 - x479.toInt).toNat < N → aw_W tb h d aj_m271 168 lv476 [] S475 ((ar_QB s h [] [14, 17, 18, 19] S (fun S' => aw_G g S' ∧ (S.1 30).toInt ≤ (S'.1 30).toInt) (fun S' => aw_G g S' ∧ (S.1 30).toInt + 0 ≤ (S'.1 30).toInt))) := by
  have hs : aw_sT s := aw_hy_sT hU.2.2
  intro N168
  induction N168 with
  | zero =>
    intro S475 lv476 x477 x478 x479 hlv476_0 hlv476_2 hlv476_3 hlv476_5 hI480 fr481 bx477 bx478 bx479 ck168 hm168
    omega
  | succ N168 ihL168_473 =>
    intro S475 lv476 x477 x478 x479 hlv476_0 hlv476_2 hlv476_3 hlv476_5 hI480 fr481 bx477 bx478 bx479 ck168 hm168
    have hI482 : aw_I s h (aw_sm S475) S475 := ⟨hI480.1, aw_sm_rf⟩
    have b483 : 0 ≤ (S475.1 30).toInt ∧ (S475.1 30).toInt ≤ 1001 := aw_bd_f hs (hI482).1 (by decide) rfl
    refine aw_l0 aj_d271 rfl rfl hlv476_5 ?_
    refine aw_n aj_d271 rfl rfl ?_
    refine aw_c (tgt := 197) aj_d271 rfl rfl (fun q484 => ?_) (fun q484 => ?_)
    · have q484 : x479.toInt ≥ (32 : Int) := aw_t_ge (a := x479.toInt) (b := (32 : Int)) rfl rfl q484
      refine aw_l2 aj_d271 rfl rfl hlv476_0 ?_
      refine aw_g hU.1 aj_d271 rfl rfl (by decide) (v := .ref 136) rfl ?_
      refine aw_l2 aj_d271 rfl rfl hlv476_0 ?_
      refine aw_n aj_d271 rfl rfl ?_
      refine aw_l0 aj_d271 rfl rfl hlv476_3 ?_
      refine aw_k hU.1 aj_d271 rfl rfl [_, _] rfl rfl rfl (Nat.le_of_ble_eq_true rfl) (ar_at (by omega) (a := (49 : Int)) (b := x478.toInt) rfl rfl (by omega) (by omega)) ?_
      rintro _ zx485 ⟨fx485, x485, rfl, ex485⟩
      rw [fx485]
      show aw_W _ _ _ _ 208 lv476 [.int x485, .ref 136] _ _
      refine aw_l0 aj_d271 rfl rfl hlv476_2 ?_
      refine aw_n aj_d271 rfl rfl ?_
      refine aw_ks aj_d271 rfl rfl rfl [_, _, _, _] rfl rfl (Nat.le_of_ble_eq_true rfl) (ar_put hU (hI482).1 (by omega) (k := 19) (n := 48000) (by decide) (by decide) rfl rfl (a := (((49 : Int) * 30 + x478.toInt) * 32)) (b := x477.toInt) ex485 rfl (by omega) (by omega) (by omega) (by decide)) ?_
      rintro _ S486 ⟨hT486, fc486, rfl, pe486⟩
      have fr487 := aw_fr_tr fr481 (aw_fr_sub (F := []) (A := [19]) (by decide) (by decide) fc486)
      have hI488 : aw_I s h (aw_sm S475) S486 := ⟨hT486, aw_sm_tr hI482.2 (aw_fr_sm (by decide) (by decide) (by decide) (F := []) (A := [19]) fc486)⟩
      show aw_W _ _ _ _ 213 lv476 [] _ _
      refine aw_n aj_d271 rfl rfl ?_
      refine aw_e aj_d271 rfl rfl ?_
      have c489 : (S486.1 30).toInt = (S475.1 30).toInt := (congrArg Int32.toInt (fc486.1 30 (by decide)).1).trans rfl
      have b490 : 0 ≤ (S486.1 30).toInt ∧ (S486.1 30).toInt ≤ 1001 := aw_bd_f hs (hI488).1 (by decide) rfl
      exact ⟨(hI488).1, fr487, Or.inr ⟨_, rfl, rfl, (aw_G_sm hI488.2 hI480.2), (show _ + 0 ≤ ((S486.1 30)).toInt by omega)⟩⟩
    · have q484 : x479.toInt < (32 : Int) := aw_t_ge (a := x479.toInt) (b := (32 : Int)) rfl rfl q484
      refine aw_l2 aj_d271 rfl rfl hlv476_0 ?_
      refine aw_g hU.1 aj_d271 rfl rfl (by decide) (v := .ref 136) rfl ?_
      refine aw_l2 aj_d271 rfl rfl hlv476_0 ?_
      refine aw_n aj_d271 rfl rfl ?_
      refine aw_l0 aj_d271 rfl rfl hlv476_3 ?_
      refine aw_k hU.1 aj_d271 rfl rfl [_, _] rfl rfl rfl (Nat.le_of_ble_eq_true rfl) (ar_at (by omega) (a := (49 : Int)) (b := x478.toInt) rfl rfl (by omega) (by omega)) ?_
      rintro _ zx491 ⟨fx491, x491, rfl, ex491⟩
      rw [fx491]
      show aw_W _ _ _ _ 186 lv476 [.int x491, .ref 136] _ _
      refine aw_l0 aj_d271 rfl rfl hlv476_5 ?_
      refine aw_add aj_d271 rfl (a := (((49 : Int) * 30 + x478.toInt) * 32)) (b := x479.toInt) ex491 rfl (by omega) (by omega) (fun x492 ex492 => ?_)
      refine aw_n aj_d271 rfl rfl ?_
      refine aw_st (k := 19) hU.1 aj_d271 (Or.inl ⟨rfl, rfl⟩) rfl (by decide) (by decide) rfl (a := x492.toInt) rfl (by omega) (by omega) ?_
      have hI493 := aw_I_a (aw_UV hU aw_Gs_sm) (k := 19) (j := (x492.toInt).toNat) (v := aj_nar 0 (Int32.ofInt 0)) hI482 (by decide) (by decide) (by decide) rfl (by decide) (by decide) rfl (aw_full _)
      have fr494 := aw_fr_a (k := 19) (j := (x492.toInt).toNat) (v := aj_nar 0 (Int32.ofInt 0)) (by decide) fr481
      refine aw_inc aj_d271 rfl hlv476_5 (a := x479.toInt) rfl (by omega) (by omega) (by decide) (by decide) (fun x495 ex495 => ?_)
      obtain ⟨lv496, elv496⟩ : ∃ l, l = aj_set1 lv476 5 (.int x495) := ⟨_, rfl⟩
      rw [← elv496]
      have hlv496_0 : aj_lv lv496 0 = some (.ref 117) := cw_e1 elv496 hlv476_0 (by decide) (Or.inl (by decide))
      have hlv496_2 : aj_lv lv496 2 = some (.int x477) := cw_e1 elv496 hlv476_2 (by decide) (Or.inl (by decide))
      have hlv496_3 : aj_lv lv496 3 = some (.int x478) := cw_e1 elv496 hlv476_3 (by decide) (Or.inl (by decide))
      have hlv496_5 : aj_lv lv496 5 = some (.int x495) := by rw [elv496]; exact ak_set1_eq _ _ _
      show aw_W _ _ _ _ 194 lv496 [] _ _
      refine aw_n aj_d271 rfl rfl ?_
      exact ihL168_473 (aw_wa S475 19 (x492.toInt).toNat (aj_nar 0 (Int32.ofInt 0))) lv496 (x477) (x478) (x495) hlv496_0 hlv496_2 hlv496_3 hlv496_5 ⟨(hI493).1, (aw_G_sm hI493.2 hI480.2)⟩ fr494 (by omega) (by omega) (by omega) (show _ ≤ ((S475.1 30)).toInt by omega) (by omega)
theorem ar_comes_L119_460 (hU : aw_U tb s h) (hd : 3 ≤ d + 1) (N5 : Nat) (S7 : aj_S) (x9 : Int32) (x10 : Int32) (x11 : Int32) (x12 : Int32) (ihL5_5 : ∀ (S7 : aj_S) (lv8 : aj_V) (x9 : Int32) (x10 : Int32) (x11 : Int32) (x12 : Int32), (aj_lv lv8 0 = some (.ref 117)) → (aj_lv lv8 1 = some (.int x9)) → (aj_lv lv8 2 = some (.int x10)) → (aj_lv lv8 3 = some (.int x11)) → (aj_lv lv8 4 = some (.int x12)) → (aw_I s h (aw_G g) S7) → (aw_fr [] [14, 17, 18, 19] S S7) → (1 ≤ x9.toInt ∧ x9.toInt ≤ 7) → (0 ≤ x10.toInt ∧ x10.toInt ≤ 1023) → (0 ≤ x11.toInt ∧ x11.toInt ≤ 30) → ((-1) ≤ x12.toInt ∧ x12.toInt ≤ 1) → ((S.1 30).toInt + 0 ≤ (S7.1 30).toInt) → (x11.toInt ≤ (S7.2.2.1 14 49).toInt) → (x12.toInt < 0) → (30 - x11.toInt).toNat < N5 → aw_W tb h d aj_m271 5 lv8 [] S7 ((ar_QB s h [] [14, 17, 18, 19] S (fun S' => aw_G g S' ∧ (S.1 30).toInt ≤ (S'.1 30).toInt) (fun S' => aw_G g S' ∧ (S.1 30).toInt + 0 ≤ (S'.1 30).toInt)))) (hm5 : (30 - x11.toInt).toNat < N5 + 1) (N79 : Nat) (S445 : aj_S) (x447 : Int32) (x448 : Int32) (x449 : Int32) (x450 : Int32) (ihL79_443 : ∀ (S445 : aj_S) (lv446 : aj_V) (x447 : Int32) (x448 : Int32) (x449 : Int32) (x450 : Int32), (aj_lv lv446 0 = some (.ref 117)) → (aj_lv lv446 1 = some (.int x447)) → (aj_lv lv446 2 = some (.int x448)) → (aj_lv lv446 3 = some (.int x449)) → (aj_lv lv446 5 = some (.int x450)) → (aw_I s h (aw_G g) S445) → (aw_fr [] [14, 17, 18, 19] S S445) → (1 ≤ x447.toInt ∧ x447.toInt ≤ 7) → (0 ≤ x448.toInt ∧ x448.toInt ≤ 1023) → (0 ≤ x449.toInt ∧ x449.toInt ≤ 30) → (0 ≤ x450.toInt ∧ x450.toInt ≤ 29) → ((S.1 30).toInt + 0 ≤ (S445.1 30).toInt) → (x449.toInt ≤ x450.toInt) → ((S445.2.2.1 14 49).toInt ≤ 29) → (x450.toInt).toNat < N79 → aw_W tb h d aj_m271 79 lv446 [] S445 ((ar_QB s h [] [14, 17, 18, 19] S (fun S' => aw_G g S' ∧ (S.1 30).toInt ≤ (S'.1 30).toInt) (fun S' => aw_G g S' ∧ (S.1 30).toInt + 0 ≤ (S'.1 30).toInt)))) (hm79 : (x450.toInt).toNat < N79 + 1) : ∀ (N : Nat) (S462 : aj_S) (lv463 : aj_V) (x464 : Int32) (x465 : Int32) (x466 : Int32) (x467 : Int32), (aj_lv lv463 0 = some (.ref 117)) → (aj_lv lv463 1 = some (.int x464)) → (aj_lv lv463 2 = some (.int x465)) → (aj_lv lv463 3 = some (.int x466)) → (aj_lv lv463 5 = some (.int x467)) → (aw_I s h (aw_G g) S462) → (aw_fr [] [14, 17, 18, 19] S S462) → (1 ≤ x464.toInt ∧ x464.toInt ≤ 7) → (0 ≤ x465.toInt ∧ x465.toInt ≤ 1023) → (0 ≤ x466.toInt ∧ x466.toInt ≤ 29) → (0 ≤ x467.toInt ∧ x467.toInt ≤ 7) → ((S.1 30).toInt + 0 ≤ (S462.1 30).toInt) → (7 - x467.toInt).toNat < N → aw_W tb h d aj_m271 119 lv463 [] S462 ((ar_QB s h [] [14, 17, 18, 19] S (fun S' => aw_G g S' ∧ (S.1 30).toInt ≤ (S'.1 30).toInt) (fun S' => aw_G g S' ∧ (S.1 30).toInt + 0 ≤ (S'.1 30).toInt))) := by
  have hs : aw_sT s := aw_hy_sT hU.2.2
  intro N119
  induction N119 with
  | zero =>
    intro S462 lv463 x464 x465 x466 x467 hlv463_0 hlv463_1 hlv463_2 hlv463_3 hlv463_5 hI468 fr469 bx464 bx465 bx466 bx467 ck119 hm119
    omega
  | succ N119 ihL119_460 =>
    intro S462 lv463 x464 x465 x466 x467 hlv463_0 hlv463_1 hlv463_2 hlv463_3 hlv463_5 hI468 fr469 bx464 bx465 bx466 bx467 ck119 hm119
    have hI470 : aw_I s h (aw_sm S462) S462 := ⟨hI468.1, aw_sm_rf⟩
    have b471 : 0 ≤ (S462.1 30).toInt ∧ (S462.1 30).toInt ≤ 1001 := aw_bd_f hs (hI470).1 (by decide) rfl
    refine aw_l0 aj_d271 rfl rfl hlv463_5 ?_
    refine aw_l0 aj_d271 rfl rfl hlv463_1 ?_
    refine aw_c (tgt := 165) aj_d271 rfl rfl (fun q472 => ?_) (fun q472 => ?_)
    · have q472 : x467.toInt ≥ x464.toInt := aw_t_ge (a := x467.toInt) (b := x464.toInt) rfl rfl q472
      refine aw_n aj_d271 rfl rfl ?_
      refine aw_t0 (j := 5) aj_d271 rfl (by decide) rfl ?_
      obtain ⟨lv473, elv473⟩ : ∃ l, l = aj_set1 lv463 5 (.int (Int32.ofInt 0)) := ⟨_, rfl⟩
      rw [← elv473]
      have hlv473_0 : aj_lv lv473 0 = some (.ref 117) := cw_e1 elv473 hlv463_0 (by decide) (Or.inl (by decide))
      have hlv473_2 : aj_lv lv473 2 = some (.int x465) := cw_e1 elv473 hlv463_2 (by decide) (Or.inl (by decide))
      have hlv473_3 : aj_lv lv473 3 = some (.int x466) := cw_e1 elv473 hlv463_3 (by decide) (Or.inl (by decide))
      have hlv473_5 : aj_lv lv473 5 = some (.int (Int32.ofInt 0)) := by rw [elv473]; exact ak_set1_eq _ _ _
      show aw_W _ _ _ _ 168 lv473 [] _ _
      exact (ar_comes_L168_473 hU hd N5 S7 x9 x10 x11 x12 ihL5_5 hm5 N79 S445 x447 x448 x449 x450 ihL79_443 hm79 N119 S462 x464 x465 x466 x467 ihL119_460 hm119) _ S462 lv473 (x465) (x466) ((Int32.ofInt 0)) hlv473_0 hlv473_2 hlv473_3 hlv473_5 ⟨(hI470).1, hI468.2⟩ fr469 (by omega) (by omega) (by first | omega | decide) (show _ ≤ ((S462.1 30)).toInt by omega) (Nat.lt_succ_self _)
    · have q472 : x467.toInt < x464.toInt := aw_t_ge (a := x467.toInt) (b := x464.toInt) rfl rfl q472
      refine aw_l2 aj_d271 rfl rfl hlv463_0 ?_
      refine aw_g hU.1 aj_d271 rfl rfl (by decide) (v := .ref 134) rfl ?_
      refine aw_n aj_d271 rfl rfl ?_
      refine aw_l0 aj_d271 rfl rfl hlv463_3 ?_
      refine aw_l0 aj_d271 rfl rfl hlv463_5 ?_
      refine aw_ks aj_d271 rfl rfl rfl [_, _, _] rfl rfl (Nat.le_of_ble_eq_true rfl) (ar_cellAt (by omega) (a := (49 : Int)) (b := x466.toInt) (c := x467.toInt) rfl rfl rfl (by omega) (by omega) (by omega)) ?_
      rintro _ zx497 ⟨fx497, x497, rfl, ex497⟩
      rw [fx497]
      show aw_W _ _ _ _ 137 lv463 [.int x497, .ref 134] _ _
      refine aw_n aj_d271 rfl rfl ?_
      refine aw_st (k := 17) hU.1 aj_d271 (Or.inr (Or.inr (Or.inr ⟨rfl, rfl⟩))) rfl (by decide) (by decide) rfl (a := (((49 : Int) * 30 + x466.toInt) * 8 + x467.toInt)) ex497 (by omega) (by omega) ?_
      have hI498 : aw_I s h (aw_sm (aw_wa S462 17 ((((49 : Int) * 30 + x466.toInt) * 8 + x467.toInt)).toNat (aj_nar 4 (Int32.ofInt 0)))) (aw_wa S462 17 ((((49 : Int) * 30 + x466.toInt) * 8 + x467.toInt)).toNat (aj_nar 4 (Int32.ofInt 0))) := ⟨aw_T_a hU.2.1 hs hU.1.1 (hI470).1 (by decide) (by decide) rfl (by decide) (by decide) rfl (aw_nar4 (aw_bp (a := (0 : Int)) rfl (by omega) (by omega)) (by decide) (by decide)), aw_sm_rf⟩
      have fr499 := aw_fr_a (k := 17) (j := ((((49 : Int) * 30 + x466.toInt) * 8 + x467.toInt)).toNat) (v := aj_nar 4 (Int32.ofInt 0)) (by decide) fr469
      refine aw_l2 aj_d271 rfl rfl hlv463_0 ?_
      refine aw_g hU.1 aj_d271 rfl rfl (by decide) (v := .ref 135) rfl ?_
      refine aw_n aj_d271 rfl rfl ?_
      refine aw_l0 aj_d271 rfl rfl hlv463_3 ?_
      refine aw_l0 aj_d271 rfl rfl hlv463_5 ?_
      refine aw_ks aj_d271 rfl rfl rfl [_, _, _] rfl rfl (Nat.le_of_ble_eq_true rfl) (ar_cellAt (by omega) (a := (49 : Int)) (b := x466.toInt) (c := x467.toInt) rfl rfl rfl (by omega) (by omega) (by omega)) ?_
      rintro _ zx500 ⟨fx500, x500, rfl, ex500⟩
      rw [fx500]
      show aw_W _ _ _ _ 151 lv463 [.int x500, .ref 135] _ _
      refine aw_l2 aj_d271 rfl rfl hlv463_0 ?_
      refine aw_g hU.1 aj_d271 rfl rfl (by decide) (v := .ref 144) rfl ?_
      refine aw_l0 aj_d271 rfl rfl hlv463_5 ?_
      refine aw_ld (k := 27) hU.1 aj_d271 (Or.inl ⟨rfl, rfl⟩) rfl (by decide) (by decide) rfl (a := x467.toInt) rfl (by omega) (by omega) (fun x501 ex501 => ?_)
      refine aw_st (k := 18) hU.1 aj_d271 (Or.inl ⟨rfl, rfl⟩) rfl (by decide) (by decide) rfl (a := (((49 : Int) * 30 + x466.toInt) * 8 + x467.toInt)) ex500 (by omega) (by omega) ?_
      have hI502 : aw_I s h (aw_sm (aw_wa (aw_wa S462 17 ((((49 : Int) * 30 + x466.toInt) * 8 + x467.toInt)).toNat (aj_nar 4 (Int32.ofInt 0))) 18 ((((49 : Int) * 30 + x466.toInt) * 8 + x467.toInt)).toNat (aj_nar 0 x501))) (aw_wa (aw_wa S462 17 ((((49 : Int) * 30 + x466.toInt) * 8 + x467.toInt)).toNat (aj_nar 4 (Int32.ofInt 0))) 18 ((((49 : Int) * 30 + x466.toInt) * 8 + x467.toInt)).toNat (aj_nar 0 x501)) := ⟨aw_T_a hU.2.1 hs hU.1.1 (hI498).1 (by decide) (by decide) rfl (by decide) (by decide) rfl (aw_full _), aw_sm_rf⟩
      have fr503 := aw_fr_a (k := 18) (j := ((((49 : Int) * 30 + x466.toInt) * 8 + x467.toInt)).toNat) (v := aj_nar 0 x501) (by decide) fr499
      have hG504 := aw_G_sk (S' := (aw_wa (aw_wa S462 17 ((((49 : Int) * 30 + x466.toInt) * 8 + x467.toInt)).toNat (aj_nar 4 (Int32.ofInt 0))) 18 ((((49 : Int) * 30 + x466.toInt) * 8 + x467.toInt)).toNat (aj_nar 0 x501))) hI468.2 (aw_sk_2 aw_sk_rf) (aw_kv_2 (aw_G_B hI468.2).1 (by first | rfl | (congr 1) | omega) (fun z => absurd z (by decide)))
      have hI505 : aw_I s h (aw_sm (aw_wa (aw_wa S462 17 ((((49 : Int) * 30 + x466.toInt) * 8 + x467.toInt)).toNat (aj_nar 4 (Int32.ofInt 0))) 18 ((((49 : Int) * 30 + x466.toInt) * 8 + x467.toInt)).toNat (aj_nar 0 x501))) (aw_wa (aw_wa S462 17 ((((49 : Int) * 30 + x466.toInt) * 8 + x467.toInt)).toNat (aj_nar 4 (Int32.ofInt 0))) 18 ((((49 : Int) * 30 + x466.toInt) * 8 + x467.toInt)).toNat (aj_nar 0 x501)) := ⟨(hI502).1, aw_sm_rf⟩
      refine aw_inc aj_d271 rfl hlv463_5 (a := x467.toInt) rfl (by omega) (by omega) (by decide) (by decide) (fun x506 ex506 => ?_)
      obtain ⟨lv507, elv507⟩ : ∃ l, l = aj_set1 lv463 5 (.int x506) := ⟨_, rfl⟩
      rw [← elv507]
      have hlv507_0 : aj_lv lv507 0 = some (.ref 117) := cw_e1 elv507 hlv463_0 (by decide) (Or.inl (by decide))
      have hlv507_1 : aj_lv lv507 1 = some (.int x464) := cw_e1 elv507 hlv463_1 (by decide) (Or.inl (by decide))
      have hlv507_2 : aj_lv lv507 2 = some (.int x465) := cw_e1 elv507 hlv463_2 (by decide) (Or.inl (by decide))
      have hlv507_3 : aj_lv lv507 3 = some (.int x466) := cw_e1 elv507 hlv463_3 (by decide) (Or.inl (by decide))
      have hlv507_5 : aj_lv lv507 5 = some (.int x506) := by rw [elv507]; exact ak_set1_eq _ _ _
      show aw_W _ _ _ _ 162 lv507 [] _ _
      refine aw_n aj_d271 rfl rfl ?_
      exact ihL119_460 (aw_wa (aw_wa S462 17 ((((49 : Int) * 30 + x466.toInt) * 8 + x467.toInt)).toNat (aj_nar 4 (Int32.ofInt 0))) 18 ((((49 : Int) * 30 + x466.toInt) * 8 + x467.toInt)).toNat (aj_nar 0 x501)) lv507 (x464) (x465) (x466) (x506) hlv507_0 hlv507_1 hlv507_2 hlv507_3 hlv507_5 ⟨(hI505).1, hG504⟩ fr503 (by omega) (by omega) (by omega) (by omega) (show _ ≤ ((S462.1 30)).toInt by omega) (by omega)
theorem ar_comes_L79_443 (hU : aw_U tb s h) (hd : 3 ≤ d + 1) (N5 : Nat) (S7 : aj_S) (x9 : Int32) (x10 : Int32) (x11 : Int32) (x12 : Int32) (ihL5_5 : ∀ (S7 : aj_S) (lv8 : aj_V) (x9 : Int32) (x10 : Int32) (x11 : Int32) (x12 : Int32), (aj_lv lv8 0 = some (.ref 117)) → (aj_lv lv8 1 = some (.int x9)) → (aj_lv lv8 2 = some (.int x10)) → (aj_lv lv8 3 = some (.int x11)) → (aj_lv lv8 4 = some (.int x12)) → (aw_I s h (aw_G g) S7) → (aw_fr [] [14, 17, 18, 19] S S7) → (1 ≤ x9.toInt ∧ x9.toInt ≤ 7) → (0 ≤ x10.toInt ∧ x10.toInt ≤ 1023) → (0 ≤ x11.toInt ∧ x11.toInt ≤ 30) → ((-1) ≤ x12.toInt ∧ x12.toInt ≤ 1) → ((S.1 30).toInt + 0 ≤ (S7.1 30).toInt) → (x11.toInt ≤ (S7.2.2.1 14 49).toInt) → (x12.toInt < 0) → (30 - x11.toInt).toNat < N5 → aw_W tb h d aj_m271 5 lv8 [] S7 ((ar_QB s h [] [14, 17, 18, 19] S (fun S' => aw_G g S' ∧ (S.1 30).toInt ≤ (S'.1 30).toInt) (fun S' => aw_G g S' ∧ (S.1 30).toInt + 0 ≤ (S'.1 30).toInt)))) (hm5 : (30 - x11.toInt).toNat < N5 + 1) : ∀ (N : Nat) (S445 : aj_S) (lv446 : aj_V) (x447 : Int32) (x448 : Int32) (x449 : Int32) (x450 : Int32), (aj_lv lv446 0 = some (.ref 117)) → (aj_lv lv446 1 = some (.int x447)) → (aj_lv lv446 2 = some (.int x448)) → (aj_lv lv446 3 = some (.int x449)) → (aj_lv lv446 5 = some (.int x450)) → (aw_I s h (aw_G g) S445) → (aw_fr [] [14, 17, 18, 19] S S445) → (1 ≤ x447.toInt ∧ x447.toInt ≤ 7) → (0 ≤ x448.toInt ∧ x448.toInt ≤ 1023) → (0 ≤ x449.toInt ∧ x449.toInt ≤ 30) → (0 ≤ x450.toInt ∧ x450.toInt ≤ 29) → ((S.1 30).toInt + 0 ≤ (S445.1 30).toInt) → (x449.toInt ≤ x450.toInt) → ((S445.2.2.1 14 49).toInt ≤ 29) → (x450.toInt).toNat < N → aw_W tb h d aj_m271 79 lv446 [] S445 ((ar_QB s h [] [14, 17, 18, 19] S (fun S' => aw_G g S' ∧ (S.1 30).toInt ≤ (S'.1 30).toInt) (fun S' => aw_G g S' ∧ (S.1 30).toInt + 0 ≤ (S'.1 30).toInt))) := by
  have hs : aw_sT s := aw_hy_sT hU.2.2
  intro N79
  induction N79 with
  | zero =>
    intro S445 lv446 x447 x448 x449 x450 hlv446_0 hlv446_1 hlv446_2 hlv446_3 hlv446_5 hI451 fr452 bx447 bx448 bx449 bx450 ck79 k79 r79 hm79
    omega
  | succ N79 ihL79_443 =>
    intro S445 lv446 x447 x448 x449 x450 hlv446_0 hlv446_1 hlv446_2 hlv446_3 hlv446_5 hI451 fr452 bx447 bx448 bx449 bx450 ck79 k79 r79 hm79
    have hI453 : aw_I s h (aw_sm S445) S445 := ⟨hI451.1, aw_sm_rf⟩
    have b454 : 0 ≤ (S445.1 30).toInt ∧ (S445.1 30).toInt ≤ 1001 := aw_bd_f hs (hI453).1 (by decide) rfl
    refine aw_l0 aj_d271 rfl rfl hlv446_5 ?_
    refine aw_l0 aj_d271 rfl rfl hlv446_3 ?_
    refine aw_c (tgt := 105) aj_d271 rfl rfl (fun q455 => ?_) (fun q455 => ?_)
    · have q455 : x450.toInt ≤ x449.toInt := aw_t_le (a := x450.toInt) (b := x449.toInt) rfl rfl q455
      refine aw_l2 aj_d271 rfl rfl hlv446_0 ?_
      refine aw_g hU.1 aj_d271 rfl rfl (by decide) (v := .ref 131) rfl ?_
      refine aw_n aj_d271 rfl rfl ?_
      refine aw_n aj_d271 rfl rfl ?_
      refine aw_ld (k := 14) hU.1 aj_d271 (Or.inl ⟨rfl, rfl⟩) rfl (by decide) (by decide) rfl (a := (49 : Int)) rfl (by omega) (by omega) (fun x456 ex456 => ?_)
      have bx456 : 0 ≤ x456.toInt ∧ x456.toInt ≤ 30 := by
        rw [ex456]
        exact aw_bd_a hs (hI453).1 (k := 14) (by decide) (by decide) rfl (by decide) rfl (by omega)
      have ftx456 : x456.toInt = (S445.2.2.1 14 49).toInt := congrArg Int32.toInt (ex456.trans (congrFun rfl _))
      refine aw_n aj_d271 rfl rfl ?_
      refine aw_add aj_d271 rfl (a := x456.toInt) (b := (1 : Int)) rfl rfl (by omega) (by omega) (fun x457 ex457 => ?_)
      refine aw_st (k := 14) hU.1 aj_d271 (Or.inl ⟨rfl, rfl⟩) rfl (by decide) (by decide) rfl (a := (49 : Int)) rfl (by omega) (by omega) ?_
      have hI458 := aw_I_a (aw_UV hU aw_Gs_sm) (k := 14) (j := ((49 : Int)).toNat) (v := aj_nar 0 x457) hI453 (by decide) (by decide) (by decide) rfl (by decide) (by decide) rfl (aw_bp (a := x457.toInt) rfl (by omega) (by omega))
      have fr459 := aw_fr_a (k := 14) (j := ((49 : Int)).toNat) (v := aj_nar 0 x457) (by decide) fr452
      refine aw_n aj_d271 rfl rfl ?_
      refine aw_t0 (j := 5) aj_d271 rfl (by decide) rfl ?_
      obtain ⟨lv460, elv460⟩ : ∃ l, l = aj_set1 lv446 5 (.int (Int32.ofInt 0)) := ⟨_, rfl⟩
      rw [← elv460]
      have hlv460_0 : aj_lv lv460 0 = some (.ref 117) := cw_e1 elv460 hlv446_0 (by decide) (Or.inl (by decide))
      have hlv460_1 : aj_lv lv460 1 = some (.int x447) := cw_e1 elv460 hlv446_1 (by decide) (Or.inl (by decide))
      have hlv460_2 : aj_lv lv460 2 = some (.int x448) := cw_e1 elv460 hlv446_2 (by decide) (Or.inl (by decide))
      have hlv460_3 : aj_lv lv460 3 = some (.int x449) := cw_e1 elv460 hlv446_3 (by decide) (Or.inl (by decide))
      have hlv460_5 : aj_lv lv460 5 = some (.int (Int32.ofInt 0)) := by rw [elv460]; exact ak_set1_eq _ _ _
      show aw_W _ _ _ _ 119 lv460 [] _ _
      exact (ar_comes_L119_460 hU hd N5 S7 x9 x10 x11 x12 ihL5_5 hm5 N79 S445 x447 x448 x449 x450 ihL79_443 hm79) _ (aw_wa S445 14 ((49 : Int)).toNat (aj_nar 0 x457)) lv460 (x447) (x448) (x449) ((Int32.ofInt 0)) hlv460_0 hlv460_1 hlv460_2 hlv460_3 hlv460_5 ⟨(hI458).1, (aw_G_sm hI458.2 hI451.2)⟩ fr459 (by omega) (by omega) (by omega) (by first | omega | decide) (show _ ≤ ((S445.1 30)).toInt by omega) (Nat.lt_succ_self _)
    · have q455 : x450.toInt > x449.toInt := aw_t_le (a := x450.toInt) (b := x449.toInt) rfl rfl q455
      refine aw_l2 aj_d271 rfl rfl hlv446_0 ?_
      refine aw_n aj_d271 rfl rfl ?_
      refine aw_l0 aj_d271 rfl rfl hlv446_5 ?_
      refine aw_n aj_d271 rfl rfl ?_
      refine aw_sub aj_d271 rfl (a := x450.toInt) (b := (1 : Int)) rfl rfl (by omega) (by omega) (fun x508 ex508 => ?_)
      refine aw_n aj_d271 rfl rfl ?_
      refine aw_l0 aj_d271 rfl rfl hlv446_5 ?_
      refine aw_k hU.1 aj_d271 rfl rfl [_, _, _, _] rfl rfl rfl (Nat.le_of_ble_eq_true rfl) (ar_copyRow hU (hI453).1 (aw_G_B hI451.2).1 (by omega) (t := (Int8.ofInt 49).toInt32) (r := x508) (u := (Int8.ofInt 49).toInt32) (v := x450) (by decide) (by omega) (by decide) (by omega)) ?_
      rintro _ S509 ⟨hT509, fc509, rfl, sk509, kv509⟩
      have hG509 := aw_G_sk hI451.2 sk509 kv509
      have fr510 := aw_fr_tr fr452 (aw_fr_sub (F := []) (A := [17, 18, 19]) (by decide) (by decide) fc509)
      have hI511 : aw_I s h (aw_sm S509) S509 := ⟨hT509, aw_sm_rf⟩
      show aw_W _ _ _ _ 99 lv446 [] _ _
      refine aw_inc aj_d271 rfl hlv446_5 (a := x450.toInt) rfl (by omega) (by omega) (by decide) (by decide) (fun x512 ex512 => ?_)
      obtain ⟨lv513, elv513⟩ : ∃ l, l = aj_set1 lv446 5 (.int x512) := ⟨_, rfl⟩
      rw [← elv513]
      have hlv513_0 : aj_lv lv513 0 = some (.ref 117) := cw_e1 elv513 hlv446_0 (by decide) (Or.inl (by decide))
      have hlv513_1 : aj_lv lv513 1 = some (.int x447) := cw_e1 elv513 hlv446_1 (by decide) (Or.inl (by decide))
      have hlv513_2 : aj_lv lv513 2 = some (.int x448) := cw_e1 elv513 hlv446_2 (by decide) (Or.inl (by decide))
      have hlv513_3 : aj_lv lv513 3 = some (.int x449) := cw_e1 elv513 hlv446_3 (by decide) (Or.inl (by decide))
      have hlv513_5 : aj_lv lv513 5 = some (.int x512) := by rw [elv513]; exact ak_set1_eq _ _ _
      show aw_W _ _ _ _ 102 lv513 [] _ _
      refine aw_n aj_d271 rfl rfl ?_
      have c514 : (S509.1 30).toInt = (S445.1 30).toInt := (congrArg Int32.toInt (fc509.1 30 (by decide)).1).trans rfl
      have b515 : 0 ≤ (S509.1 30).toInt ∧ (S509.1 30).toInt ≤ 1001 := aw_bd_f hs (hI511).1 (by decide) rfl
      exact ihL79_443 S509 lv513 (x447) (x448) (x449) (x512) hlv513_0 hlv513_1 hlv513_2 hlv513_3 hlv513_5 ⟨(hI511).1, hG509⟩ fr510 (by omega) (by omega) (by omega) (by omega) (show _ ≤ ((S509.1 30)).toInt by omega) (by omega) (by rw [show (S509.2.2.1 14) = S445.2.2.1 14 from ((fc509.2 14 (by decide)).1.trans rfl)]; omega) (by omega)
theorem ar_comes_L168_556 (hU : aw_U tb s h) (hd : 3 ≤ d + 1) (N5 : Nat) (S7 : aj_S) (x9 : Int32) (x10 : Int32) (x11 : Int32) (x12 : Int32) (ihL5_5 : ∀ (S7 : aj_S) (lv8 : aj_V) (x9 : Int32) (x10 : Int32) (x11 : Int32) (x12 : Int32), (aj_lv lv8 0 = some (.ref 117)) → (aj_lv lv8 1 = some (.int x9)) → (aj_lv lv8 2 = some (.int x10)) → (aj_lv lv8 3 = some (.int x11)) → (aj_lv lv8 4 = some (.int x12)) → (aw_I s h (aw_G g) S7) → (aw_fr [] [14, 17, 18, 19] S S7) → (1 ≤ x9.toInt ∧ x9.toInt ≤ 7) → (0 ≤ x10.toInt ∧ x10.toInt ≤ 1023) → (0 ≤ x11.toInt ∧ x11.toInt ≤ 30) → ((-1) ≤ x12.toInt ∧ x12.toInt ≤ 1) → ((S.1 30).toInt + 0 ≤ (S7.1 30).toInt) → (x11.toInt ≤ (S7.2.2.1 14 49).toInt) → (x12.toInt < 0) → (30 - x11.toInt).toNat < N5 → aw_W tb h d aj_m271 5 lv8 [] S7 ((ar_QB s h [] [14, 17, 18, 19] S (fun S' => aw_G g S' ∧ (S.1 30).toInt ≤ (S'.1 30).toInt) (fun S' => aw_G g S' ∧ (S.1 30).toInt + 0 ≤ (S'.1 30).toInt)))) (hm5 : (30 - x11.toInt).toNat < N5 + 1) (N79 : Nat) (S528 : aj_S) (x530 : Int32) (x531 : Int32) (x532 : Int32) (x533 : Int32) (ihL79_526 : ∀ (S528 : aj_S) (lv529 : aj_V) (x530 : Int32) (x531 : Int32) (x532 : Int32) (x533 : Int32), (aj_lv lv529 0 = some (.ref 117)) → (aj_lv lv529 1 = some (.int x530)) → (aj_lv lv529 2 = some (.int x531)) → (aj_lv lv529 3 = some (.int x532)) → (aj_lv lv529 5 = some (.int x533)) → (aw_I s h (aw_G g) S528) → (aw_fr [] [14, 17, 18, 19] S S528) → (1 ≤ x530.toInt ∧ x530.toInt ≤ 7) → (0 ≤ x531.toInt ∧ x531.toInt ≤ 1023) → (0 ≤ x532.toInt ∧ x532.toInt ≤ 30) → (0 ≤ x533.toInt ∧ x533.toInt ≤ 29) → ((S.1 30).toInt + 0 ≤ (S528.1 30).toInt) → (x532.toInt ≤ x533.toInt) → ((S528.2.2.1 14 49).toInt ≤ 29) → (x533.toInt).toNat < N79 → aw_W tb h d aj_m271 79 lv529 [] S528 ((ar_QB s h [] [14, 17, 18, 19] S (fun S' => aw_G g S' ∧ (S.1 30).toInt ≤ (S'.1 30).toInt) (fun S' => aw_G g S' ∧ (S.1 30).toInt + 0 ≤ (S'.1 30).toInt)))) (hm79 : (x533.toInt).toNat < N79 + 1) (N119 : Nat) (S545 : aj_S) (x547 : Int32) (x548 : Int32) (x549 : Int32) (x550 : Int32) (ihL119_543 : ∀ (S545 : aj_S) (lv546 : aj_V) (x547 : Int32) (x548 : Int32) (x549 : Int32) (x550 : Int32), (aj_lv lv546 0 = some (.ref 117)) → (aj_lv lv546 1 = some (.int x547)) → (aj_lv lv546 2 = some (.int x548)) → (aj_lv lv546 3 = some (.int x549)) → (aj_lv lv546 5 = some (.int x550)) → (aw_I s h (aw_G g) S545) → (aw_fr [] [14, 17, 18, 19] S S545) → (1 ≤ x547.toInt ∧ x547.toInt ≤ 7) → (0 ≤ x548.toInt ∧ x548.toInt ≤ 1023) → (0 ≤ x549.toInt ∧ x549.toInt ≤ 29) → (0 ≤ x550.toInt ∧ x550.toInt ≤ 7) → ((S.1 30).toInt + 0 ≤ (S545.1 30).toInt) → (7 - x550.toInt).toNat < N119 → aw_W tb h d aj_m271 119 lv546 [] S545 ((ar_QB s h [] [14, 17, 18, 19] S (fun S' => aw_G g S' ∧ (S.1 30).toInt ≤ (S'.1 30).toInt) (fun S' => aw_G g S' ∧ (S.1 30).toInt + 0 ≤ (S'.1 30).toInt)))) (hm119 : (7 - x550.toInt).toNat < N119 + 1) : ∀ (N : Nat) (S558 : aj_S) (lv559 : aj_V) (x560 : Int32) (x561 : Int32) (x562 : Int32), (aj_lv lv559 0 = some (.ref 117)) → (aj_lv lv559 2 = some (.int x560)) → (aj_lv lv559 3 = some (.int x561)) → (aj_lv lv559 5 = some (.int x562)) → (aw_I s h (aw_G g) S558) → (aw_fr [] [14, 17, 18, 19] S S558) → (0 ≤ x560.toInt ∧ x560.toInt ≤ 1023) → (0 ≤ x561.toInt ∧ x561.toInt ≤ 29) → (0 ≤ x562.toInt ∧ x562.toInt ≤ 32) → ((S.1 30).toInt + 0 ≤ (S558.1 30).toInt) → (32 - x562.toInt).toNat < N → aw_W tb h d aj_m271 168 lv559 [] S558 ((ar_QB s h [] [14, 17, 18, 19] S (fun S' => aw_G g S' ∧ (S.1 30).toInt ≤ (S'.1 30).toInt) (fun S' => aw_G g S' ∧ (S.1 30).toInt + 0 ≤ (S'.1 30).toInt))) := by
  have hs : aw_sT s := aw_hy_sT hU.2.2
  intro N168
  induction N168 with
  | zero =>
    intro S558 lv559 x560 x561 x562 hlv559_0 hlv559_2 hlv559_3 hlv559_5 hI563 fr564 bx560 bx561 bx562 ck168 hm168
    omega
  | succ N168 ihL168_556 =>
    intro S558 lv559 x560 x561 x562 hlv559_0 hlv559_2 hlv559_3 hlv559_5 hI563 fr564 bx560 bx561 bx562 ck168 hm168
    have hI565 : aw_I s h (aw_sm S558) S558 := ⟨hI563.1, aw_sm_rf⟩
    have b566 : 0 ≤ (S558.1 30).toInt ∧ (S558.1 30).toInt ≤ 1001 := aw_bd_f hs (hI565).1 (by decide) rfl
    refine aw_l0 aj_d271 rfl rfl hlv559_5 ?_
    refine aw_n aj_d271 rfl rfl ?_
    refine aw_c (tgt := 197) aj_d271 rfl rfl (fun q567 => ?_) (fun q567 => ?_)
    · have q567 : x562.toInt ≥ (32 : Int) := aw_t_ge (a := x562.toInt) (b := (32 : Int)) rfl rfl q567
      refine aw_l2 aj_d271 rfl rfl hlv559_0 ?_
      refine aw_g hU.1 aj_d271 rfl rfl (by decide) (v := .ref 136) rfl ?_
      refine aw_l2 aj_d271 rfl rfl hlv559_0 ?_
      refine aw_n aj_d271 rfl rfl ?_
      refine aw_l0 aj_d271 rfl rfl hlv559_3 ?_
      refine aw_k hU.1 aj_d271 rfl rfl [_, _] rfl rfl rfl (Nat.le_of_ble_eq_true rfl) (ar_at (by omega) (a := (49 : Int)) (b := x561.toInt) rfl rfl (by omega) (by omega)) ?_
      rintro _ zx568 ⟨fx568, x568, rfl, ex568⟩
      rw [fx568]
      show aw_W _ _ _ _ 208 lv559 [.int x568, .ref 136] _ _
      refine aw_l0 aj_d271 rfl rfl hlv559_2 ?_
      refine aw_n aj_d271 rfl rfl ?_
      refine aw_ks aj_d271 rfl rfl rfl [_, _, _, _] rfl rfl (Nat.le_of_ble_eq_true rfl) (ar_put hU (hI565).1 (by omega) (k := 19) (n := 48000) (by decide) (by decide) rfl rfl (a := (((49 : Int) * 30 + x561.toInt) * 32)) (b := x560.toInt) ex568 rfl (by omega) (by omega) (by omega) (by decide)) ?_
      rintro _ S569 ⟨hT569, fc569, rfl, pe569⟩
      have fr570 := aw_fr_tr fr564 (aw_fr_sub (F := []) (A := [19]) (by decide) (by decide) fc569)
      have hI571 : aw_I s h (aw_sm S558) S569 := ⟨hT569, aw_sm_tr hI565.2 (aw_fr_sm (by decide) (by decide) (by decide) (F := []) (A := [19]) fc569)⟩
      show aw_W _ _ _ _ 213 lv559 [] _ _
      refine aw_n aj_d271 rfl rfl ?_
      refine aw_e aj_d271 rfl rfl ?_
      have c572 : (S569.1 30).toInt = (S558.1 30).toInt := (congrArg Int32.toInt (fc569.1 30 (by decide)).1).trans rfl
      have b573 : 0 ≤ (S569.1 30).toInt ∧ (S569.1 30).toInt ≤ 1001 := aw_bd_f hs (hI571).1 (by decide) rfl
      exact ⟨(hI571).1, fr570, Or.inr ⟨_, rfl, rfl, (aw_G_sm hI571.2 hI563.2), (show _ + 0 ≤ ((S569.1 30)).toInt by omega)⟩⟩
    · have q567 : x562.toInt < (32 : Int) := aw_t_ge (a := x562.toInt) (b := (32 : Int)) rfl rfl q567
      refine aw_l2 aj_d271 rfl rfl hlv559_0 ?_
      refine aw_g hU.1 aj_d271 rfl rfl (by decide) (v := .ref 136) rfl ?_
      refine aw_l2 aj_d271 rfl rfl hlv559_0 ?_
      refine aw_n aj_d271 rfl rfl ?_
      refine aw_l0 aj_d271 rfl rfl hlv559_3 ?_
      refine aw_k hU.1 aj_d271 rfl rfl [_, _] rfl rfl rfl (Nat.le_of_ble_eq_true rfl) (ar_at (by omega) (a := (49 : Int)) (b := x561.toInt) rfl rfl (by omega) (by omega)) ?_
      rintro _ zx574 ⟨fx574, x574, rfl, ex574⟩
      rw [fx574]
      show aw_W _ _ _ _ 186 lv559 [.int x574, .ref 136] _ _
      refine aw_l0 aj_d271 rfl rfl hlv559_5 ?_
      refine aw_add aj_d271 rfl (a := (((49 : Int) * 30 + x561.toInt) * 32)) (b := x562.toInt) ex574 rfl (by omega) (by omega) (fun x575 ex575 => ?_)
      refine aw_n aj_d271 rfl rfl ?_
      refine aw_st (k := 19) hU.1 aj_d271 (Or.inl ⟨rfl, rfl⟩) rfl (by decide) (by decide) rfl (a := x575.toInt) rfl (by omega) (by omega) ?_
      have hI576 := aw_I_a (aw_UV hU aw_Gs_sm) (k := 19) (j := (x575.toInt).toNat) (v := aj_nar 0 (Int32.ofInt 0)) hI565 (by decide) (by decide) (by decide) rfl (by decide) (by decide) rfl (aw_full _)
      have fr577 := aw_fr_a (k := 19) (j := (x575.toInt).toNat) (v := aj_nar 0 (Int32.ofInt 0)) (by decide) fr564
      refine aw_inc aj_d271 rfl hlv559_5 (a := x562.toInt) rfl (by omega) (by omega) (by decide) (by decide) (fun x578 ex578 => ?_)
      obtain ⟨lv579, elv579⟩ : ∃ l, l = aj_set1 lv559 5 (.int x578) := ⟨_, rfl⟩
      rw [← elv579]
      have hlv579_0 : aj_lv lv579 0 = some (.ref 117) := cw_e1 elv579 hlv559_0 (by decide) (Or.inl (by decide))
      have hlv579_2 : aj_lv lv579 2 = some (.int x560) := cw_e1 elv579 hlv559_2 (by decide) (Or.inl (by decide))
      have hlv579_3 : aj_lv lv579 3 = some (.int x561) := cw_e1 elv579 hlv559_3 (by decide) (Or.inl (by decide))
      have hlv579_5 : aj_lv lv579 5 = some (.int x578) := by rw [elv579]; exact ak_set1_eq _ _ _
      show aw_W _ _ _ _ 194 lv579 [] _ _
      refine aw_n aj_d271 rfl rfl ?_
      exact ihL168_556 (aw_wa S558 19 (x575.toInt).toNat (aj_nar 0 (Int32.ofInt 0))) lv579 (x560) (x561) (x578) hlv579_0 hlv579_2 hlv579_3 hlv579_5 ⟨(hI576).1, (aw_G_sm hI576.2 hI563.2)⟩ fr577 (by omega) (by omega) (by omega) (show _ ≤ ((S558.1 30)).toInt by omega) (by omega)
theorem ar_comes_L119_543 (hU : aw_U tb s h) (hd : 3 ≤ d + 1) (N5 : Nat) (S7 : aj_S) (x9 : Int32) (x10 : Int32) (x11 : Int32) (x12 : Int32) (ihL5_5 : ∀ (S7 : aj_S) (lv8 : aj_V) (x9 : Int32) (x10 : Int32) (x11 : Int32) (x12 : Int32), (aj_lv lv8 0 = some (.ref 117)) → (aj_lv lv8 1 = some (.int x9)) → (aj_lv lv8 2 = some (.int x10)) → (aj_lv lv8 3 = some (.int x11)) → (aj_lv lv8 4 = some (.int x12)) → (aw_I s h (aw_G g) S7) → (aw_fr [] [14, 17, 18, 19] S S7) → (1 ≤ x9.toInt ∧ x9.toInt ≤ 7) → (0 ≤ x10.toInt ∧ x10.toInt ≤ 1023) → (0 ≤ x11.toInt ∧ x11.toInt ≤ 30) → ((-1) ≤ x12.toInt ∧ x12.toInt ≤ 1) → ((S.1 30).toInt + 0 ≤ (S7.1 30).toInt) → (x11.toInt ≤ (S7.2.2.1 14 49).toInt) → (x12.toInt < 0) → (30 - x11.toInt).toNat < N5 → aw_W tb h d aj_m271 5 lv8 [] S7 ((ar_QB s h [] [14, 17, 18, 19] S (fun S' => aw_G g S' ∧ (S.1 30).toInt ≤ (S'.1 30).toInt) (fun S' => aw_G g S' ∧ (S.1 30).toInt + 0 ≤ (S'.1 30).toInt)))) (hm5 : (30 - x11.toInt).toNat < N5 + 1) (N79 : Nat) (S528 : aj_S) (x530 : Int32) (x531 : Int32) (x532 : Int32) (x533 : Int32) (ihL79_526 : ∀ (S528 : aj_S) (lv529 : aj_V) (x530 : Int32) (x531 : Int32) (x532 : Int32) (x533 : Int32), (aj_lv lv529 0 = some (.ref 117)) → (aj_lv lv529 1 = some (.int x530)) → (aj_lv lv529 2 = some (.int x531)) → (aj_lv lv529 3 = some (.int x532)) → (aj_lv lv529 5 = some (.int x533)) → (aw_I s h (aw_G g) S528) → (aw_fr [] [14, 17, 18, 19] S S528) → (1 ≤ x530.toInt ∧ x530.toInt ≤ 7) → (0 ≤ x531.toInt ∧ x531.toInt ≤ 1023) → (0 ≤ x532.toInt ∧ x532.toInt ≤ 30) → (0 ≤ x533.toInt ∧ x533.toInt ≤ 29) → ((S.1 30).toInt + 0 ≤ (S528.1 30).toInt) → (x532.toInt ≤ x533.toInt) → ((S528.2.2.1 14 49).toInt ≤ 29) → (x533.toInt).toNat < N79 → aw_W tb h d aj_m271 79 lv529 [] S528 ((ar_QB s h [] [14, 17, 18, 19] S (fun S' => aw_G g S' ∧ (S.1 30).toInt ≤ (S'.1 30).toInt) (fun S' => aw_G g S' ∧ (S.1 30).toInt + 0 ≤ (S'.1 30).toInt)))) (hm79 : (x533.toInt).toNat < N79 + 1) : ∀ (N : Nat) (S545 : aj_S) (lv546 : aj_V) (x547 : Int32) (x548 : Int32) (x549 : Int32) (x550 : Int32), (aj_lv lv546 0 = some (.ref 117)) → (aj_lv lv546 1 = some (.int x547)) → (aj_lv lv546 2 = some (.int x548)) → (aj_lv lv546 3 = some (.int x549)) → (aj_lv lv546 5 = some (.int x550)) → (aw_I s h (aw_G g) S545) → (aw_fr [] [14, 17, 18, 19] S S545) → (1 ≤ x547.toInt ∧ x547.toInt ≤ 7) → (0 ≤ x548.toInt ∧ x548.toInt ≤ 1023) → (0 ≤ x549.toInt ∧ x549.toInt ≤ 29) → (0 ≤ x550.toInt ∧ x550.toInt ≤ 7) → ((S.1 30).toInt + 0 ≤ (S545.1 30).toInt) → (7 - x550.toInt).toNat < N → aw_W tb h d aj_m271 119 lv546 [] S545 ((ar_QB s h [] [14, 17, 18, 19] S (fun S' => aw_G g S' ∧ (S.1 30).toInt ≤ (S'.1 30).toInt) (fun S' => aw_G g S' ∧ (S.1 30).toInt + 0 ≤ (S'.1 30).toInt))) := by
  have hs : aw_sT s := aw_hy_sT hU.2.2
  intro N119
  induction N119 with
  | zero =>
    intro S545 lv546 x547 x548 x549 x550 hlv546_0 hlv546_1 hlv546_2 hlv546_3 hlv546_5 hI551 fr552 bx547 bx548 bx549 bx550 ck119 hm119
    omega
  | succ N119 ihL119_543 =>
    intro S545 lv546 x547 x548 x549 x550 hlv546_0 hlv546_1 hlv546_2 hlv546_3 hlv546_5 hI551 fr552 bx547 bx548 bx549 bx550 ck119 hm119
    have hI553 : aw_I s h (aw_sm S545) S545 := ⟨hI551.1, aw_sm_rf⟩
    have b554 : 0 ≤ (S545.1 30).toInt ∧ (S545.1 30).toInt ≤ 1001 := aw_bd_f hs (hI553).1 (by decide) rfl
    refine aw_l0 aj_d271 rfl rfl hlv546_5 ?_
    refine aw_l0 aj_d271 rfl rfl hlv546_1 ?_
    refine aw_c (tgt := 165) aj_d271 rfl rfl (fun q555 => ?_) (fun q555 => ?_)
    · have q555 : x550.toInt ≥ x547.toInt := aw_t_ge (a := x550.toInt) (b := x547.toInt) rfl rfl q555
      refine aw_n aj_d271 rfl rfl ?_
      refine aw_t0 (j := 5) aj_d271 rfl (by decide) rfl ?_
      obtain ⟨lv556, elv556⟩ : ∃ l, l = aj_set1 lv546 5 (.int (Int32.ofInt 0)) := ⟨_, rfl⟩
      rw [← elv556]
      have hlv556_0 : aj_lv lv556 0 = some (.ref 117) := cw_e1 elv556 hlv546_0 (by decide) (Or.inl (by decide))
      have hlv556_2 : aj_lv lv556 2 = some (.int x548) := cw_e1 elv556 hlv546_2 (by decide) (Or.inl (by decide))
      have hlv556_3 : aj_lv lv556 3 = some (.int x549) := cw_e1 elv556 hlv546_3 (by decide) (Or.inl (by decide))
      have hlv556_5 : aj_lv lv556 5 = some (.int (Int32.ofInt 0)) := by rw [elv556]; exact ak_set1_eq _ _ _
      show aw_W _ _ _ _ 168 lv556 [] _ _
      exact (ar_comes_L168_556 hU hd N5 S7 x9 x10 x11 x12 ihL5_5 hm5 N79 S528 x530 x531 x532 x533 ihL79_526 hm79 N119 S545 x547 x548 x549 x550 ihL119_543 hm119) _ S545 lv556 (x548) (x549) ((Int32.ofInt 0)) hlv556_0 hlv556_2 hlv556_3 hlv556_5 ⟨(hI553).1, hI551.2⟩ fr552 (by omega) (by omega) (by first | omega | decide) (show _ ≤ ((S545.1 30)).toInt by omega) (Nat.lt_succ_self _)
    · have q555 : x550.toInt < x547.toInt := aw_t_ge (a := x550.toInt) (b := x547.toInt) rfl rfl q555
      refine aw_l2 aj_d271 rfl rfl hlv546_0 ?_
      refine aw_g hU.1 aj_d271 rfl rfl (by decide) (v := .ref 134) rfl ?_
      refine aw_n aj_d271 rfl rfl ?_
      refine aw_l0 aj_d271 rfl rfl hlv546_3 ?_
      refine aw_l0 aj_d271 rfl rfl hlv546_5 ?_
      refine aw_ks aj_d271 rfl rfl rfl [_, _, _] rfl rfl (Nat.le_of_ble_eq_true rfl) (ar_cellAt (by omega) (a := (49 : Int)) (b := x549.toInt) (c := x550.toInt) rfl rfl rfl (by omega) (by omega) (by omega)) ?_
      rintro _ zx580 ⟨fx580, x580, rfl, ex580⟩
      rw [fx580]
      show aw_W _ _ _ _ 137 lv546 [.int x580, .ref 134] _ _
      refine aw_n aj_d271 rfl rfl ?_
      refine aw_st (k := 17) hU.1 aj_d271 (Or.inr (Or.inr (Or.inr ⟨rfl, rfl⟩))) rfl (by decide) (by decide) rfl (a := (((49 : Int) * 30 + x549.toInt) * 8 + x550.toInt)) ex580 (by omega) (by omega) ?_
      have hI581 : aw_I s h (aw_sm (aw_wa S545 17 ((((49 : Int) * 30 + x549.toInt) * 8 + x550.toInt)).toNat (aj_nar 4 (Int32.ofInt 0)))) (aw_wa S545 17 ((((49 : Int) * 30 + x549.toInt) * 8 + x550.toInt)).toNat (aj_nar 4 (Int32.ofInt 0))) := ⟨aw_T_a hU.2.1 hs hU.1.1 (hI553).1 (by decide) (by decide) rfl (by decide) (by decide) rfl (aw_nar4 (aw_bp (a := (0 : Int)) rfl (by omega) (by omega)) (by decide) (by decide)), aw_sm_rf⟩
      have fr582 := aw_fr_a (k := 17) (j := ((((49 : Int) * 30 + x549.toInt) * 8 + x550.toInt)).toNat) (v := aj_nar 4 (Int32.ofInt 0)) (by decide) fr552
      refine aw_l2 aj_d271 rfl rfl hlv546_0 ?_
      refine aw_g hU.1 aj_d271 rfl rfl (by decide) (v := .ref 135) rfl ?_
      refine aw_n aj_d271 rfl rfl ?_
      refine aw_l0 aj_d271 rfl rfl hlv546_3 ?_
      refine aw_l0 aj_d271 rfl rfl hlv546_5 ?_
      refine aw_ks aj_d271 rfl rfl rfl [_, _, _] rfl rfl (Nat.le_of_ble_eq_true rfl) (ar_cellAt (by omega) (a := (49 : Int)) (b := x549.toInt) (c := x550.toInt) rfl rfl rfl (by omega) (by omega) (by omega)) ?_
      rintro _ zx583 ⟨fx583, x583, rfl, ex583⟩
      rw [fx583]
      show aw_W _ _ _ _ 151 lv546 [.int x583, .ref 135] _ _
      refine aw_l2 aj_d271 rfl rfl hlv546_0 ?_
      refine aw_g hU.1 aj_d271 rfl rfl (by decide) (v := .ref 144) rfl ?_
      refine aw_l0 aj_d271 rfl rfl hlv546_5 ?_
      refine aw_ld (k := 27) hU.1 aj_d271 (Or.inl ⟨rfl, rfl⟩) rfl (by decide) (by decide) rfl (a := x550.toInt) rfl (by omega) (by omega) (fun x584 ex584 => ?_)
      refine aw_st (k := 18) hU.1 aj_d271 (Or.inl ⟨rfl, rfl⟩) rfl (by decide) (by decide) rfl (a := (((49 : Int) * 30 + x549.toInt) * 8 + x550.toInt)) ex583 (by omega) (by omega) ?_
      have hI585 : aw_I s h (aw_sm (aw_wa (aw_wa S545 17 ((((49 : Int) * 30 + x549.toInt) * 8 + x550.toInt)).toNat (aj_nar 4 (Int32.ofInt 0))) 18 ((((49 : Int) * 30 + x549.toInt) * 8 + x550.toInt)).toNat (aj_nar 0 x584))) (aw_wa (aw_wa S545 17 ((((49 : Int) * 30 + x549.toInt) * 8 + x550.toInt)).toNat (aj_nar 4 (Int32.ofInt 0))) 18 ((((49 : Int) * 30 + x549.toInt) * 8 + x550.toInt)).toNat (aj_nar 0 x584)) := ⟨aw_T_a hU.2.1 hs hU.1.1 (hI581).1 (by decide) (by decide) rfl (by decide) (by decide) rfl (aw_full _), aw_sm_rf⟩
      have fr586 := aw_fr_a (k := 18) (j := ((((49 : Int) * 30 + x549.toInt) * 8 + x550.toInt)).toNat) (v := aj_nar 0 x584) (by decide) fr582
      have hG587 := aw_G_sk (S' := (aw_wa (aw_wa S545 17 ((((49 : Int) * 30 + x549.toInt) * 8 + x550.toInt)).toNat (aj_nar 4 (Int32.ofInt 0))) 18 ((((49 : Int) * 30 + x549.toInt) * 8 + x550.toInt)).toNat (aj_nar 0 x584))) hI551.2 (aw_sk_2 aw_sk_rf) (aw_kv_2 (aw_G_B hI551.2).1 (by first | rfl | (congr 1) | omega) (fun z => absurd z (by decide)))
      have hI588 : aw_I s h (aw_sm (aw_wa (aw_wa S545 17 ((((49 : Int) * 30 + x549.toInt) * 8 + x550.toInt)).toNat (aj_nar 4 (Int32.ofInt 0))) 18 ((((49 : Int) * 30 + x549.toInt) * 8 + x550.toInt)).toNat (aj_nar 0 x584))) (aw_wa (aw_wa S545 17 ((((49 : Int) * 30 + x549.toInt) * 8 + x550.toInt)).toNat (aj_nar 4 (Int32.ofInt 0))) 18 ((((49 : Int) * 30 + x549.toInt) * 8 + x550.toInt)).toNat (aj_nar 0 x584)) := ⟨(hI585).1, aw_sm_rf⟩
      refine aw_inc aj_d271 rfl hlv546_5 (a := x550.toInt) rfl (by omega) (by omega) (by decide) (by decide) (fun x589 ex589 => ?_)
      obtain ⟨lv590, elv590⟩ : ∃ l, l = aj_set1 lv546 5 (.int x589) := ⟨_, rfl⟩
      rw [← elv590]
      have hlv590_0 : aj_lv lv590 0 = some (.ref 117) := cw_e1 elv590 hlv546_0 (by decide) (Or.inl (by decide))
      have hlv590_1 : aj_lv lv590 1 = some (.int x547) := cw_e1 elv590 hlv546_1 (by decide) (Or.inl (by decide))
      have hlv590_2 : aj_lv lv590 2 = some (.int x548) := cw_e1 elv590 hlv546_2 (by decide) (Or.inl (by decide))
      have hlv590_3 : aj_lv lv590 3 = some (.int x549) := cw_e1 elv590 hlv546_3 (by decide) (Or.inl (by decide))
      have hlv590_5 : aj_lv lv590 5 = some (.int x589) := by rw [elv590]; exact ak_set1_eq _ _ _
      show aw_W _ _ _ _ 162 lv590 [] _ _
      refine aw_n aj_d271 rfl rfl ?_
      exact ihL119_543 (aw_wa (aw_wa S545 17 ((((49 : Int) * 30 + x549.toInt) * 8 + x550.toInt)).toNat (aj_nar 4 (Int32.ofInt 0))) 18 ((((49 : Int) * 30 + x549.toInt) * 8 + x550.toInt)).toNat (aj_nar 0 x584)) lv590 (x547) (x548) (x549) (x589) hlv590_0 hlv590_1 hlv590_2 hlv590_3 hlv590_5 ⟨(hI588).1, hG587⟩ fr586 (by omega) (by omega) (by omega) (by omega) (show _ ≤ ((S545.1 30)).toInt by omega) (by omega)
theorem ar_comes_L79_526 (hU : aw_U tb s h) (hd : 3 ≤ d + 1) (N5 : Nat) (S7 : aj_S) (x9 : Int32) (x10 : Int32) (x11 : Int32) (x12 : Int32) (ihL5_5 : ∀ (S7 : aj_S) (lv8 : aj_V) (x9 : Int32) (x10 : Int32) (x11 : Int32) (x12 : Int32), (aj_lv lv8 0 = some (.ref 117)) → (aj_lv lv8 1 = some (.int x9)) → (aj_lv lv8 2 = some (.int x10)) → (aj_lv lv8 3 = some (.int x11)) → (aj_lv lv8 4 = some (.int x12)) → (aw_I s h (aw_G g) S7) → (aw_fr [] [14, 17, 18, 19] S S7) → (1 ≤ x9.toInt ∧ x9.toInt ≤ 7) → (0 ≤ x10.toInt ∧ x10.toInt ≤ 1023) → (0 ≤ x11.toInt ∧ x11.toInt ≤ 30) → ((-1) ≤ x12.toInt ∧ x12.toInt ≤ 1) → ((S.1 30).toInt + 0 ≤ (S7.1 30).toInt) → (x11.toInt ≤ (S7.2.2.1 14 49).toInt) → (x12.toInt < 0) → (30 - x11.toInt).toNat < N5 → aw_W tb h d aj_m271 5 lv8 [] S7 ((ar_QB s h [] [14, 17, 18, 19] S (fun S' => aw_G g S' ∧ (S.1 30).toInt ≤ (S'.1 30).toInt) (fun S' => aw_G g S' ∧ (S.1 30).toInt + 0 ≤ (S'.1 30).toInt)))) (hm5 : (30 - x11.toInt).toNat < N5 + 1) : ∀ (N : Nat) (S528 : aj_S) (lv529 : aj_V) (x530 : Int32) (x531 : Int32) (x532 : Int32) (x533 : Int32), (aj_lv lv529 0 = some (.ref 117)) → (aj_lv lv529 1 = some (.int x530)) → (aj_lv lv529 2 = some (.int x531)) → (aj_lv lv529 3 = some (.int x532)) → (aj_lv lv529 5 = some (.int x533)) → (aw_I s h (aw_G g) S528) → (aw_fr [] [14, 17, 18, 19] S S528) → (1 ≤ x530.toInt ∧ x530.toInt ≤ 7) → (0 ≤ x531.toInt ∧ x531.toInt ≤ 1023) → (0 ≤ x532.toInt ∧ x532.toInt ≤ 30) → (0 ≤ x533.toInt ∧ x533.toInt ≤ 29) → ((S.1 30).toInt + 0 ≤ (S528.1 30).toInt) → (x532.toInt ≤ x533.toInt) → ((S528.2.2.1 14 49).toInt ≤ 29) → (x533.toInt).toNat < N → aw_W tb h d aj_m271 79 lv529 [] S528 ((ar_QB s h [] [14, 17, 18, 19] S (fun S' => aw_G g S' ∧ (S.1 30).toInt ≤ (S'.1 30).toInt) (fun S' => aw_G g S' ∧ (S.1 30).toInt + 0 ≤ (S'.1 30).toInt))) := by
  have hs : aw_sT s := aw_hy_sT hU.2.2
  intro N79
  induction N79 with
  | zero =>
    intro S528 lv529 x530 x531 x532 x533 hlv529_0 hlv529_1 hlv529_2 hlv529_3 hlv529_5 hI534 fr535 bx530 bx531 bx532 bx533 ck79 k79 r79 hm79
    omega
  | succ N79 ihL79_526 =>
    intro S528 lv529 x530 x531 x532 x533 hlv529_0 hlv529_1 hlv529_2 hlv529_3 hlv529_5 hI534 fr535 bx530 bx531 bx532 bx533 ck79 k79 r79 hm79
    have hI536 : aw_I s h (aw_sm S528) S528 := ⟨hI534.1, aw_sm_rf⟩
    have b537 : 0 ≤ (S528.1 30).toInt ∧ (S528.1 30).toInt ≤ 1001 := aw_bd_f hs (hI536).1 (by decide) rfl
    refine aw_l0 aj_d271 rfl rfl hlv529_5 ?_
    refine aw_l0 aj_d271 rfl rfl hlv529_3 ?_
    refine aw_c (tgt := 105) aj_d271 rfl rfl (fun q538 => ?_) (fun q538 => ?_)
    · have q538 : x533.toInt ≤ x532.toInt := aw_t_le (a := x533.toInt) (b := x532.toInt) rfl rfl q538
      refine aw_l2 aj_d271 rfl rfl hlv529_0 ?_
      refine aw_g hU.1 aj_d271 rfl rfl (by decide) (v := .ref 131) rfl ?_
      refine aw_n aj_d271 rfl rfl ?_
      refine aw_n aj_d271 rfl rfl ?_
      refine aw_ld (k := 14) hU.1 aj_d271 (Or.inl ⟨rfl, rfl⟩) rfl (by decide) (by decide) rfl (a := (49 : Int)) rfl (by omega) (by omega) (fun x539 ex539 => ?_)
      have bx539 : 0 ≤ x539.toInt ∧ x539.toInt ≤ 30 := by
        rw [ex539]
        exact aw_bd_a hs (hI536).1 (k := 14) (by decide) (by decide) rfl (by decide) rfl (by omega)
      have ftx539 : x539.toInt = (S528.2.2.1 14 49).toInt := congrArg Int32.toInt (ex539.trans (congrFun rfl _))
      refine aw_n aj_d271 rfl rfl ?_
      refine aw_add aj_d271 rfl (a := x539.toInt) (b := (1 : Int)) rfl rfl (by omega) (by omega) (fun x540 ex540 => ?_)
      refine aw_st (k := 14) hU.1 aj_d271 (Or.inl ⟨rfl, rfl⟩) rfl (by decide) (by decide) rfl (a := (49 : Int)) rfl (by omega) (by omega) ?_
      have hI541 := aw_I_a (aw_UV hU aw_Gs_sm) (k := 14) (j := ((49 : Int)).toNat) (v := aj_nar 0 x540) hI536 (by decide) (by decide) (by decide) rfl (by decide) (by decide) rfl (aw_bp (a := x540.toInt) rfl (by omega) (by omega))
      have fr542 := aw_fr_a (k := 14) (j := ((49 : Int)).toNat) (v := aj_nar 0 x540) (by decide) fr535
      refine aw_n aj_d271 rfl rfl ?_
      refine aw_t0 (j := 5) aj_d271 rfl (by decide) rfl ?_
      obtain ⟨lv543, elv543⟩ : ∃ l, l = aj_set1 lv529 5 (.int (Int32.ofInt 0)) := ⟨_, rfl⟩
      rw [← elv543]
      have hlv543_0 : aj_lv lv543 0 = some (.ref 117) := cw_e1 elv543 hlv529_0 (by decide) (Or.inl (by decide))
      have hlv543_1 : aj_lv lv543 1 = some (.int x530) := cw_e1 elv543 hlv529_1 (by decide) (Or.inl (by decide))
      have hlv543_2 : aj_lv lv543 2 = some (.int x531) := cw_e1 elv543 hlv529_2 (by decide) (Or.inl (by decide))
      have hlv543_3 : aj_lv lv543 3 = some (.int x532) := cw_e1 elv543 hlv529_3 (by decide) (Or.inl (by decide))
      have hlv543_5 : aj_lv lv543 5 = some (.int (Int32.ofInt 0)) := by rw [elv543]; exact ak_set1_eq _ _ _
      show aw_W _ _ _ _ 119 lv543 [] _ _
      exact (ar_comes_L119_543 hU hd N5 S7 x9 x10 x11 x12 ihL5_5 hm5 N79 S528 x530 x531 x532 x533 ihL79_526 hm79) _ (aw_wa S528 14 ((49 : Int)).toNat (aj_nar 0 x540)) lv543 (x530) (x531) (x532) ((Int32.ofInt 0)) hlv543_0 hlv543_1 hlv543_2 hlv543_3 hlv543_5 ⟨(hI541).1, (aw_G_sm hI541.2 hI534.2)⟩ fr542 (by omega) (by omega) (by omega) (by first | omega | decide) (show _ ≤ ((S528.1 30)).toInt by omega) (Nat.lt_succ_self _)
    · have q538 : x533.toInt > x532.toInt := aw_t_le (a := x533.toInt) (b := x532.toInt) rfl rfl q538
      refine aw_l2 aj_d271 rfl rfl hlv529_0 ?_
      refine aw_n aj_d271 rfl rfl ?_
      refine aw_l0 aj_d271 rfl rfl hlv529_5 ?_
      refine aw_n aj_d271 rfl rfl ?_
      refine aw_sub aj_d271 rfl (a := x533.toInt) (b := (1 : Int)) rfl rfl (by omega) (by omega) (fun x591 ex591 => ?_)
      refine aw_n aj_d271 rfl rfl ?_
      refine aw_l0 aj_d271 rfl rfl hlv529_5 ?_
      refine aw_k hU.1 aj_d271 rfl rfl [_, _, _, _] rfl rfl rfl (Nat.le_of_ble_eq_true rfl) (ar_copyRow hU (hI536).1 (aw_G_B hI534.2).1 (by omega) (t := (Int8.ofInt 49).toInt32) (r := x591) (u := (Int8.ofInt 49).toInt32) (v := x533) (by decide) (by omega) (by decide) (by omega)) ?_
      rintro _ S592 ⟨hT592, fc592, rfl, sk592, kv592⟩
      have hG592 := aw_G_sk hI534.2 sk592 kv592
      have fr593 := aw_fr_tr fr535 (aw_fr_sub (F := []) (A := [17, 18, 19]) (by decide) (by decide) fc592)
      have hI594 : aw_I s h (aw_sm S592) S592 := ⟨hT592, aw_sm_rf⟩
      show aw_W _ _ _ _ 99 lv529 [] _ _
      refine aw_inc aj_d271 rfl hlv529_5 (a := x533.toInt) rfl (by omega) (by omega) (by decide) (by decide) (fun x595 ex595 => ?_)
      obtain ⟨lv596, elv596⟩ : ∃ l, l = aj_set1 lv529 5 (.int x595) := ⟨_, rfl⟩
      rw [← elv596]
      have hlv596_0 : aj_lv lv596 0 = some (.ref 117) := cw_e1 elv596 hlv529_0 (by decide) (Or.inl (by decide))
      have hlv596_1 : aj_lv lv596 1 = some (.int x530) := cw_e1 elv596 hlv529_1 (by decide) (Or.inl (by decide))
      have hlv596_2 : aj_lv lv596 2 = some (.int x531) := cw_e1 elv596 hlv529_2 (by decide) (Or.inl (by decide))
      have hlv596_3 : aj_lv lv596 3 = some (.int x532) := cw_e1 elv596 hlv529_3 (by decide) (Or.inl (by decide))
      have hlv596_5 : aj_lv lv596 5 = some (.int x595) := by rw [elv596]; exact ak_set1_eq _ _ _
      show aw_W _ _ _ _ 102 lv596 [] _ _
      refine aw_n aj_d271 rfl rfl ?_
      have c597 : (S592.1 30).toInt = (S528.1 30).toInt := (congrArg Int32.toInt (fc592.1 30 (by decide)).1).trans rfl
      have b598 : 0 ≤ (S592.1 30).toInt ∧ (S592.1 30).toInt ≤ 1001 := aw_bd_f hs (hI594).1 (by decide) rfl
      exact ihL79_526 S592 lv596 (x530) (x531) (x532) (x595) hlv596_0 hlv596_1 hlv596_2 hlv596_3 hlv596_5 ⟨(hI594).1, hG592⟩ fr593 (by omega) (by omega) (by omega) (by omega) (show _ ≤ ((S592.1 30)).toInt by omega) (by omega) (by rw [show (S592.2.2.1 14) = S528.2.2.1 14 from ((fc592.2 14 (by decide)).1.trans rfl)]; omega) (by omega)
theorem ar_comes_L168_645 (hU : aw_U tb s h) (hd : 3 ≤ d + 1) (N5 : Nat) (S7 : aj_S) (x9 : Int32) (x10 : Int32) (x11 : Int32) (x12 : Int32) (ihL5_5 : ∀ (S7 : aj_S) (lv8 : aj_V) (x9 : Int32) (x10 : Int32) (x11 : Int32) (x12 : Int32), (aj_lv lv8 0 = some (.ref 117)) → (aj_lv lv8 1 = some (.int x9)) → (aj_lv lv8 2 = some (.int x10)) → (aj_lv lv8 3 = some (.int x11)) → (aj_lv lv8 4 = some (.int x12)) → (aw_I s h (aw_G g) S7) → (aw_fr [] [14, 17, 18, 19] S S7) → (1 ≤ x9.toInt ∧ x9.toInt ≤ 7) → (0 ≤ x10.toInt ∧ x10.toInt ≤ 1023) → (0 ≤ x11.toInt ∧ x11.toInt ≤ 30) → ((-1) ≤ x12.toInt ∧ x12.toInt ≤ 1) → ((S.1 30).toInt + 0 ≤ (S7.1 30).toInt) → (x11.toInt ≤ (S7.2.2.1 14 49).toInt) → (x12.toInt < 0) → (30 - x11.toInt).toNat < N5 → aw_W tb h d aj_m271 5 lv8 [] S7 ((ar_QB s h [] [14, 17, 18, 19] S (fun S' => aw_G g S' ∧ (S.1 30).toInt ≤ (S'.1 30).toInt) (fun S' => aw_G g S' ∧ (S.1 30).toInt + 0 ≤ (S'.1 30).toInt)))) (hm5 : (30 - x11.toInt).toNat < N5 + 1) (N79 : Nat) (S617 : aj_S) (x619 : Int32) (x620 : Int32) (x621 : Int32) (x622 : Int32) (ihL79_615 : ∀ (S617 : aj_S) (lv618 : aj_V) (x619 : Int32) (x620 : Int32) (x621 : Int32) (x622 : Int32), (aj_lv lv618 0 = some (.ref 117)) → (aj_lv lv618 1 = some (.int x619)) → (aj_lv lv618 2 = some (.int x620)) → (aj_lv lv618 3 = some (.int x621)) → (aj_lv lv618 5 = some (.int x622)) → (aw_I s h (aw_G g) S617) → (aw_fr [] [14, 17, 18, 19] S S617) → (1 ≤ x619.toInt ∧ x619.toInt ≤ 7) → (0 ≤ x620.toInt ∧ x620.toInt ≤ 1023) → (0 ≤ x621.toInt ∧ x621.toInt ≤ 30) → (0 ≤ x622.toInt ∧ x622.toInt ≤ 29) → ((S.1 30).toInt + 0 ≤ (S617.1 30).toInt) → (x621.toInt ≤ x622.toInt) → ((S617.2.2.1 14 49).toInt ≤ 29) → (x622.toInt).toNat < N79 → aw_W tb h d aj_m271 79 lv618 [] S617 ((ar_QB s h [] [14, 17, 18, 19] S (fun S' => aw_G g S' ∧ (S.1 30).toInt ≤ (S'.1 30).toInt) (fun S' => aw_G g S' ∧ (S.1 30).toInt + 0 ≤ (S'.1 30).toInt)))) (hm79 : (x622.toInt).toNat < N79 + 1) (N119 : Nat) (S634 : aj_S) (x636 : Int32) (x637 : Int32) (x638 : Int32) (x639 : Int32) (ihL119_632 : ∀ (S634 : aj_S) (lv635 : aj_V) (x636 : Int32) (x637 : Int32) (x638 : Int32) (x639 : Int32), (aj_lv lv635 0 = some (.ref 117)) → (aj_lv lv635 1 = some (.int x636)) → (aj_lv lv635 2 = some (.int x637)) → (aj_lv lv635 3 = some (.int x638)) → (aj_lv lv635 5 = some (.int x639)) → (aw_I s h (aw_G g) S634) → (aw_fr [] [14, 17, 18, 19] S S634) → (1 ≤ x636.toInt ∧ x636.toInt ≤ 7) → (0 ≤ x637.toInt ∧ x637.toInt ≤ 1023) → (0 ≤ x638.toInt ∧ x638.toInt ≤ 29) → (0 ≤ x639.toInt ∧ x639.toInt ≤ 7) → ((S.1 30).toInt + 0 ≤ (S634.1 30).toInt) → (7 - x639.toInt).toNat < N119 → aw_W tb h d aj_m271 119 lv635 [] S634 ((ar_QB s h [] [14, 17, 18, 19] S (fun S' => aw_G g S' ∧ (S.1 30).toInt ≤ (S'.1 30).toInt) (fun S' => aw_G g S' ∧ (S.1 30).toInt + 0 ≤ (S'.1 30).toInt)))) (hm119 : (7 - x639.toInt).toNat < N119 + 1) : ∀ (N : Nat) (S647 : aj_S) (lv648 : aj_V) (x649 : Int32) (x650 : Int32) (x651 : Int32), (aj_lv lv648 0 = some (.ref 117)) → (aj_lv lv648 2 = some (.int x649)) → (aj_lv lv648 3 = some (.int x650)) → (aj_lv lv648 5 = some (.int x651)) → (aw_I s h (aw_G g) S647) → (aw_fr [] [14, 17, 18, 19] S S647) → (0 ≤ x649.toInt ∧ x649.toInt ≤ 1023) → (0 ≤ x650.toInt ∧ x650.toInt ≤ 29) → (0 ≤ x651.toInt ∧ x651.toInt ≤ 32) → ((S.1 30).toInt + 0 ≤ (S647.1 30).toInt) → (32 - x651.toInt).toNat < N → aw_W tb h d aj_m271 168 lv648 [] S647 ((ar_QB s h [] [14, 17, 18, 19] S (fun S' => aw_G g S' ∧ (S.1 30).toInt ≤ (S'.1 30).toInt) (fun S' => aw_G g S' ∧ (S.1 30).toInt + 0 ≤ (S'.1 30).toInt))) := by
  have hs : aw_sT s := aw_hy_sT hU.2.2
  intro N168
  induction N168 with
  | zero =>
    intro S647 lv648 x649 x650 x651 hlv648_0 hlv648_2 hlv648_3 hlv648_5 hI652 fr653 bx649 bx650 bx651 ck168 hm168
    omega
  | succ N168 ihL168_645 =>
    intro S647 lv648 x649 x650 x651 hlv648_0 hlv648_2 hlv648_3 hlv648_5 hI652 fr653 bx649 bx650 bx651 ck168 hm168
    have hI654 : aw_I s h (aw_sm S647) S647 := ⟨hI652.1, aw_sm_rf⟩
    have b655 : 0 ≤ (S647.1 30).toInt ∧ (S647.1 30).toInt ≤ 1001 := aw_bd_f hs (hI654).1 (by decide) rfl
    refine aw_l0 aj_d271 rfl rfl hlv648_5 ?_
    refine aw_n aj_d271 rfl rfl ?_
    refine aw_c (tgt := 197) aj_d271 rfl rfl (fun q656 => ?_) (fun q656 => ?_)
    · have q656 : x651.toInt ≥ (32 : Int) := aw_t_ge (a := x651.toInt) (b := (32 : Int)) rfl rfl q656
      refine aw_l2 aj_d271 rfl rfl hlv648_0 ?_
      refine aw_g hU.1 aj_d271 rfl rfl (by decide) (v := .ref 136) rfl ?_
      refine aw_l2 aj_d271 rfl rfl hlv648_0 ?_
      refine aw_n aj_d271 rfl rfl ?_
      refine aw_l0 aj_d271 rfl rfl hlv648_3 ?_
      refine aw_k hU.1 aj_d271 rfl rfl [_, _] rfl rfl rfl (Nat.le_of_ble_eq_true rfl) (ar_at (by omega) (a := (49 : Int)) (b := x650.toInt) rfl rfl (by omega) (by omega)) ?_
      rintro _ zx657 ⟨fx657, x657, rfl, ex657⟩
      rw [fx657]
      show aw_W _ _ _ _ 208 lv648 [.int x657, .ref 136] _ _
      refine aw_l0 aj_d271 rfl rfl hlv648_2 ?_
      refine aw_n aj_d271 rfl rfl ?_
      refine aw_ks aj_d271 rfl rfl rfl [_, _, _, _] rfl rfl (Nat.le_of_ble_eq_true rfl) (ar_put hU (hI654).1 (by omega) (k := 19) (n := 48000) (by decide) (by decide) rfl rfl (a := (((49 : Int) * 30 + x650.toInt) * 32)) (b := x649.toInt) ex657 rfl (by omega) (by omega) (by omega) (by decide)) ?_
      rintro _ S658 ⟨hT658, fc658, rfl, pe658⟩
      have fr659 := aw_fr_tr fr653 (aw_fr_sub (F := []) (A := [19]) (by decide) (by decide) fc658)
      have hI660 : aw_I s h (aw_sm S647) S658 := ⟨hT658, aw_sm_tr hI654.2 (aw_fr_sm (by decide) (by decide) (by decide) (F := []) (A := [19]) fc658)⟩
      show aw_W _ _ _ _ 213 lv648 [] _ _
      refine aw_n aj_d271 rfl rfl ?_
      refine aw_e aj_d271 rfl rfl ?_
      have c661 : (S658.1 30).toInt = (S647.1 30).toInt := (congrArg Int32.toInt (fc658.1 30 (by decide)).1).trans rfl
      have b662 : 0 ≤ (S658.1 30).toInt ∧ (S658.1 30).toInt ≤ 1001 := aw_bd_f hs (hI660).1 (by decide) rfl
      exact ⟨(hI660).1, fr659, Or.inr ⟨_, rfl, rfl, (aw_G_sm hI660.2 hI652.2), (show _ + 0 ≤ ((S658.1 30)).toInt by omega)⟩⟩
    · have q656 : x651.toInt < (32 : Int) := aw_t_ge (a := x651.toInt) (b := (32 : Int)) rfl rfl q656
      refine aw_l2 aj_d271 rfl rfl hlv648_0 ?_
      refine aw_g hU.1 aj_d271 rfl rfl (by decide) (v := .ref 136) rfl ?_
      refine aw_l2 aj_d271 rfl rfl hlv648_0 ?_
      refine aw_n aj_d271 rfl rfl ?_
      refine aw_l0 aj_d271 rfl rfl hlv648_3 ?_
      refine aw_k hU.1 aj_d271 rfl rfl [_, _] rfl rfl rfl (Nat.le_of_ble_eq_true rfl) (ar_at (by omega) (a := (49 : Int)) (b := x650.toInt) rfl rfl (by omega) (by omega)) ?_
      rintro _ zx663 ⟨fx663, x663, rfl, ex663⟩
      rw [fx663]
      show aw_W _ _ _ _ 186 lv648 [.int x663, .ref 136] _ _
      refine aw_l0 aj_d271 rfl rfl hlv648_5 ?_
      refine aw_add aj_d271 rfl (a := (((49 : Int) * 30 + x650.toInt) * 32)) (b := x651.toInt) ex663 rfl (by omega) (by omega) (fun x664 ex664 => ?_)
      refine aw_n aj_d271 rfl rfl ?_
      refine aw_st (k := 19) hU.1 aj_d271 (Or.inl ⟨rfl, rfl⟩) rfl (by decide) (by decide) rfl (a := x664.toInt) rfl (by omega) (by omega) ?_
      have hI665 := aw_I_a (aw_UV hU aw_Gs_sm) (k := 19) (j := (x664.toInt).toNat) (v := aj_nar 0 (Int32.ofInt 0)) hI654 (by decide) (by decide) (by decide) rfl (by decide) (by decide) rfl (aw_full _)
      have fr666 := aw_fr_a (k := 19) (j := (x664.toInt).toNat) (v := aj_nar 0 (Int32.ofInt 0)) (by decide) fr653
      refine aw_inc aj_d271 rfl hlv648_5 (a := x651.toInt) rfl (by omega) (by omega) (by decide) (by decide) (fun x667 ex667 => ?_)
      obtain ⟨lv668, elv668⟩ : ∃ l, l = aj_set1 lv648 5 (.int x667) := ⟨_, rfl⟩
      rw [← elv668]
      have hlv668_0 : aj_lv lv668 0 = some (.ref 117) := cw_e1 elv668 hlv648_0 (by decide) (Or.inl (by decide))
      have hlv668_2 : aj_lv lv668 2 = some (.int x649) := cw_e1 elv668 hlv648_2 (by decide) (Or.inl (by decide))
      have hlv668_3 : aj_lv lv668 3 = some (.int x650) := cw_e1 elv668 hlv648_3 (by decide) (Or.inl (by decide))
      have hlv668_5 : aj_lv lv668 5 = some (.int x667) := by rw [elv668]; exact ak_set1_eq _ _ _
      show aw_W _ _ _ _ 194 lv668 [] _ _
      refine aw_n aj_d271 rfl rfl ?_
      exact ihL168_645 (aw_wa S647 19 (x664.toInt).toNat (aj_nar 0 (Int32.ofInt 0))) lv668 (x649) (x650) (x667) hlv668_0 hlv668_2 hlv668_3 hlv668_5 ⟨(hI665).1, (aw_G_sm hI665.2 hI652.2)⟩ fr666 (by omega) (by omega) (by omega) (show _ ≤ ((S647.1 30)).toInt by omega) (by omega)
theorem ar_comes_L119_632 (hU : aw_U tb s h) (hd : 3 ≤ d + 1) (N5 : Nat) (S7 : aj_S) (x9 : Int32) (x10 : Int32) (x11 : Int32) (x12 : Int32) (ihL5_5 : ∀ (S7 : aj_S) (lv8 : aj_V) (x9 : Int32) (x10 : Int32) (x11 : Int32) (x12 : Int32), (aj_lv lv8 0 = some (.ref 117)) → (aj_lv lv8 1 = some (.int x9)) → (aj_lv lv8 2 = some (.int x10)) → (aj_lv lv8 3 = some (.int x11)) → (aj_lv lv8 4 = some (.int x12)) → (aw_I s h (aw_G g) S7) → (aw_fr [] [14, 17, 18, 19] S S7) → (1 ≤ x9.toInt ∧ x9.toInt ≤ 7) → (0 ≤ x10.toInt ∧ x10.toInt ≤ 1023) → (0 ≤ x11.toInt ∧ x11.toInt ≤ 30) → ((-1) ≤ x12.toInt ∧ x12.toInt ≤ 1) → ((S.1 30).toInt + 0 ≤ (S7.1 30).toInt) → (x11.toInt ≤ (S7.2.2.1 14 49).toInt) → (x12.toInt < 0) → (30 - x11.toInt).toNat < N5 → aw_W tb h d aj_m271 5 lv8 [] S7 ((ar_QB s h [] [14, 17, 18, 19] S (fun S' => aw_G g S' ∧ (S.1 30).toInt ≤ (S'.1 30).toInt) (fun S' => aw_G g S' ∧ (S.1 30).toInt + 0 ≤ (S'.1 30).toInt)))) (hm5 : (30 - x11.toInt).toNat < N5 + 1) (N79 : Nat) (S617 : aj_S) (x619 : Int32) (x620 : Int32) (x621 : Int32) (x622 : Int32) (ihL79_615 : ∀ (S617 : aj_S) (lv618 : aj_V) (x619 : Int32) (x620 : Int32) (x621 : Int32) (x622 : Int32), (aj_lv lv618 0 = some (.ref 117)) → (aj_lv lv618 1 = some (.int x619)) → (aj_lv lv618 2 = some (.int x620)) → (aj_lv lv618 3 = some (.int x621)) → (aj_lv lv618 5 = some (.int x622)) → (aw_I s h (aw_G g) S617) → (aw_fr [] [14, 17, 18, 19] S S617) → (1 ≤ x619.toInt ∧ x619.toInt ≤ 7) → (0 ≤ x620.toInt ∧ x620.toInt ≤ 1023) → (0 ≤ x621.toInt ∧ x621.toInt ≤ 30) → (0 ≤ x622.toInt ∧ x622.toInt ≤ 29) → ((S.1 30).toInt + 0 ≤ (S617.1 30).toInt) → (x621.toInt ≤ x622.toInt) → ((S617.2.2.1 14 49).toInt ≤ 29) → (x622.toInt).toNat < N79 → aw_W tb h d aj_m271 79 lv618 [] S617 ((ar_QB s h [] [14, 17, 18, 19] S (fun S' => aw_G g S' ∧ (S.1 30).toInt ≤ (S'.1 30).toInt) (fun S' => aw_G g S' ∧ (S.1 30).toInt + 0 ≤ (S'.1 30).toInt)))) (hm79 : (x622.toInt).toNat < N79 + 1) : ∀ (N : Nat) (S634 : aj_S) (lv635 : aj_V) (x636 : Int32) (x637 : Int32) (x638 : Int32) (x639 : Int32), (aj_lv lv635 0 = some (.ref 117)) → (aj_lv lv635 1 = some (.int x636)) → (aj_lv lv635 2 = some (.int x637)) → (aj_lv lv635 3 = some (.int x638)) → (aj_lv lv635 5 = some (.int x639)) → (aw_I s h (aw_G g) S634) → (aw_fr [] [14, 17, 18, 19] S S634) → (1 ≤ x636.toInt ∧ x636.toInt ≤ 7) → (0 ≤ x637.toInt ∧ x637.toInt ≤ 1023) → (0 ≤ x638.toInt ∧ x638.toInt ≤ 29) → (0 ≤ x639.toInt ∧ x639.toInt ≤ 7) → ((S.1 30).toInt + 0 ≤ (S634.1 30).toInt) → (7 - x639.toInt).toNat < N → aw_W tb h d aj_m271 119 lv635 [] S634 ((ar_QB s h [] [14, 17, 18, 19] S (fun S' => aw_G g S' ∧ (S.1 30).toInt ≤ (S'.1 30).toInt) (fun S' => aw_G g S' ∧ (S.1 30).toInt + 0 ≤ (S'.1 30).toInt))) := by
  have hs : aw_sT s := aw_hy_sT hU.2.2
  intro N119
  induction N119 with
  | zero =>
    intro S634 lv635 x636 x637 x638 x639 hlv635_0 hlv635_1 hlv635_2 hlv635_3 hlv635_5 hI640 fr641 bx636 bx637 bx638 bx639 ck119 hm119
    omega
  | succ N119 ihL119_632 =>
    intro S634 lv635 x636 x637 x638 x639 hlv635_0 hlv635_1 hlv635_2 hlv635_3 hlv635_5 hI640 fr641 bx636 bx637 bx638 bx639 ck119 hm119
    have hI642 : aw_I s h (aw_sm S634) S634 := ⟨hI640.1, aw_sm_rf⟩
    have b643 : 0 ≤ (S634.1 30).toInt ∧ (S634.1 30).toInt ≤ 1001 := aw_bd_f hs (hI642).1 (by decide) rfl
    refine aw_l0 aj_d271 rfl rfl hlv635_5 ?_
    refine aw_l0 aj_d271 rfl rfl hlv635_1 ?_
    refine aw_c (tgt := 165) aj_d271 rfl rfl (fun q644 => ?_) (fun q644 => ?_)
    · have q644 : x639.toInt ≥ x636.toInt := aw_t_ge (a := x639.toInt) (b := x636.toInt) rfl rfl q644
      refine aw_n aj_d271 rfl rfl ?_
      refine aw_t0 (j := 5) aj_d271 rfl (by decide) rfl ?_
      obtain ⟨lv645, elv645⟩ : ∃ l, l = aj_set1 lv635 5 (.int (Int32.ofInt 0)) := ⟨_, rfl⟩
      rw [← elv645]
      have hlv645_0 : aj_lv lv645 0 = some (.ref 117) := cw_e1 elv645 hlv635_0 (by decide) (Or.inl (by decide))
      have hlv645_2 : aj_lv lv645 2 = some (.int x637) := cw_e1 elv645 hlv635_2 (by decide) (Or.inl (by decide))
      have hlv645_3 : aj_lv lv645 3 = some (.int x638) := cw_e1 elv645 hlv635_3 (by decide) (Or.inl (by decide))
      have hlv645_5 : aj_lv lv645 5 = some (.int (Int32.ofInt 0)) := by rw [elv645]; exact ak_set1_eq _ _ _
      show aw_W _ _ _ _ 168 lv645 [] _ _
      exact (ar_comes_L168_645 hU hd N5 S7 x9 x10 x11 x12 ihL5_5 hm5 N79 S617 x619 x620 x621 x622 ihL79_615 hm79 N119 S634 x636 x637 x638 x639 ihL119_632 hm119) _ S634 lv645 (x637) (x638) ((Int32.ofInt 0)) hlv645_0 hlv645_2 hlv645_3 hlv645_5 ⟨(hI642).1, hI640.2⟩ fr641 (by omega) (by omega) (by first | omega | decide) (show _ ≤ ((S634.1 30)).toInt by omega) (Nat.lt_succ_self _)
    · have q644 : x639.toInt < x636.toInt := aw_t_ge (a := x639.toInt) (b := x636.toInt) rfl rfl q644
      refine aw_l2 aj_d271 rfl rfl hlv635_0 ?_
      refine aw_g hU.1 aj_d271 rfl rfl (by decide) (v := .ref 134) rfl ?_
      refine aw_n aj_d271 rfl rfl ?_
      refine aw_l0 aj_d271 rfl rfl hlv635_3 ?_
      refine aw_l0 aj_d271 rfl rfl hlv635_5 ?_
      refine aw_ks aj_d271 rfl rfl rfl [_, _, _] rfl rfl (Nat.le_of_ble_eq_true rfl) (ar_cellAt (by omega) (a := (49 : Int)) (b := x638.toInt) (c := x639.toInt) rfl rfl rfl (by omega) (by omega) (by omega)) ?_
      rintro _ zx669 ⟨fx669, x669, rfl, ex669⟩
      rw [fx669]
      show aw_W _ _ _ _ 137 lv635 [.int x669, .ref 134] _ _
      refine aw_n aj_d271 rfl rfl ?_
      refine aw_st (k := 17) hU.1 aj_d271 (Or.inr (Or.inr (Or.inr ⟨rfl, rfl⟩))) rfl (by decide) (by decide) rfl (a := (((49 : Int) * 30 + x638.toInt) * 8 + x639.toInt)) ex669 (by omega) (by omega) ?_
      have hI670 : aw_I s h (aw_sm (aw_wa S634 17 ((((49 : Int) * 30 + x638.toInt) * 8 + x639.toInt)).toNat (aj_nar 4 (Int32.ofInt 0)))) (aw_wa S634 17 ((((49 : Int) * 30 + x638.toInt) * 8 + x639.toInt)).toNat (aj_nar 4 (Int32.ofInt 0))) := ⟨aw_T_a hU.2.1 hs hU.1.1 (hI642).1 (by decide) (by decide) rfl (by decide) (by decide) rfl (aw_nar4 (aw_bp (a := (0 : Int)) rfl (by omega) (by omega)) (by decide) (by decide)), aw_sm_rf⟩
      have fr671 := aw_fr_a (k := 17) (j := ((((49 : Int) * 30 + x638.toInt) * 8 + x639.toInt)).toNat) (v := aj_nar 4 (Int32.ofInt 0)) (by decide) fr641
      refine aw_l2 aj_d271 rfl rfl hlv635_0 ?_
      refine aw_g hU.1 aj_d271 rfl rfl (by decide) (v := .ref 135) rfl ?_
      refine aw_n aj_d271 rfl rfl ?_
      refine aw_l0 aj_d271 rfl rfl hlv635_3 ?_
      refine aw_l0 aj_d271 rfl rfl hlv635_5 ?_
      refine aw_ks aj_d271 rfl rfl rfl [_, _, _] rfl rfl (Nat.le_of_ble_eq_true rfl) (ar_cellAt (by omega) (a := (49 : Int)) (b := x638.toInt) (c := x639.toInt) rfl rfl rfl (by omega) (by omega) (by omega)) ?_
      rintro _ zx672 ⟨fx672, x672, rfl, ex672⟩
      rw [fx672]
      show aw_W _ _ _ _ 151 lv635 [.int x672, .ref 135] _ _
      refine aw_l2 aj_d271 rfl rfl hlv635_0 ?_
      refine aw_g hU.1 aj_d271 rfl rfl (by decide) (v := .ref 144) rfl ?_
      refine aw_l0 aj_d271 rfl rfl hlv635_5 ?_
      refine aw_ld (k := 27) hU.1 aj_d271 (Or.inl ⟨rfl, rfl⟩) rfl (by decide) (by decide) rfl (a := x639.toInt) rfl (by omega) (by omega) (fun x673 ex673 => ?_)
      refine aw_st (k := 18) hU.1 aj_d271 (Or.inl ⟨rfl, rfl⟩) rfl (by decide) (by decide) rfl (a := (((49 : Int) * 30 + x638.toInt) * 8 + x639.toInt)) ex672 (by omega) (by omega) ?_
      have hI674 : aw_I s h (aw_sm (aw_wa (aw_wa S634 17 ((((49 : Int) * 30 + x638.toInt) * 8 + x639.toInt)).toNat (aj_nar 4 (Int32.ofInt 0))) 18 ((((49 : Int) * 30 + x638.toInt) * 8 + x639.toInt)).toNat (aj_nar 0 x673))) (aw_wa (aw_wa S634 17 ((((49 : Int) * 30 + x638.toInt) * 8 + x639.toInt)).toNat (aj_nar 4 (Int32.ofInt 0))) 18 ((((49 : Int) * 30 + x638.toInt) * 8 + x639.toInt)).toNat (aj_nar 0 x673)) := ⟨aw_T_a hU.2.1 hs hU.1.1 (hI670).1 (by decide) (by decide) rfl (by decide) (by decide) rfl (aw_full _), aw_sm_rf⟩
      have fr675 := aw_fr_a (k := 18) (j := ((((49 : Int) * 30 + x638.toInt) * 8 + x639.toInt)).toNat) (v := aj_nar 0 x673) (by decide) fr671
      have hG676 := aw_G_sk (S' := (aw_wa (aw_wa S634 17 ((((49 : Int) * 30 + x638.toInt) * 8 + x639.toInt)).toNat (aj_nar 4 (Int32.ofInt 0))) 18 ((((49 : Int) * 30 + x638.toInt) * 8 + x639.toInt)).toNat (aj_nar 0 x673))) hI640.2 (aw_sk_2 aw_sk_rf) (aw_kv_2 (aw_G_B hI640.2).1 (by first | rfl | (congr 1) | omega) (fun z => absurd z (by decide)))
      have hI677 : aw_I s h (aw_sm (aw_wa (aw_wa S634 17 ((((49 : Int) * 30 + x638.toInt) * 8 + x639.toInt)).toNat (aj_nar 4 (Int32.ofInt 0))) 18 ((((49 : Int) * 30 + x638.toInt) * 8 + x639.toInt)).toNat (aj_nar 0 x673))) (aw_wa (aw_wa S634 17 ((((49 : Int) * 30 + x638.toInt) * 8 + x639.toInt)).toNat (aj_nar 4 (Int32.ofInt 0))) 18 ((((49 : Int) * 30 + x638.toInt) * 8 + x639.toInt)).toNat (aj_nar 0 x673)) := ⟨(hI674).1, aw_sm_rf⟩
      refine aw_inc aj_d271 rfl hlv635_5 (a := x639.toInt) rfl (by omega) (by omega) (by decide) (by decide) (fun x678 ex678 => ?_)
      obtain ⟨lv679, elv679⟩ : ∃ l, l = aj_set1 lv635 5 (.int x678) := ⟨_, rfl⟩
      rw [← elv679]
      have hlv679_0 : aj_lv lv679 0 = some (.ref 117) := cw_e1 elv679 hlv635_0 (by decide) (Or.inl (by decide))
      have hlv679_1 : aj_lv lv679 1 = some (.int x636) := cw_e1 elv679 hlv635_1 (by decide) (Or.inl (by decide))
      have hlv679_2 : aj_lv lv679 2 = some (.int x637) := cw_e1 elv679 hlv635_2 (by decide) (Or.inl (by decide))
      have hlv679_3 : aj_lv lv679 3 = some (.int x638) := cw_e1 elv679 hlv635_3 (by decide) (Or.inl (by decide))
      have hlv679_5 : aj_lv lv679 5 = some (.int x678) := by rw [elv679]; exact ak_set1_eq _ _ _
      show aw_W _ _ _ _ 162 lv679 [] _ _
      refine aw_n aj_d271 rfl rfl ?_
      exact ihL119_632 (aw_wa (aw_wa S634 17 ((((49 : Int) * 30 + x638.toInt) * 8 + x639.toInt)).toNat (aj_nar 4 (Int32.ofInt 0))) 18 ((((49 : Int) * 30 + x638.toInt) * 8 + x639.toInt)).toNat (aj_nar 0 x673)) lv679 (x636) (x637) (x638) (x678) hlv679_0 hlv679_1 hlv679_2 hlv679_3 hlv679_5 ⟨(hI677).1, hG676⟩ fr675 (by omega) (by omega) (by omega) (by omega) (show _ ≤ ((S634.1 30)).toInt by omega) (by omega)
theorem ar_comes_L79_615 (hU : aw_U tb s h) (hd : 3 ≤ d + 1) (N5 : Nat) (S7 : aj_S) (x9 : Int32) (x10 : Int32) (x11 : Int32) (x12 : Int32) (ihL5_5 : ∀ (S7 : aj_S) (lv8 : aj_V) (x9 : Int32) (x10 : Int32) (x11 : Int32) (x12 : Int32), (aj_lv lv8 0 = some (.ref 117)) → (aj_lv lv8 1 = some (.int x9)) → (aj_lv lv8 2 = some (.int x10)) → (aj_lv lv8 3 = some (.int x11)) → (aj_lv lv8 4 = some (.int x12)) → (aw_I s h (aw_G g) S7) → (aw_fr [] [14, 17, 18, 19] S S7) → (1 ≤ x9.toInt ∧ x9.toInt ≤ 7) → (0 ≤ x10.toInt ∧ x10.toInt ≤ 1023) → (0 ≤ x11.toInt ∧ x11.toInt ≤ 30) → ((-1) ≤ x12.toInt ∧ x12.toInt ≤ 1) → ((S.1 30).toInt + 0 ≤ (S7.1 30).toInt) → (x11.toInt ≤ (S7.2.2.1 14 49).toInt) → (x12.toInt < 0) → (30 - x11.toInt).toNat < N5 → aw_W tb h d aj_m271 5 lv8 [] S7 ((ar_QB s h [] [14, 17, 18, 19] S (fun S' => aw_G g S' ∧ (S.1 30).toInt ≤ (S'.1 30).toInt) (fun S' => aw_G g S' ∧ (S.1 30).toInt + 0 ≤ (S'.1 30).toInt)))) (hm5 : (30 - x11.toInt).toNat < N5 + 1) : ∀ (N : Nat) (S617 : aj_S) (lv618 : aj_V) (x619 : Int32) (x620 : Int32) (x621 : Int32) (x622 : Int32), (aj_lv lv618 0 = some (.ref 117)) → (aj_lv lv618 1 = some (.int x619)) → (aj_lv lv618 2 = some (.int x620)) → (aj_lv lv618 3 = some (.int x621)) → (aj_lv lv618 5 = some (.int x622)) → (aw_I s h (aw_G g) S617) → (aw_fr [] [14, 17, 18, 19] S S617) → (1 ≤ x619.toInt ∧ x619.toInt ≤ 7) → (0 ≤ x620.toInt ∧ x620.toInt ≤ 1023) → (0 ≤ x621.toInt ∧ x621.toInt ≤ 30) → (0 ≤ x622.toInt ∧ x622.toInt ≤ 29) → ((S.1 30).toInt + 0 ≤ (S617.1 30).toInt) → (x621.toInt ≤ x622.toInt) → ((S617.2.2.1 14 49).toInt ≤ 29) → (x622.toInt).toNat < N → aw_W tb h d aj_m271 79 lv618 [] S617 ((ar_QB s h [] [14, 17, 18, 19] S (fun S' => aw_G g S' ∧ (S.1 30).toInt ≤ (S'.1 30).toInt) (fun S' => aw_G g S' ∧ (S.1 30).toInt + 0 ≤ (S'.1 30).toInt))) := by
  have hs : aw_sT s := aw_hy_sT hU.2.2
  intro N79
  induction N79 with
  | zero =>
    intro S617 lv618 x619 x620 x621 x622 hlv618_0 hlv618_1 hlv618_2 hlv618_3 hlv618_5 hI623 fr624 bx619 bx620 bx621 bx622 ck79 k79 r79 hm79
    omega
  | succ N79 ihL79_615 =>
    intro S617 lv618 x619 x620 x621 x622 hlv618_0 hlv618_1 hlv618_2 hlv618_3 hlv618_5 hI623 fr624 bx619 bx620 bx621 bx622 ck79 k79 r79 hm79
    have hI625 : aw_I s h (aw_sm S617) S617 := ⟨hI623.1, aw_sm_rf⟩
    have b626 : 0 ≤ (S617.1 30).toInt ∧ (S617.1 30).toInt ≤ 1001 := aw_bd_f hs (hI625).1 (by decide) rfl
    refine aw_l0 aj_d271 rfl rfl hlv618_5 ?_
    refine aw_l0 aj_d271 rfl rfl hlv618_3 ?_
    refine aw_c (tgt := 105) aj_d271 rfl rfl (fun q627 => ?_) (fun q627 => ?_)
    · have q627 : x622.toInt ≤ x621.toInt := aw_t_le (a := x622.toInt) (b := x621.toInt) rfl rfl q627
      refine aw_l2 aj_d271 rfl rfl hlv618_0 ?_
      refine aw_g hU.1 aj_d271 rfl rfl (by decide) (v := .ref 131) rfl ?_
      refine aw_n aj_d271 rfl rfl ?_
      refine aw_n aj_d271 rfl rfl ?_
      refine aw_ld (k := 14) hU.1 aj_d271 (Or.inl ⟨rfl, rfl⟩) rfl (by decide) (by decide) rfl (a := (49 : Int)) rfl (by omega) (by omega) (fun x628 ex628 => ?_)
      have bx628 : 0 ≤ x628.toInt ∧ x628.toInt ≤ 30 := by
        rw [ex628]
        exact aw_bd_a hs (hI625).1 (k := 14) (by decide) (by decide) rfl (by decide) rfl (by omega)
      have ftx628 : x628.toInt = (S617.2.2.1 14 49).toInt := congrArg Int32.toInt (ex628.trans (congrFun rfl _))
      refine aw_n aj_d271 rfl rfl ?_
      refine aw_add aj_d271 rfl (a := x628.toInt) (b := (1 : Int)) rfl rfl (by omega) (by omega) (fun x629 ex629 => ?_)
      refine aw_st (k := 14) hU.1 aj_d271 (Or.inl ⟨rfl, rfl⟩) rfl (by decide) (by decide) rfl (a := (49 : Int)) rfl (by omega) (by omega) ?_
      have hI630 := aw_I_a (aw_UV hU aw_Gs_sm) (k := 14) (j := ((49 : Int)).toNat) (v := aj_nar 0 x629) hI625 (by decide) (by decide) (by decide) rfl (by decide) (by decide) rfl (aw_bp (a := x629.toInt) rfl (by omega) (by omega))
      have fr631 := aw_fr_a (k := 14) (j := ((49 : Int)).toNat) (v := aj_nar 0 x629) (by decide) fr624
      refine aw_n aj_d271 rfl rfl ?_
      refine aw_t0 (j := 5) aj_d271 rfl (by decide) rfl ?_
      obtain ⟨lv632, elv632⟩ : ∃ l, l = aj_set1 lv618 5 (.int (Int32.ofInt 0)) := ⟨_, rfl⟩
      rw [← elv632]
      have hlv632_0 : aj_lv lv632 0 = some (.ref 117) := cw_e1 elv632 hlv618_0 (by decide) (Or.inl (by decide))
      have hlv632_1 : aj_lv lv632 1 = some (.int x619) := cw_e1 elv632 hlv618_1 (by decide) (Or.inl (by decide))
      have hlv632_2 : aj_lv lv632 2 = some (.int x620) := cw_e1 elv632 hlv618_2 (by decide) (Or.inl (by decide))
      have hlv632_3 : aj_lv lv632 3 = some (.int x621) := cw_e1 elv632 hlv618_3 (by decide) (Or.inl (by decide))
      have hlv632_5 : aj_lv lv632 5 = some (.int (Int32.ofInt 0)) := by rw [elv632]; exact ak_set1_eq _ _ _
      show aw_W _ _ _ _ 119 lv632 [] _ _
      exact (ar_comes_L119_632 hU hd N5 S7 x9 x10 x11 x12 ihL5_5 hm5 N79 S617 x619 x620 x621 x622 ihL79_615 hm79) _ (aw_wa S617 14 ((49 : Int)).toNat (aj_nar 0 x629)) lv632 (x619) (x620) (x621) ((Int32.ofInt 0)) hlv632_0 hlv632_1 hlv632_2 hlv632_3 hlv632_5 ⟨(hI630).1, (aw_G_sm hI630.2 hI623.2)⟩ fr631 (by omega) (by omega) (by omega) (by first | omega | decide) (show _ ≤ ((S617.1 30)).toInt by omega) (Nat.lt_succ_self _)
    · have q627 : x622.toInt > x621.toInt := aw_t_le (a := x622.toInt) (b := x621.toInt) rfl rfl q627
      refine aw_l2 aj_d271 rfl rfl hlv618_0 ?_
      refine aw_n aj_d271 rfl rfl ?_
      refine aw_l0 aj_d271 rfl rfl hlv618_5 ?_
      refine aw_n aj_d271 rfl rfl ?_
      refine aw_sub aj_d271 rfl (a := x622.toInt) (b := (1 : Int)) rfl rfl (by omega) (by omega) (fun x680 ex680 => ?_)
      refine aw_n aj_d271 rfl rfl ?_
      refine aw_l0 aj_d271 rfl rfl hlv618_5 ?_
      refine aw_k hU.1 aj_d271 rfl rfl [_, _, _, _] rfl rfl rfl (Nat.le_of_ble_eq_true rfl) (ar_copyRow hU (hI625).1 (aw_G_B hI623.2).1 (by omega) (t := (Int8.ofInt 49).toInt32) (r := x680) (u := (Int8.ofInt 49).toInt32) (v := x622) (by decide) (by omega) (by decide) (by omega)) ?_
      rintro _ S681 ⟨hT681, fc681, rfl, sk681, kv681⟩
      have hG681 := aw_G_sk hI623.2 sk681 kv681
      have fr682 := aw_fr_tr fr624 (aw_fr_sub (F := []) (A := [17, 18, 19]) (by decide) (by decide) fc681)
      have hI683 : aw_I s h (aw_sm S681) S681 := ⟨hT681, aw_sm_rf⟩
      show aw_W _ _ _ _ 99 lv618 [] _ _
      refine aw_inc aj_d271 rfl hlv618_5 (a := x622.toInt) rfl (by omega) (by omega) (by decide) (by decide) (fun x684 ex684 => ?_)
      obtain ⟨lv685, elv685⟩ : ∃ l, l = aj_set1 lv618 5 (.int x684) := ⟨_, rfl⟩
      rw [← elv685]
      have hlv685_0 : aj_lv lv685 0 = some (.ref 117) := cw_e1 elv685 hlv618_0 (by decide) (Or.inl (by decide))
      have hlv685_1 : aj_lv lv685 1 = some (.int x619) := cw_e1 elv685 hlv618_1 (by decide) (Or.inl (by decide))
      have hlv685_2 : aj_lv lv685 2 = some (.int x620) := cw_e1 elv685 hlv618_2 (by decide) (Or.inl (by decide))
      have hlv685_3 : aj_lv lv685 3 = some (.int x621) := cw_e1 elv685 hlv618_3 (by decide) (Or.inl (by decide))
      have hlv685_5 : aj_lv lv685 5 = some (.int x684) := by rw [elv685]; exact ak_set1_eq _ _ _
      show aw_W _ _ _ _ 102 lv685 [] _ _
      refine aw_n aj_d271 rfl rfl ?_
      have c686 : (S681.1 30).toInt = (S617.1 30).toInt := (congrArg Int32.toInt (fc681.1 30 (by decide)).1).trans rfl
      have b687 : 0 ≤ (S681.1 30).toInt ∧ (S681.1 30).toInt ≤ 1001 := aw_bd_f hs (hI683).1 (by decide) rfl
      exact ihL79_615 S681 lv685 (x619) (x620) (x621) (x684) hlv685_0 hlv685_1 hlv685_2 hlv685_3 hlv685_5 ⟨(hI683).1, hG681⟩ fr682 (by omega) (by omega) (by omega) (by omega) (show _ ≤ ((S681.1 30)).toInt by omega) (by omega) (by rw [show (S681.2.2.1 14) = S617.2.2.1 14 from ((fc681.2 14 (by decide)).1.trans rfl)]; omega) (by omega)
theorem ar_comes_L5_5 (hU : aw_U tb s h) (hd : 3 ≤ d + 1)  : ∀ (N : Nat) (S7 : aj_S) (lv8 : aj_V) (x9 : Int32) (x10 : Int32) (x11 : Int32) (x12 : Int32), (aj_lv lv8 0 = some (.ref 117)) → (aj_lv lv8 1 = some (.int x9)) → (aj_lv lv8 2 = some (.int x10)) → (aj_lv lv8 3 = some (.int x11)) → (aj_lv lv8 4 = some (.int x12)) → (aw_I s h (aw_G g) S7) → (aw_fr [] [14, 17, 18, 19] S S7) → (1 ≤ x9.toInt ∧ x9.toInt ≤ 7) → (0 ≤ x10.toInt ∧ x10.toInt ≤ 1023) → (0 ≤ x11.toInt ∧ x11.toInt ≤ 30) → ((-1) ≤ x12.toInt ∧ x12.toInt ≤ 1) → ((S.1 30).toInt + 0 ≤ (S7.1 30).toInt) → (x11.toInt ≤ (S7.2.2.1 14 49).toInt) → (x12.toInt < 0) → (30 - x11.toInt).toNat < N → aw_W tb h d aj_m271 5 lv8 [] S7 ((ar_QB s h [] [14, 17, 18, 19] S (fun S' => aw_G g S' ∧ (S.1 30).toInt ≤ (S'.1 30).toInt) (fun S' => aw_G g S' ∧ (S.1 30).toInt + 0 ≤ (S'.1 30).toInt))) := by
  have hs : aw_sT s := aw_hy_sT hU.2.2
  intro N5
  induction N5 with
  | zero =>
    intro S7 lv8 x9 x10 x11 x12 hlv8_0 hlv8_1 hlv8_2 hlv8_3 hlv8_4 hI13 fr14 bx9 bx10 bx11 bx12 ck5 k5 c5 hm5
    omega
  | succ N5 ihL5_5 =>
    intro S7 lv8 x9 x10 x11 x12 hlv8_0 hlv8_1 hlv8_2 hlv8_3 hlv8_4 hI13 fr14 bx9 bx10 bx11 bx12 ck5 k5 c5 hm5
    have hI15 : aw_I s h (aw_sm S7) S7 := ⟨hI13.1, aw_sm_rf⟩
    have b16 : 0 ≤ (S7.1 30).toInt ∧ (S7.1 30).toInt ≤ 1001 := aw_bd_f hs (hI15).1 (by decide) rfl
    refine aw_l0 aj_d271 rfl rfl hlv8_3 ?_
    refine aw_l2 aj_d271 rfl rfl hlv8_0 ?_
    refine aw_g hU.1 aj_d271 rfl rfl (by decide) (v := .ref 131) rfl ?_
    refine aw_n aj_d271 rfl rfl ?_
    refine aw_ld (k := 14) hU.1 aj_d271 (Or.inl ⟨rfl, rfl⟩) rfl (by decide) (by decide) rfl (a := (49 : Int)) rfl (by omega) (by omega) (fun x17 ex17 => ?_)
    have bx17 : 0 ≤ x17.toInt ∧ x17.toInt ≤ 30 := by
      rw [ex17]
      exact aw_bd_a hs (hI15).1 (k := 14) (by decide) (by decide) rfl (by decide) rfl (by omega)
    have ftx17 : x17.toInt = (S7.2.2.1 14 49).toInt := congrArg Int32.toInt (ex17.trans (congrFun rfl _))
    refine aw_c (tgt := 40) aj_d271 rfl rfl (fun q18 => ?_) (fun q18 => ?_)
    · have q18 : x11.toInt ≥ x17.toInt := aw_t_ge (a := x11.toInt) (b := x17.toInt) rfl rfl q18
      refine aw_l0 aj_d271 rfl rfl hlv8_3 ?_
      refine aw_l2 aj_d271 rfl rfl hlv8_0 ?_
      refine aw_g hU.1 aj_d271 rfl rfl (by decide) (v := .ref 131) rfl ?_
      refine aw_n aj_d271 rfl rfl ?_
      refine aw_ld (k := 14) hU.1 aj_d271 (Or.inl ⟨rfl, rfl⟩) rfl (by decide) (by decide) rfl (a := (49 : Int)) rfl (by omega) (by omega) (fun x19 ex19 => ?_)
      have bx19 : 0 ≤ x19.toInt ∧ x19.toInt ≤ 30 := by
        rw [ex19]
        exact aw_bd_a hs (hI15).1 (k := 14) (by decide) (by decide) rfl (by decide) rfl (by omega)
      have ftx19 : x19.toInt = (S7.2.2.1 14 49).toInt := congrArg Int32.toInt (ex19.trans (congrFun rfl _))
      refine aw_c (tgt := 56) aj_d271 rfl rfl (fun q20 => ?_) (fun q20 => ?_)
      · have q20 : x11.toInt = x19.toInt := aw_t_eq (a := x11.toInt) (b := x19.toInt) rfl rfl q20
        refine aw_l2 aj_d271 rfl rfl hlv8_0 ?_
        refine aw_g hU.1 aj_d271 rfl rfl (by decide) (v := .ref 131) rfl ?_
        refine aw_n aj_d271 rfl rfl ?_
        refine aw_ld (k := 14) hU.1 aj_d271 (Or.inl ⟨rfl, rfl⟩) rfl (by decide) (by decide) rfl (a := (49 : Int)) rfl (by omega) (by omega) (fun x21 ex21 => ?_)
        have bx21 : 0 ≤ x21.toInt ∧ x21.toInt ≤ 30 := by
          rw [ex21]
          exact aw_bd_a hs (hI15).1 (k := 14) (by decide) (by decide) rfl (by decide) rfl (by omega)
        have ftx21 : x21.toInt = (S7.2.2.1 14 49).toInt := congrArg Int32.toInt (ex21.trans (congrFun rfl _))
        refine aw_n aj_d271 rfl rfl ?_
        refine aw_c (tgt := 70) aj_d271 rfl rfl (fun q22 => ?_) (fun q22 => ?_)
        · have q22 : x21.toInt ≠ (30 : Int) := aw_t_ne (a := x21.toInt) (b := (30 : Int)) rfl rfl q22
          refine aw_l2 aj_d271 rfl rfl hlv8_0 ?_
          refine aw_g hU.1 aj_d271 rfl rfl (by decide) (v := .ref 131) rfl ?_
          refine aw_n aj_d271 rfl rfl ?_
          refine aw_ld (k := 14) hU.1 aj_d271 (Or.inl ⟨rfl, rfl⟩) rfl (by decide) (by decide) rfl (a := (49 : Int)) rfl (by omega) (by omega) (fun x23 ex23 => ?_)
          have bx23 : 0 ≤ x23.toInt ∧ x23.toInt ≤ 30 := by
            rw [ex23]
            exact aw_bd_a hs (hI15).1 (k := 14) (by decide) (by decide) rfl (by decide) rfl (by omega)
          have ftx23 : x23.toInt = (S7.2.2.1 14 49).toInt := congrArg Int32.toInt (ex23.trans (congrFun rfl _))
          refine aw_t0 (j := 5) aj_d271 rfl (by decide) rfl ?_
          obtain ⟨lv24, elv24⟩ : ∃ l, l = aj_set1 lv8 5 (.int x23) := ⟨_, rfl⟩
          rw [← elv24]
          have hlv24_0 : aj_lv lv24 0 = some (.ref 117) := cw_e1 elv24 hlv8_0 (by decide) (Or.inl (by decide))
          have hlv24_1 : aj_lv lv24 1 = some (.int x9) := cw_e1 elv24 hlv8_1 (by decide) (Or.inl (by decide))
          have hlv24_2 : aj_lv lv24 2 = some (.int x10) := cw_e1 elv24 hlv8_2 (by decide) (Or.inl (by decide))
          have hlv24_3 : aj_lv lv24 3 = some (.int x11) := cw_e1 elv24 hlv8_3 (by decide) (Or.inl (by decide))
          have hlv24_5 : aj_lv lv24 5 = some (.int x23) := by rw [elv24]; exact ak_set1_eq _ _ _
          show aw_W _ _ _ _ 79 lv24 [] _ _
          exact (ar_comes_L79_24 hU hd N5 S7 x9 x10 x11 x12 ihL5_5 hm5) _ S7 lv24 (x9) (x10) (x11) (x23) hlv24_0 hlv24_1 hlv24_2 hlv24_3 hlv24_5 ⟨(hI15).1, hI13.2⟩ fr14 (by omega) (by omega) (by omega) (by omega) (show _ ≤ ((S7.1 30)).toInt by omega) (by omega) (by rw [show (S7.2.2.1 14) = S7.2.2.1 14 from rfl]; omega) (Nat.lt_succ_self _)
        · have q22 : x21.toInt = (30 : Int) := aw_t_ne (a := x21.toInt) (b := (30 : Int)) rfl rfl q22
          refine aw_n aj_d271 rfl rfl ?_
          refine aw_e aj_d271 rfl rfl ?_
          exact ⟨(hI15).1, fr14, Or.inl ⟨_, rfl, rfl, hI13.2, (show _ ≤ ((S7.1 30)).toInt by omega)⟩⟩
      · have q20 : x11.toInt ≠ x19.toInt := aw_t_eq (a := x11.toInt) (b := x19.toInt) rfl rfl q20
        refine aw_l0 aj_d271 rfl rfl hlv8_4 ?_
        refine aw_z (tgt := 197) aj_d271 rfl rfl (fun q97 => ?_) (fun q97 => ?_)
        · have q97 : x12.toInt ≤ (0 : Int) := aw_t_le (a := x12.toInt) (b := (0 : Int)) rfl rfl q97
          refine aw_l2 aj_d271 rfl rfl hlv8_0 ?_
          refine aw_g hU.1 aj_d271 rfl rfl (by decide) (v := .ref 136) rfl ?_
          refine aw_l2 aj_d271 rfl rfl hlv8_0 ?_
          refine aw_n aj_d271 rfl rfl ?_
          refine aw_l0 aj_d271 rfl rfl hlv8_3 ?_
          refine aw_k hU.1 aj_d271 rfl rfl [_, _] rfl rfl rfl (Nat.le_of_ble_eq_true rfl) (ar_at (by omega) (a := (49 : Int)) (b := x11.toInt) rfl rfl (by omega) (by omega)) ?_
          rintro _ zx98 ⟨fx98, x98, rfl, ex98⟩
          rw [fx98]
          show aw_W _ _ _ _ 208 lv8 [.int x98, .ref 136] _ _
          refine aw_l0 aj_d271 rfl rfl hlv8_2 ?_
          refine aw_n aj_d271 rfl rfl ?_
          refine aw_ks aj_d271 rfl rfl rfl [_, _, _, _] rfl rfl (Nat.le_of_ble_eq_true rfl) (ar_put hU (hI15).1 (by omega) (k := 19) (n := 48000) (by decide) (by decide) rfl rfl (a := (((49 : Int) * 30 + x11.toInt) * 32)) (b := x10.toInt) ex98 rfl (by omega) (by omega) (by omega) (by decide)) ?_
          rintro _ S99 ⟨hT99, fc99, rfl, pe99⟩
          have fr100 := aw_fr_tr fr14 (aw_fr_sub (F := []) (A := [19]) (by decide) (by decide) fc99)
          have hI101 : aw_I s h (aw_sm S7) S99 := ⟨hT99, aw_sm_tr hI15.2 (aw_fr_sm (by decide) (by decide) (by decide) (F := []) (A := [19]) fc99)⟩
          show aw_W _ _ _ _ 213 lv8 [] _ _
          refine aw_n aj_d271 rfl rfl ?_
          refine aw_e aj_d271 rfl rfl ?_
          have c102 : (S99.1 30).toInt = (S7.1 30).toInt := (congrArg Int32.toInt (fc99.1 30 (by decide)).1).trans rfl
          have b103 : 0 ≤ (S99.1 30).toInt ∧ (S99.1 30).toInt ≤ 1001 := aw_bd_f hs (hI101).1 (by decide) rfl
          exact ⟨(hI101).1, fr100, Or.inr ⟨_, rfl, rfl, (aw_G_sm hI101.2 hI13.2), (show _ + 0 ≤ ((S99.1 30)).toInt by omega)⟩⟩
        · have q97 : x12.toInt > (0 : Int) := aw_t_le (a := x12.toInt) (b := (0 : Int)) rfl rfl q97
          refine aw_l2 aj_d271 rfl rfl hlv8_0 ?_
          refine aw_g hU.1 aj_d271 rfl rfl (by decide) (v := .ref 131) rfl ?_
          refine aw_n aj_d271 rfl rfl ?_
          refine aw_ld (k := 14) hU.1 aj_d271 (Or.inl ⟨rfl, rfl⟩) rfl (by decide) (by decide) rfl (a := (49 : Int)) rfl (by omega) (by omega) (fun x104 ex104 => ?_)
          have bx104 : 0 ≤ x104.toInt ∧ x104.toInt ≤ 30 := by
            rw [ex104]
            exact aw_bd_a hs (hI15).1 (k := 14) (by decide) (by decide) rfl (by decide) rfl (by omega)
          have ftx104 : x104.toInt = (S7.2.2.1 14 49).toInt := congrArg Int32.toInt (ex104.trans (congrFun rfl _))
          refine aw_n aj_d271 rfl rfl ?_
          refine aw_c (tgt := 70) aj_d271 rfl rfl (fun q105 => ?_) (fun q105 => ?_)
          · have q105 : x104.toInt ≠ (30 : Int) := aw_t_ne (a := x104.toInt) (b := (30 : Int)) rfl rfl q105
            refine aw_l2 aj_d271 rfl rfl hlv8_0 ?_
            refine aw_g hU.1 aj_d271 rfl rfl (by decide) (v := .ref 131) rfl ?_
            refine aw_n aj_d271 rfl rfl ?_
            refine aw_ld (k := 14) hU.1 aj_d271 (Or.inl ⟨rfl, rfl⟩) rfl (by decide) (by decide) rfl (a := (49 : Int)) rfl (by omega) (by omega) (fun x106 ex106 => ?_)
            have bx106 : 0 ≤ x106.toInt ∧ x106.toInt ≤ 30 := by
              rw [ex106]
              exact aw_bd_a hs (hI15).1 (k := 14) (by decide) (by decide) rfl (by decide) rfl (by omega)
            have ftx106 : x106.toInt = (S7.2.2.1 14 49).toInt := congrArg Int32.toInt (ex106.trans (congrFun rfl _))
            refine aw_t0 (j := 5) aj_d271 rfl (by decide) rfl ?_
            obtain ⟨lv107, elv107⟩ : ∃ l, l = aj_set1 lv8 5 (.int x106) := ⟨_, rfl⟩
            rw [← elv107]
            have hlv107_0 : aj_lv lv107 0 = some (.ref 117) := cw_e1 elv107 hlv8_0 (by decide) (Or.inl (by decide))
            have hlv107_1 : aj_lv lv107 1 = some (.int x9) := cw_e1 elv107 hlv8_1 (by decide) (Or.inl (by decide))
            have hlv107_2 : aj_lv lv107 2 = some (.int x10) := cw_e1 elv107 hlv8_2 (by decide) (Or.inl (by decide))
            have hlv107_3 : aj_lv lv107 3 = some (.int x11) := cw_e1 elv107 hlv8_3 (by decide) (Or.inl (by decide))
            have hlv107_5 : aj_lv lv107 5 = some (.int x106) := by rw [elv107]; exact ak_set1_eq _ _ _
            show aw_W _ _ _ _ 79 lv107 [] _ _
            exact (ar_comes_L79_107 hU hd N5 S7 x9 x10 x11 x12 ihL5_5 hm5) _ S7 lv107 (x9) (x10) (x11) (x106) hlv107_0 hlv107_1 hlv107_2 hlv107_3 hlv107_5 ⟨(hI15).1, hI13.2⟩ fr14 (by omega) (by omega) (by omega) (by omega) (show _ ≤ ((S7.1 30)).toInt by omega) (by omega) (by rw [show (S7.2.2.1 14) = S7.2.2.1 14 from rfl]; omega) (Nat.lt_succ_self _)
          · have q105 : x104.toInt = (30 : Int) := aw_t_ne (a := x104.toInt) (b := (30 : Int)) rfl rfl q105
            refine aw_n aj_d271 rfl rfl ?_
            refine aw_e aj_d271 rfl rfl ?_
            exact ⟨(hI15).1, fr14, Or.inl ⟨_, rfl, rfl, hI13.2, (show _ ≤ ((S7.1 30)).toInt by omega)⟩⟩
    · have q18 : x11.toInt < x17.toInt := aw_t_ge (a := x11.toInt) (b := x17.toInt) rfl rfl q18
      refine aw_l0 aj_d271 rfl rfl hlv8_4 ?_
      refine aw_z (tgt := 40) aj_d271 rfl rfl (fun q180 => ?_) (fun q180 => ?_)
      · have q180 : x12.toInt ≥ (0 : Int) := aw_t_ge (a := x12.toInt) (b := (0 : Int)) rfl rfl q180
        refine aw_l0 aj_d271 rfl rfl hlv8_3 ?_
        refine aw_l2 aj_d271 rfl rfl hlv8_0 ?_
        refine aw_g hU.1 aj_d271 rfl rfl (by decide) (v := .ref 131) rfl ?_
        refine aw_n aj_d271 rfl rfl ?_
        refine aw_ld (k := 14) hU.1 aj_d271 (Or.inl ⟨rfl, rfl⟩) rfl (by decide) (by decide) rfl (a := (49 : Int)) rfl (by omega) (by omega) (fun x181 ex181 => ?_)
        have bx181 : 0 ≤ x181.toInt ∧ x181.toInt ≤ 30 := by
          rw [ex181]
          exact aw_bd_a hs (hI15).1 (k := 14) (by decide) (by decide) rfl (by decide) rfl (by omega)
        have ftx181 : x181.toInt = (S7.2.2.1 14 49).toInt := congrArg Int32.toInt (ex181.trans (congrFun rfl _))
        refine aw_c (tgt := 56) aj_d271 rfl rfl (fun q182 => ?_) (fun q182 => ?_)
        · have q182 : x11.toInt = x181.toInt := aw_t_eq (a := x11.toInt) (b := x181.toInt) rfl rfl q182
          refine aw_l2 aj_d271 rfl rfl hlv8_0 ?_
          refine aw_g hU.1 aj_d271 rfl rfl (by decide) (v := .ref 131) rfl ?_
          refine aw_n aj_d271 rfl rfl ?_
          refine aw_ld (k := 14) hU.1 aj_d271 (Or.inl ⟨rfl, rfl⟩) rfl (by decide) (by decide) rfl (a := (49 : Int)) rfl (by omega) (by omega) (fun x183 ex183 => ?_)
          have bx183 : 0 ≤ x183.toInt ∧ x183.toInt ≤ 30 := by
            rw [ex183]
            exact aw_bd_a hs (hI15).1 (k := 14) (by decide) (by decide) rfl (by decide) rfl (by omega)
          have ftx183 : x183.toInt = (S7.2.2.1 14 49).toInt := congrArg Int32.toInt (ex183.trans (congrFun rfl _))
          refine aw_n aj_d271 rfl rfl ?_
          refine aw_c (tgt := 70) aj_d271 rfl rfl (fun q184 => ?_) (fun q184 => ?_)
          · have q184 : x183.toInt ≠ (30 : Int) := aw_t_ne (a := x183.toInt) (b := (30 : Int)) rfl rfl q184
            refine aw_l2 aj_d271 rfl rfl hlv8_0 ?_
            refine aw_g hU.1 aj_d271 rfl rfl (by decide) (v := .ref 131) rfl ?_
            refine aw_n aj_d271 rfl rfl ?_
            refine aw_ld (k := 14) hU.1 aj_d271 (Or.inl ⟨rfl, rfl⟩) rfl (by decide) (by decide) rfl (a := (49 : Int)) rfl (by omega) (by omega) (fun x185 ex185 => ?_)
            have bx185 : 0 ≤ x185.toInt ∧ x185.toInt ≤ 30 := by
              rw [ex185]
              exact aw_bd_a hs (hI15).1 (k := 14) (by decide) (by decide) rfl (by decide) rfl (by omega)
            have ftx185 : x185.toInt = (S7.2.2.1 14 49).toInt := congrArg Int32.toInt (ex185.trans (congrFun rfl _))
            refine aw_t0 (j := 5) aj_d271 rfl (by decide) rfl ?_
            obtain ⟨lv186, elv186⟩ : ∃ l, l = aj_set1 lv8 5 (.int x185) := ⟨_, rfl⟩
            rw [← elv186]
            have hlv186_0 : aj_lv lv186 0 = some (.ref 117) := cw_e1 elv186 hlv8_0 (by decide) (Or.inl (by decide))
            have hlv186_1 : aj_lv lv186 1 = some (.int x9) := cw_e1 elv186 hlv8_1 (by decide) (Or.inl (by decide))
            have hlv186_2 : aj_lv lv186 2 = some (.int x10) := cw_e1 elv186 hlv8_2 (by decide) (Or.inl (by decide))
            have hlv186_3 : aj_lv lv186 3 = some (.int x11) := cw_e1 elv186 hlv8_3 (by decide) (Or.inl (by decide))
            have hlv186_5 : aj_lv lv186 5 = some (.int x185) := by rw [elv186]; exact ak_set1_eq _ _ _
            show aw_W _ _ _ _ 79 lv186 [] _ _
            exact (ar_comes_L79_186 hU hd N5 S7 x9 x10 x11 x12 ihL5_5 hm5) _ S7 lv186 (x9) (x10) (x11) (x185) hlv186_0 hlv186_1 hlv186_2 hlv186_3 hlv186_5 ⟨(hI15).1, hI13.2⟩ fr14 (by omega) (by omega) (by omega) (by omega) (show _ ≤ ((S7.1 30)).toInt by omega) (by omega) (by rw [show (S7.2.2.1 14) = S7.2.2.1 14 from rfl]; omega) (Nat.lt_succ_self _)
          · have q184 : x183.toInt = (30 : Int) := aw_t_ne (a := x183.toInt) (b := (30 : Int)) rfl rfl q184
            refine aw_n aj_d271 rfl rfl ?_
            refine aw_e aj_d271 rfl rfl ?_
            exact ⟨(hI15).1, fr14, Or.inl ⟨_, rfl, rfl, hI13.2, (show _ ≤ ((S7.1 30)).toInt by omega)⟩⟩
        · have q182 : x11.toInt ≠ x181.toInt := aw_t_eq (a := x11.toInt) (b := x181.toInt) rfl rfl q182
          refine aw_l0 aj_d271 rfl rfl hlv8_4 ?_
          refine aw_z (tgt := 197) aj_d271 rfl rfl (fun q259 => ?_) (fun q259 => ?_)
          · have q259 : x12.toInt ≤ (0 : Int) := aw_t_le (a := x12.toInt) (b := (0 : Int)) rfl rfl q259
            refine aw_l2 aj_d271 rfl rfl hlv8_0 ?_
            refine aw_g hU.1 aj_d271 rfl rfl (by decide) (v := .ref 136) rfl ?_
            refine aw_l2 aj_d271 rfl rfl hlv8_0 ?_
            refine aw_n aj_d271 rfl rfl ?_
            refine aw_l0 aj_d271 rfl rfl hlv8_3 ?_
            refine aw_k hU.1 aj_d271 rfl rfl [_, _] rfl rfl rfl (Nat.le_of_ble_eq_true rfl) (ar_at (by omega) (a := (49 : Int)) (b := x11.toInt) rfl rfl (by omega) (by omega)) ?_
            rintro _ zx260 ⟨fx260, x260, rfl, ex260⟩
            rw [fx260]
            show aw_W _ _ _ _ 208 lv8 [.int x260, .ref 136] _ _
            refine aw_l0 aj_d271 rfl rfl hlv8_2 ?_
            refine aw_n aj_d271 rfl rfl ?_
            refine aw_ks aj_d271 rfl rfl rfl [_, _, _, _] rfl rfl (Nat.le_of_ble_eq_true rfl) (ar_put hU (hI15).1 (by omega) (k := 19) (n := 48000) (by decide) (by decide) rfl rfl (a := (((49 : Int) * 30 + x11.toInt) * 32)) (b := x10.toInt) ex260 rfl (by omega) (by omega) (by omega) (by decide)) ?_
            rintro _ S261 ⟨hT261, fc261, rfl, pe261⟩
            have fr262 := aw_fr_tr fr14 (aw_fr_sub (F := []) (A := [19]) (by decide) (by decide) fc261)
            have hI263 : aw_I s h (aw_sm S7) S261 := ⟨hT261, aw_sm_tr hI15.2 (aw_fr_sm (by decide) (by decide) (by decide) (F := []) (A := [19]) fc261)⟩
            show aw_W _ _ _ _ 213 lv8 [] _ _
            refine aw_n aj_d271 rfl rfl ?_
            refine aw_e aj_d271 rfl rfl ?_
            have c264 : (S261.1 30).toInt = (S7.1 30).toInt := (congrArg Int32.toInt (fc261.1 30 (by decide)).1).trans rfl
            have b265 : 0 ≤ (S261.1 30).toInt ∧ (S261.1 30).toInt ≤ 1001 := aw_bd_f hs (hI263).1 (by decide) rfl
            exact ⟨(hI263).1, fr262, Or.inr ⟨_, rfl, rfl, (aw_G_sm hI263.2 hI13.2), (show _ + 0 ≤ ((S261.1 30)).toInt by omega)⟩⟩
          · have q259 : x12.toInt > (0 : Int) := aw_t_le (a := x12.toInt) (b := (0 : Int)) rfl rfl q259
            refine aw_l2 aj_d271 rfl rfl hlv8_0 ?_
            refine aw_g hU.1 aj_d271 rfl rfl (by decide) (v := .ref 131) rfl ?_
            refine aw_n aj_d271 rfl rfl ?_
            refine aw_ld (k := 14) hU.1 aj_d271 (Or.inl ⟨rfl, rfl⟩) rfl (by decide) (by decide) rfl (a := (49 : Int)) rfl (by omega) (by omega) (fun x266 ex266 => ?_)
            have bx266 : 0 ≤ x266.toInt ∧ x266.toInt ≤ 30 := by
              rw [ex266]
              exact aw_bd_a hs (hI15).1 (k := 14) (by decide) (by decide) rfl (by decide) rfl (by omega)
            have ftx266 : x266.toInt = (S7.2.2.1 14 49).toInt := congrArg Int32.toInt (ex266.trans (congrFun rfl _))
            refine aw_n aj_d271 rfl rfl ?_
            refine aw_c (tgt := 70) aj_d271 rfl rfl (fun q267 => ?_) (fun q267 => ?_)
            · have q267 : x266.toInt ≠ (30 : Int) := aw_t_ne (a := x266.toInt) (b := (30 : Int)) rfl rfl q267
              refine aw_l2 aj_d271 rfl rfl hlv8_0 ?_
              refine aw_g hU.1 aj_d271 rfl rfl (by decide) (v := .ref 131) rfl ?_
              refine aw_n aj_d271 rfl rfl ?_
              refine aw_ld (k := 14) hU.1 aj_d271 (Or.inl ⟨rfl, rfl⟩) rfl (by decide) (by decide) rfl (a := (49 : Int)) rfl (by omega) (by omega) (fun x268 ex268 => ?_)
              have bx268 : 0 ≤ x268.toInt ∧ x268.toInt ≤ 30 := by
                rw [ex268]
                exact aw_bd_a hs (hI15).1 (k := 14) (by decide) (by decide) rfl (by decide) rfl (by omega)
              have ftx268 : x268.toInt = (S7.2.2.1 14 49).toInt := congrArg Int32.toInt (ex268.trans (congrFun rfl _))
              refine aw_t0 (j := 5) aj_d271 rfl (by decide) rfl ?_
              obtain ⟨lv269, elv269⟩ : ∃ l, l = aj_set1 lv8 5 (.int x268) := ⟨_, rfl⟩
              rw [← elv269]
              have hlv269_0 : aj_lv lv269 0 = some (.ref 117) := cw_e1 elv269 hlv8_0 (by decide) (Or.inl (by decide))
              have hlv269_1 : aj_lv lv269 1 = some (.int x9) := cw_e1 elv269 hlv8_1 (by decide) (Or.inl (by decide))
              have hlv269_2 : aj_lv lv269 2 = some (.int x10) := cw_e1 elv269 hlv8_2 (by decide) (Or.inl (by decide))
              have hlv269_3 : aj_lv lv269 3 = some (.int x11) := cw_e1 elv269 hlv8_3 (by decide) (Or.inl (by decide))
              have hlv269_5 : aj_lv lv269 5 = some (.int x268) := by rw [elv269]; exact ak_set1_eq _ _ _
              show aw_W _ _ _ _ 79 lv269 [] _ _
              exact (ar_comes_L79_269 hU hd N5 S7 x9 x10 x11 x12 ihL5_5 hm5) _ S7 lv269 (x9) (x10) (x11) (x268) hlv269_0 hlv269_1 hlv269_2 hlv269_3 hlv269_5 ⟨(hI15).1, hI13.2⟩ fr14 (by omega) (by omega) (by omega) (by omega) (show _ ≤ ((S7.1 30)).toInt by omega) (by omega) (by rw [show (S7.2.2.1 14) = S7.2.2.1 14 from rfl]; omega) (Nat.lt_succ_self _)
            · have q267 : x266.toInt = (30 : Int) := aw_t_ne (a := x266.toInt) (b := (30 : Int)) rfl rfl q267
              refine aw_n aj_d271 rfl rfl ?_
              refine aw_e aj_d271 rfl rfl ?_
              exact ⟨(hI15).1, fr14, Or.inl ⟨_, rfl, rfl, hI13.2, (show _ ≤ ((S7.1 30)).toInt by omega)⟩⟩
      · have q180 : x12.toInt < (0 : Int) := aw_t_ge (a := x12.toInt) (b := (0 : Int)) rfl rfl q180
        refine aw_l2 aj_d271 rfl rfl hlv8_0 ?_
        refine aw_l0 aj_d271 rfl rfl hlv8_3 ?_
        refine aw_l0 aj_d271 rfl rfl hlv8_1 ?_
        refine aw_k hU.1 aj_d271 rfl rfl [_, _] rfl rfl rfl (Nat.le_of_ble_eq_true rfl) (aw_toK hU aw_Gs_sm (con := ac_c272) (by omega) (ar_272 hU.2.1 (aw_SPc hU.2.2 aw_Gs_sm) aw_kpc) ⟨(hI15).1, aw_sm_rf⟩ ⟨(aw_g117 hU.2.2), (cw_gw (a := x11.toInt) rfl (by omega) (by omega)), (cw_gw (a := x9.toInt) rfl (by omega) (by omega)), trivial⟩ (fun e he => nomatch he)) ?_
        rintro r342 S342 ⟨hr342, hJ342, fc342, po342, -⟩
        have hT342 := hJ342.1
        replace fc342 := aw_fr_sub (F' := []) (A' := []) (by decide) (by decide) fc342
        have fr343 := aw_fr_tr fr14 (aw_fr_sub (F := []) (A := []) (by decide) (by decide) fc342)
        have hI344 : aw_I s h (aw_sm S7) S342 := ⟨hT342, aw_sm_tr hI15.2 (aw_fr_sm (by decide) (by decide) (by decide) (F := []) (A := []) fc342)⟩
        obtain ⟨b342, rfl, bb342⟩ := cw_rI hr342
        show aw_W _ _ _ _ 27 lv8 [.int b342] _ _
        refine aw_t0 (j := 4) aj_d271 rfl (by decide) rfl ?_
        obtain ⟨lv345, elv345⟩ : ∃ l, l = aj_set1 lv8 4 (.int b342) := ⟨_, rfl⟩
        rw [← elv345]
        have hlv345_0 : aj_lv lv345 0 = some (.ref 117) := cw_e1 elv345 hlv8_0 (by decide) (Or.inl (by decide))
        have hlv345_1 : aj_lv lv345 1 = some (.int x9) := cw_e1 elv345 hlv8_1 (by decide) (Or.inl (by decide))
        have hlv345_2 : aj_lv lv345 2 = some (.int x10) := cw_e1 elv345 hlv8_2 (by decide) (Or.inl (by decide))
        have hlv345_3 : aj_lv lv345 3 = some (.int x11) := cw_e1 elv345 hlv8_3 (by decide) (Or.inr rfl)
        have hlv345_4 : aj_lv lv345 4 = some (.int b342) := by rw [elv345]; exact ak_set1_eq _ _ _
        show aw_W _ _ _ _ 29 lv345 [] _ _
        refine aw_l0 aj_d271 rfl rfl hlv345_4 ?_
        refine aw_z (tgt := 5) aj_d271 rfl rfl (fun q346 => ?_) (fun q346 => ?_)
        · have q346 : b342.toInt ≥ (0 : Int) := aw_t_ge (a := b342.toInt) (b := (0 : Int)) rfl rfl q346
          refine aw_l0 aj_d271 rfl rfl hlv345_3 ?_
          refine aw_l2 aj_d271 rfl rfl hlv345_0 ?_
          refine aw_g hU.1 aj_d271 rfl rfl (by decide) (v := .ref 131) rfl ?_
          refine aw_n aj_d271 rfl rfl ?_
          refine aw_ld (k := 14) hU.1 aj_d271 (Or.inl ⟨rfl, rfl⟩) rfl (by decide) (by decide) rfl (a := (49 : Int)) rfl (by omega) (by omega) (fun x347 ex347 => ?_)
          have bx347 : 0 ≤ x347.toInt ∧ x347.toInt ≤ 30 := by
            rw [ex347]
            exact aw_bd_a hs (hI344).1 (k := 14) (by decide) (by decide) rfl (by decide) rfl (by omega)
          have ftx347 : x347.toInt = (S7.2.2.1 14 49).toInt := congrArg Int32.toInt (ex347.trans (congrFun ((fc342.2 14 (by decide)).1.trans rfl) _))
          refine aw_c (tgt := 40) aj_d271 rfl rfl (fun q348 => ?_) (fun q348 => ?_)
          · have q348 : x11.toInt ≥ x347.toInt := aw_t_ge (a := x11.toInt) (b := x347.toInt) rfl rfl q348
            refine aw_l0 aj_d271 rfl rfl hlv345_3 ?_
            refine aw_l2 aj_d271 rfl rfl hlv345_0 ?_
            refine aw_g hU.1 aj_d271 rfl rfl (by decide) (v := .ref 131) rfl ?_
            refine aw_n aj_d271 rfl rfl ?_
            refine aw_ld (k := 14) hU.1 aj_d271 (Or.inl ⟨rfl, rfl⟩) rfl (by decide) (by decide) rfl (a := (49 : Int)) rfl (by omega) (by omega) (fun x349 ex349 => ?_)
            have bx349 : 0 ≤ x349.toInt ∧ x349.toInt ≤ 30 := by
              rw [ex349]
              exact aw_bd_a hs (hI344).1 (k := 14) (by decide) (by decide) rfl (by decide) rfl (by omega)
            have ftx349 : x349.toInt = (S7.2.2.1 14 49).toInt := congrArg Int32.toInt (ex349.trans (congrFun ((fc342.2 14 (by decide)).1.trans rfl) _))
            refine aw_c (tgt := 56) aj_d271 rfl rfl (fun q350 => ?_) (fun q350 => ?_)
            · have q350 : x11.toInt = x349.toInt := aw_t_eq (a := x11.toInt) (b := x349.toInt) rfl rfl q350
              refine aw_l2 aj_d271 rfl rfl hlv345_0 ?_
              refine aw_g hU.1 aj_d271 rfl rfl (by decide) (v := .ref 131) rfl ?_
              refine aw_n aj_d271 rfl rfl ?_
              refine aw_ld (k := 14) hU.1 aj_d271 (Or.inl ⟨rfl, rfl⟩) rfl (by decide) (by decide) rfl (a := (49 : Int)) rfl (by omega) (by omega) (fun x351 ex351 => ?_)
              have bx351 : 0 ≤ x351.toInt ∧ x351.toInt ≤ 30 := by
                rw [ex351]
                exact aw_bd_a hs (hI344).1 (k := 14) (by decide) (by decide) rfl (by decide) rfl (by omega)
              have ftx351 : x351.toInt = (S7.2.2.1 14 49).toInt := congrArg Int32.toInt (ex351.trans (congrFun ((fc342.2 14 (by decide)).1.trans rfl) _))
              refine aw_n aj_d271 rfl rfl ?_
              refine aw_c (tgt := 70) aj_d271 rfl rfl (fun q352 => ?_) (fun q352 => ?_)
              · have q352 : x351.toInt ≠ (30 : Int) := aw_t_ne (a := x351.toInt) (b := (30 : Int)) rfl rfl q352
                refine aw_l2 aj_d271 rfl rfl hlv345_0 ?_
                refine aw_g hU.1 aj_d271 rfl rfl (by decide) (v := .ref 131) rfl ?_
                refine aw_n aj_d271 rfl rfl ?_
                refine aw_ld (k := 14) hU.1 aj_d271 (Or.inl ⟨rfl, rfl⟩) rfl (by decide) (by decide) rfl (a := (49 : Int)) rfl (by omega) (by omega) (fun x353 ex353 => ?_)
                have bx353 : 0 ≤ x353.toInt ∧ x353.toInt ≤ 30 := by
                  rw [ex353]
                  exact aw_bd_a hs (hI344).1 (k := 14) (by decide) (by decide) rfl (by decide) rfl (by omega)
                have ftx353 : x353.toInt = (S7.2.2.1 14 49).toInt := congrArg Int32.toInt (ex353.trans (congrFun ((fc342.2 14 (by decide)).1.trans rfl) _))
                refine aw_t0 (j := 5) aj_d271 rfl (by decide) rfl ?_
                obtain ⟨lv354, elv354⟩ : ∃ l, l = aj_set1 lv345 5 (.int x353) := ⟨_, rfl⟩
                rw [← elv354]
                have hlv354_0 : aj_lv lv354 0 = some (.ref 117) := cw_e1 elv354 hlv345_0 (by decide) (Or.inl (by decide))
                have hlv354_1 : aj_lv lv354 1 = some (.int x9) := cw_e1 elv354 hlv345_1 (by decide) (Or.inl (by decide))
                have hlv354_2 : aj_lv lv354 2 = some (.int x10) := cw_e1 elv354 hlv345_2 (by decide) (Or.inl (by decide))
                have hlv354_3 : aj_lv lv354 3 = some (.int x11) := cw_e1 elv354 hlv345_3 (by decide) (Or.inl (by decide))
                have hlv354_5 : aj_lv lv354 5 = some (.int x353) := by rw [elv354]; exact ak_set1_eq _ _ _
                show aw_W _ _ _ _ 79 lv354 [] _ _
                have c427 : (S342.1 30).toInt = (S7.1 30).toInt := (congrArg Int32.toInt (fc342.1 30 (by decide)).1).trans rfl
                have b428 : 0 ≤ (S342.1 30).toInt ∧ (S342.1 30).toInt ≤ 1001 := aw_bd_f hs (hI344).1 (by decide) rfl
                exact (ar_comes_L79_354 hU hd N5 S7 x9 x10 x11 x12 ihL5_5 hm5) _ S342 lv354 (x9) (x10) (x11) (x353) hlv354_0 hlv354_1 hlv354_2 hlv354_3 hlv354_5 ⟨(hI344).1, (aw_G_sm hI344.2 hI13.2)⟩ fr343 (by omega) (by omega) (by omega) (by omega) (show _ ≤ ((S342.1 30)).toInt by omega) (by omega) (by rw [show (S342.2.2.1 14) = S7.2.2.1 14 from ((fc342.2 14 (by decide)).1.trans rfl)]; omega) (Nat.lt_succ_self _)
              · have q352 : x351.toInt = (30 : Int) := aw_t_ne (a := x351.toInt) (b := (30 : Int)) rfl rfl q352
                refine aw_n aj_d271 rfl rfl ?_
                refine aw_e aj_d271 rfl rfl ?_
                have c429 : (S342.1 30).toInt = (S7.1 30).toInt := (congrArg Int32.toInt (fc342.1 30 (by decide)).1).trans rfl
                have b430 : 0 ≤ (S342.1 30).toInt ∧ (S342.1 30).toInt ≤ 1001 := aw_bd_f hs (hI344).1 (by decide) rfl
                exact ⟨(hI344).1, fr343, Or.inl ⟨_, rfl, rfl, (aw_G_sm hI344.2 hI13.2), (show _ ≤ ((S342.1 30)).toInt by omega)⟩⟩
            · have q350 : x11.toInt ≠ x349.toInt := aw_t_eq (a := x11.toInt) (b := x349.toInt) rfl rfl q350
              refine aw_l0 aj_d271 rfl rfl hlv345_4 ?_
              refine aw_z (tgt := 197) aj_d271 rfl rfl (fun q431 => ?_) (fun q431 => ?_)
              · have q431 : b342.toInt ≤ (0 : Int) := aw_t_le (a := b342.toInt) (b := (0 : Int)) rfl rfl q431
                refine aw_l2 aj_d271 rfl rfl hlv345_0 ?_
                refine aw_g hU.1 aj_d271 rfl rfl (by decide) (v := .ref 136) rfl ?_
                refine aw_l2 aj_d271 rfl rfl hlv345_0 ?_
                refine aw_n aj_d271 rfl rfl ?_
                refine aw_l0 aj_d271 rfl rfl hlv345_3 ?_
                refine aw_k hU.1 aj_d271 rfl rfl [_, _] rfl rfl rfl (Nat.le_of_ble_eq_true rfl) (ar_at (by omega) (a := (49 : Int)) (b := x11.toInt) rfl rfl (by omega) (by omega)) ?_
                rintro _ zx432 ⟨fx432, x432, rfl, ex432⟩
                rw [fx432]
                show aw_W _ _ _ _ 208 lv345 [.int x432, .ref 136] _ _
                refine aw_l0 aj_d271 rfl rfl hlv345_2 ?_
                refine aw_n aj_d271 rfl rfl ?_
                refine aw_ks aj_d271 rfl rfl rfl [_, _, _, _] rfl rfl (Nat.le_of_ble_eq_true rfl) (ar_put hU (hI344).1 (by omega) (k := 19) (n := 48000) (by decide) (by decide) rfl rfl (a := (((49 : Int) * 30 + x11.toInt) * 32)) (b := x10.toInt) ex432 rfl (by omega) (by omega) (by omega) (by decide)) ?_
                rintro _ S433 ⟨hT433, fc433, rfl, pe433⟩
                have fr434 := aw_fr_tr fr343 (aw_fr_sub (F := []) (A := [19]) (by decide) (by decide) fc433)
                have hI435 : aw_I s h (aw_sm S7) S433 := ⟨hT433, aw_sm_tr hI344.2 (aw_fr_sm (by decide) (by decide) (by decide) (F := []) (A := [19]) fc433)⟩
                show aw_W _ _ _ _ 213 lv345 [] _ _
                refine aw_n aj_d271 rfl rfl ?_
                refine aw_e aj_d271 rfl rfl ?_
                have c436 : (S342.1 30).toInt = (S7.1 30).toInt := (congrArg Int32.toInt (fc342.1 30 (by decide)).1).trans rfl
                have b437 : 0 ≤ (S342.1 30).toInt ∧ (S342.1 30).toInt ≤ 1001 := aw_bd_f hs (hI344).1 (by decide) rfl
                have c438 : (S433.1 30).toInt = (S7.1 30).toInt := (congrArg Int32.toInt (fc433.1 30 (by decide)).1).trans c436
                have b439 : 0 ≤ (S433.1 30).toInt ∧ (S433.1 30).toInt ≤ 1001 := aw_bd_f hs (hI435).1 (by decide) rfl
                exact ⟨(hI435).1, fr434, Or.inr ⟨_, rfl, rfl, (aw_G_sm hI435.2 hI13.2), (show _ + 0 ≤ ((S433.1 30)).toInt by omega)⟩⟩
              · have q431 : b342.toInt > (0 : Int) := aw_t_le (a := b342.toInt) (b := (0 : Int)) rfl rfl q431
                refine aw_l2 aj_d271 rfl rfl hlv345_0 ?_
                refine aw_g hU.1 aj_d271 rfl rfl (by decide) (v := .ref 131) rfl ?_
                refine aw_n aj_d271 rfl rfl ?_
                refine aw_ld (k := 14) hU.1 aj_d271 (Or.inl ⟨rfl, rfl⟩) rfl (by decide) (by decide) rfl (a := (49 : Int)) rfl (by omega) (by omega) (fun x440 ex440 => ?_)
                have bx440 : 0 ≤ x440.toInt ∧ x440.toInt ≤ 30 := by
                  rw [ex440]
                  exact aw_bd_a hs (hI344).1 (k := 14) (by decide) (by decide) rfl (by decide) rfl (by omega)
                have ftx440 : x440.toInt = (S7.2.2.1 14 49).toInt := congrArg Int32.toInt (ex440.trans (congrFun ((fc342.2 14 (by decide)).1.trans rfl) _))
                refine aw_n aj_d271 rfl rfl ?_
                refine aw_c (tgt := 70) aj_d271 rfl rfl (fun q441 => ?_) (fun q441 => ?_)
                · have q441 : x440.toInt ≠ (30 : Int) := aw_t_ne (a := x440.toInt) (b := (30 : Int)) rfl rfl q441
                  refine aw_l2 aj_d271 rfl rfl hlv345_0 ?_
                  refine aw_g hU.1 aj_d271 rfl rfl (by decide) (v := .ref 131) rfl ?_
                  refine aw_n aj_d271 rfl rfl ?_
                  refine aw_ld (k := 14) hU.1 aj_d271 (Or.inl ⟨rfl, rfl⟩) rfl (by decide) (by decide) rfl (a := (49 : Int)) rfl (by omega) (by omega) (fun x442 ex442 => ?_)
                  have bx442 : 0 ≤ x442.toInt ∧ x442.toInt ≤ 30 := by
                    rw [ex442]
                    exact aw_bd_a hs (hI344).1 (k := 14) (by decide) (by decide) rfl (by decide) rfl (by omega)
                  have ftx442 : x442.toInt = (S7.2.2.1 14 49).toInt := congrArg Int32.toInt (ex442.trans (congrFun ((fc342.2 14 (by decide)).1.trans rfl) _))
                  refine aw_t0 (j := 5) aj_d271 rfl (by decide) rfl ?_
                  obtain ⟨lv443, elv443⟩ : ∃ l, l = aj_set1 lv345 5 (.int x442) := ⟨_, rfl⟩
                  rw [← elv443]
                  have hlv443_0 : aj_lv lv443 0 = some (.ref 117) := cw_e1 elv443 hlv345_0 (by decide) (Or.inl (by decide))
                  have hlv443_1 : aj_lv lv443 1 = some (.int x9) := cw_e1 elv443 hlv345_1 (by decide) (Or.inl (by decide))
                  have hlv443_2 : aj_lv lv443 2 = some (.int x10) := cw_e1 elv443 hlv345_2 (by decide) (Or.inl (by decide))
                  have hlv443_3 : aj_lv lv443 3 = some (.int x11) := cw_e1 elv443 hlv345_3 (by decide) (Or.inl (by decide))
                  have hlv443_5 : aj_lv lv443 5 = some (.int x442) := by rw [elv443]; exact ak_set1_eq _ _ _
                  show aw_W _ _ _ _ 79 lv443 [] _ _
                  have c516 : (S342.1 30).toInt = (S7.1 30).toInt := (congrArg Int32.toInt (fc342.1 30 (by decide)).1).trans rfl
                  have b517 : 0 ≤ (S342.1 30).toInt ∧ (S342.1 30).toInt ≤ 1001 := aw_bd_f hs (hI344).1 (by decide) rfl
                  exact (ar_comes_L79_443 hU hd N5 S7 x9 x10 x11 x12 ihL5_5 hm5) _ S342 lv443 (x9) (x10) (x11) (x442) hlv443_0 hlv443_1 hlv443_2 hlv443_3 hlv443_5 ⟨(hI344).1, (aw_G_sm hI344.2 hI13.2)⟩ fr343 (by omega) (by omega) (by omega) (by omega) (show _ ≤ ((S342.1 30)).toInt by omega) (by omega) (by rw [show (S342.2.2.1 14) = S7.2.2.1 14 from ((fc342.2 14 (by decide)).1.trans rfl)]; omega) (Nat.lt_succ_self _)
                · have q441 : x440.toInt = (30 : Int) := aw_t_ne (a := x440.toInt) (b := (30 : Int)) rfl rfl q441
                  refine aw_n aj_d271 rfl rfl ?_
                  refine aw_e aj_d271 rfl rfl ?_
                  have c518 : (S342.1 30).toInt = (S7.1 30).toInt := (congrArg Int32.toInt (fc342.1 30 (by decide)).1).trans rfl
                  have b519 : 0 ≤ (S342.1 30).toInt ∧ (S342.1 30).toInt ≤ 1001 := aw_bd_f hs (hI344).1 (by decide) rfl
                  exact ⟨(hI344).1, fr343, Or.inl ⟨_, rfl, rfl, (aw_G_sm hI344.2 hI13.2), (show _ ≤ ((S342.1 30)).toInt by omega)⟩⟩
          · have q348 : x11.toInt < x347.toInt := aw_t_ge (a := x11.toInt) (b := x347.toInt) rfl rfl q348
            refine aw_l0 aj_d271 rfl rfl hlv345_4 ?_
            refine aw_z (tgt := 40) aj_d271 rfl rfl (fun q520 => ?_) (fun q520 => ?_)
            · have q520 : b342.toInt ≥ (0 : Int) := aw_t_ge (a := b342.toInt) (b := (0 : Int)) rfl rfl q520
              refine aw_l0 aj_d271 rfl rfl hlv345_3 ?_
              refine aw_l2 aj_d271 rfl rfl hlv345_0 ?_
              refine aw_g hU.1 aj_d271 rfl rfl (by decide) (v := .ref 131) rfl ?_
              refine aw_n aj_d271 rfl rfl ?_
              refine aw_ld (k := 14) hU.1 aj_d271 (Or.inl ⟨rfl, rfl⟩) rfl (by decide) (by decide) rfl (a := (49 : Int)) rfl (by omega) (by omega) (fun x521 ex521 => ?_)
              have bx521 : 0 ≤ x521.toInt ∧ x521.toInt ≤ 30 := by
                rw [ex521]
                exact aw_bd_a hs (hI344).1 (k := 14) (by decide) (by decide) rfl (by decide) rfl (by omega)
              have ftx521 : x521.toInt = (S7.2.2.1 14 49).toInt := congrArg Int32.toInt (ex521.trans (congrFun ((fc342.2 14 (by decide)).1.trans rfl) _))
              refine aw_c (tgt := 56) aj_d271 rfl rfl (fun q522 => ?_) (fun q522 => ?_)
              · have q522 : x11.toInt = x521.toInt := aw_t_eq (a := x11.toInt) (b := x521.toInt) rfl rfl q522
                refine aw_l2 aj_d271 rfl rfl hlv345_0 ?_
                refine aw_g hU.1 aj_d271 rfl rfl (by decide) (v := .ref 131) rfl ?_
                refine aw_n aj_d271 rfl rfl ?_
                refine aw_ld (k := 14) hU.1 aj_d271 (Or.inl ⟨rfl, rfl⟩) rfl (by decide) (by decide) rfl (a := (49 : Int)) rfl (by omega) (by omega) (fun x523 ex523 => ?_)
                have bx523 : 0 ≤ x523.toInt ∧ x523.toInt ≤ 30 := by
                  rw [ex523]
                  exact aw_bd_a hs (hI344).1 (k := 14) (by decide) (by decide) rfl (by decide) rfl (by omega)
                have ftx523 : x523.toInt = (S7.2.2.1 14 49).toInt := congrArg Int32.toInt (ex523.trans (congrFun ((fc342.2 14 (by decide)).1.trans rfl) _))
                refine aw_n aj_d271 rfl rfl ?_
                refine aw_c (tgt := 70) aj_d271 rfl rfl (fun q524 => ?_) (fun q524 => ?_)
                · have q524 : x523.toInt ≠ (30 : Int) := aw_t_ne (a := x523.toInt) (b := (30 : Int)) rfl rfl q524
                  refine aw_l2 aj_d271 rfl rfl hlv345_0 ?_
                  refine aw_g hU.1 aj_d271 rfl rfl (by decide) (v := .ref 131) rfl ?_
                  refine aw_n aj_d271 rfl rfl ?_
                  refine aw_ld (k := 14) hU.1 aj_d271 (Or.inl ⟨rfl, rfl⟩) rfl (by decide) (by decide) rfl (a := (49 : Int)) rfl (by omega) (by omega) (fun x525 ex525 => ?_)
                  have bx525 : 0 ≤ x525.toInt ∧ x525.toInt ≤ 30 := by
                    rw [ex525]
                    exact aw_bd_a hs (hI344).1 (k := 14) (by decide) (by decide) rfl (by decide) rfl (by omega)
                  have ftx525 : x525.toInt = (S7.2.2.1 14 49).toInt := congrArg Int32.toInt (ex525.trans (congrFun ((fc342.2 14 (by decide)).1.trans rfl) _))
                  refine aw_t0 (j := 5) aj_d271 rfl (by decide) rfl ?_
                  obtain ⟨lv526, elv526⟩ : ∃ l, l = aj_set1 lv345 5 (.int x525) := ⟨_, rfl⟩
                  rw [← elv526]
                  have hlv526_0 : aj_lv lv526 0 = some (.ref 117) := cw_e1 elv526 hlv345_0 (by decide) (Or.inl (by decide))
                  have hlv526_1 : aj_lv lv526 1 = some (.int x9) := cw_e1 elv526 hlv345_1 (by decide) (Or.inl (by decide))
                  have hlv526_2 : aj_lv lv526 2 = some (.int x10) := cw_e1 elv526 hlv345_2 (by decide) (Or.inl (by decide))
                  have hlv526_3 : aj_lv lv526 3 = some (.int x11) := cw_e1 elv526 hlv345_3 (by decide) (Or.inl (by decide))
                  have hlv526_5 : aj_lv lv526 5 = some (.int x525) := by rw [elv526]; exact ak_set1_eq _ _ _
                  show aw_W _ _ _ _ 79 lv526 [] _ _
                  have c599 : (S342.1 30).toInt = (S7.1 30).toInt := (congrArg Int32.toInt (fc342.1 30 (by decide)).1).trans rfl
                  have b600 : 0 ≤ (S342.1 30).toInt ∧ (S342.1 30).toInt ≤ 1001 := aw_bd_f hs (hI344).1 (by decide) rfl
                  exact (ar_comes_L79_526 hU hd N5 S7 x9 x10 x11 x12 ihL5_5 hm5) _ S342 lv526 (x9) (x10) (x11) (x525) hlv526_0 hlv526_1 hlv526_2 hlv526_3 hlv526_5 ⟨(hI344).1, (aw_G_sm hI344.2 hI13.2)⟩ fr343 (by omega) (by omega) (by omega) (by omega) (show _ ≤ ((S342.1 30)).toInt by omega) (by omega) (by rw [show (S342.2.2.1 14) = S7.2.2.1 14 from ((fc342.2 14 (by decide)).1.trans rfl)]; omega) (Nat.lt_succ_self _)
                · have q524 : x523.toInt = (30 : Int) := aw_t_ne (a := x523.toInt) (b := (30 : Int)) rfl rfl q524
                  refine aw_n aj_d271 rfl rfl ?_
                  refine aw_e aj_d271 rfl rfl ?_
                  have c601 : (S342.1 30).toInt = (S7.1 30).toInt := (congrArg Int32.toInt (fc342.1 30 (by decide)).1).trans rfl
                  have b602 : 0 ≤ (S342.1 30).toInt ∧ (S342.1 30).toInt ≤ 1001 := aw_bd_f hs (hI344).1 (by decide) rfl
                  exact ⟨(hI344).1, fr343, Or.inl ⟨_, rfl, rfl, (aw_G_sm hI344.2 hI13.2), (show _ ≤ ((S342.1 30)).toInt by omega)⟩⟩
              · have q522 : x11.toInt ≠ x521.toInt := aw_t_eq (a := x11.toInt) (b := x521.toInt) rfl rfl q522
                refine aw_l0 aj_d271 rfl rfl hlv345_4 ?_
                refine aw_z (tgt := 197) aj_d271 rfl rfl (fun q603 => ?_) (fun q603 => ?_)
                · have q603 : b342.toInt ≤ (0 : Int) := aw_t_le (a := b342.toInt) (b := (0 : Int)) rfl rfl q603
                  refine aw_l2 aj_d271 rfl rfl hlv345_0 ?_
                  refine aw_g hU.1 aj_d271 rfl rfl (by decide) (v := .ref 136) rfl ?_
                  refine aw_l2 aj_d271 rfl rfl hlv345_0 ?_
                  refine aw_n aj_d271 rfl rfl ?_
                  refine aw_l0 aj_d271 rfl rfl hlv345_3 ?_
                  refine aw_k hU.1 aj_d271 rfl rfl [_, _] rfl rfl rfl (Nat.le_of_ble_eq_true rfl) (ar_at (by omega) (a := (49 : Int)) (b := x11.toInt) rfl rfl (by omega) (by omega)) ?_
                  rintro _ zx604 ⟨fx604, x604, rfl, ex604⟩
                  rw [fx604]
                  show aw_W _ _ _ _ 208 lv345 [.int x604, .ref 136] _ _
                  refine aw_l0 aj_d271 rfl rfl hlv345_2 ?_
                  refine aw_n aj_d271 rfl rfl ?_
                  refine aw_ks aj_d271 rfl rfl rfl [_, _, _, _] rfl rfl (Nat.le_of_ble_eq_true rfl) (ar_put hU (hI344).1 (by omega) (k := 19) (n := 48000) (by decide) (by decide) rfl rfl (a := (((49 : Int) * 30 + x11.toInt) * 32)) (b := x10.toInt) ex604 rfl (by omega) (by omega) (by omega) (by decide)) ?_
                  rintro _ S605 ⟨hT605, fc605, rfl, pe605⟩
                  have fr606 := aw_fr_tr fr343 (aw_fr_sub (F := []) (A := [19]) (by decide) (by decide) fc605)
                  have hI607 : aw_I s h (aw_sm S7) S605 := ⟨hT605, aw_sm_tr hI344.2 (aw_fr_sm (by decide) (by decide) (by decide) (F := []) (A := [19]) fc605)⟩
                  show aw_W _ _ _ _ 213 lv345 [] _ _
                  refine aw_n aj_d271 rfl rfl ?_
                  refine aw_e aj_d271 rfl rfl ?_
                  have c608 : (S342.1 30).toInt = (S7.1 30).toInt := (congrArg Int32.toInt (fc342.1 30 (by decide)).1).trans rfl
                  have b609 : 0 ≤ (S342.1 30).toInt ∧ (S342.1 30).toInt ≤ 1001 := aw_bd_f hs (hI344).1 (by decide) rfl
                  have c610 : (S605.1 30).toInt = (S7.1 30).toInt := (congrArg Int32.toInt (fc605.1 30 (by decide)).1).trans c608
                  have b611 : 0 ≤ (S605.1 30).toInt ∧ (S605.1 30).toInt ≤ 1001 := aw_bd_f hs (hI607).1 (by decide) rfl
                  exact ⟨(hI607).1, fr606, Or.inr ⟨_, rfl, rfl, (aw_G_sm hI607.2 hI13.2), (show _ + 0 ≤ ((S605.1 30)).toInt by omega)⟩⟩
                · have q603 : b342.toInt > (0 : Int) := aw_t_le (a := b342.toInt) (b := (0 : Int)) rfl rfl q603
                  refine aw_l2 aj_d271 rfl rfl hlv345_0 ?_
                  refine aw_g hU.1 aj_d271 rfl rfl (by decide) (v := .ref 131) rfl ?_
                  refine aw_n aj_d271 rfl rfl ?_
                  refine aw_ld (k := 14) hU.1 aj_d271 (Or.inl ⟨rfl, rfl⟩) rfl (by decide) (by decide) rfl (a := (49 : Int)) rfl (by omega) (by omega) (fun x612 ex612 => ?_)
                  have bx612 : 0 ≤ x612.toInt ∧ x612.toInt ≤ 30 := by
                    rw [ex612]
                    exact aw_bd_a hs (hI344).1 (k := 14) (by decide) (by decide) rfl (by decide) rfl (by omega)
                  have ftx612 : x612.toInt = (S7.2.2.1 14 49).toInt := congrArg Int32.toInt (ex612.trans (congrFun ((fc342.2 14 (by decide)).1.trans rfl) _))
                  refine aw_n aj_d271 rfl rfl ?_
                  refine aw_c (tgt := 70) aj_d271 rfl rfl (fun q613 => ?_) (fun q613 => ?_)
                  · have q613 : x612.toInt ≠ (30 : Int) := aw_t_ne (a := x612.toInt) (b := (30 : Int)) rfl rfl q613
                    refine aw_l2 aj_d271 rfl rfl hlv345_0 ?_
                    refine aw_g hU.1 aj_d271 rfl rfl (by decide) (v := .ref 131) rfl ?_
                    refine aw_n aj_d271 rfl rfl ?_
                    refine aw_ld (k := 14) hU.1 aj_d271 (Or.inl ⟨rfl, rfl⟩) rfl (by decide) (by decide) rfl (a := (49 : Int)) rfl (by omega) (by omega) (fun x614 ex614 => ?_)
                    have bx614 : 0 ≤ x614.toInt ∧ x614.toInt ≤ 30 := by
                      rw [ex614]
                      exact aw_bd_a hs (hI344).1 (k := 14) (by decide) (by decide) rfl (by decide) rfl (by omega)
                    have ftx614 : x614.toInt = (S7.2.2.1 14 49).toInt := congrArg Int32.toInt (ex614.trans (congrFun ((fc342.2 14 (by decide)).1.trans rfl) _))
                    refine aw_t0 (j := 5) aj_d271 rfl (by decide) rfl ?_
                    obtain ⟨lv615, elv615⟩ : ∃ l, l = aj_set1 lv345 5 (.int x614) := ⟨_, rfl⟩
                    rw [← elv615]
                    have hlv615_0 : aj_lv lv615 0 = some (.ref 117) := cw_e1 elv615 hlv345_0 (by decide) (Or.inl (by decide))
                    have hlv615_1 : aj_lv lv615 1 = some (.int x9) := cw_e1 elv615 hlv345_1 (by decide) (Or.inl (by decide))
                    have hlv615_2 : aj_lv lv615 2 = some (.int x10) := cw_e1 elv615 hlv345_2 (by decide) (Or.inl (by decide))
                    have hlv615_3 : aj_lv lv615 3 = some (.int x11) := cw_e1 elv615 hlv345_3 (by decide) (Or.inl (by decide))
                    have hlv615_5 : aj_lv lv615 5 = some (.int x614) := by rw [elv615]; exact ak_set1_eq _ _ _
                    show aw_W _ _ _ _ 79 lv615 [] _ _
                    have c688 : (S342.1 30).toInt = (S7.1 30).toInt := (congrArg Int32.toInt (fc342.1 30 (by decide)).1).trans rfl
                    have b689 : 0 ≤ (S342.1 30).toInt ∧ (S342.1 30).toInt ≤ 1001 := aw_bd_f hs (hI344).1 (by decide) rfl
                    exact (ar_comes_L79_615 hU hd N5 S7 x9 x10 x11 x12 ihL5_5 hm5) _ S342 lv615 (x9) (x10) (x11) (x614) hlv615_0 hlv615_1 hlv615_2 hlv615_3 hlv615_5 ⟨(hI344).1, (aw_G_sm hI344.2 hI13.2)⟩ fr343 (by omega) (by omega) (by omega) (by omega) (show _ ≤ ((S342.1 30)).toInt by omega) (by omega) (by rw [show (S342.2.2.1 14) = S7.2.2.1 14 from ((fc342.2 14 (by decide)).1.trans rfl)]; omega) (Nat.lt_succ_self _)
                  · have q613 : x612.toInt = (30 : Int) := aw_t_ne (a := x612.toInt) (b := (30 : Int)) rfl rfl q613
                    refine aw_n aj_d271 rfl rfl ?_
                    refine aw_e aj_d271 rfl rfl ?_
                    have c690 : (S342.1 30).toInt = (S7.1 30).toInt := (congrArg Int32.toInt (fc342.1 30 (by decide)).1).trans rfl
                    have b691 : 0 ≤ (S342.1 30).toInt ∧ (S342.1 30).toInt ≤ 1001 := aw_bd_f hs (hI344).1 (by decide) rfl
                    exact ⟨(hI344).1, fr343, Or.inl ⟨_, rfl, rfl, (aw_G_sm hI344.2 hI13.2), (show _ ≤ ((S342.1 30)).toInt by omega)⟩⟩
            · have q520 : b342.toInt < (0 : Int) := aw_t_ge (a := b342.toInt) (b := (0 : Int)) rfl rfl q520
              exfalso
              omega
        · have q346 : b342.toInt < (0 : Int) := aw_t_ge (a := b342.toInt) (b := (0 : Int)) rfl rfl q346
          refine aw_inc aj_d271 rfl hlv345_3 (a := x11.toInt) rfl (by omega) (by omega) (by decide) (by decide) (fun x692 ex692 => ?_)
          obtain ⟨lv693, elv693⟩ : ∃ l, l = aj_set1 lv345 3 (.int x692) := ⟨_, rfl⟩
          rw [← elv693]
          have hlv693_0 : aj_lv lv693 0 = some (.ref 117) := cw_e1 elv693 hlv345_0 (by decide) (Or.inl (by decide))
          have hlv693_1 : aj_lv lv693 1 = some (.int x9) := cw_e1 elv693 hlv345_1 (by decide) (Or.inl (by decide))
          have hlv693_2 : aj_lv lv693 2 = some (.int x10) := cw_e1 elv693 hlv345_2 (by decide) (Or.inr rfl)
          have hlv693_4 : aj_lv lv693 4 = some (.int b342) := cw_e1 elv693 hlv345_4 (by decide) (Or.inl (by decide))
          have hlv693_3 : aj_lv lv693 3 = some (.int x692) := by rw [elv693]; exact ak_set1_eq _ _ _
          show aw_W _ _ _ _ 37 lv693 [] _ _
          refine aw_n aj_d271 rfl rfl ?_
          have c694 : (S342.1 30).toInt = (S7.1 30).toInt := (congrArg Int32.toInt (fc342.1 30 (by decide)).1).trans rfl
          have b695 : 0 ≤ (S342.1 30).toInt ∧ (S342.1 30).toInt ≤ 1001 := aw_bd_f hs (hI344).1 (by decide) rfl
          exact ihL5_5 S342 lv693 (x9) (x10) (x692) (b342) hlv693_0 hlv693_1 hlv693_2 hlv693_3 hlv693_4 ⟨(hI344).1, (aw_G_sm hI344.2 hI13.2)⟩ fr343 (by omega) (by omega) (by omega) (by omega) (show _ ≤ ((S342.1 30)).toInt by omega) (by rw [show (S342.2.2.1 14) = S7.2.2.1 14 from ((fc342.2 14 (by decide)).1.trans rfl)]; omega) (by first | omega | decide) (by omega)
theorem ar_comes (hU : aw_U tb s h) (hT : ak_Ty ak_TN s (aj_mh h S)) (hG : aw_G g S) (hd : 3 ≤ d) {x y : Int32} (hx : 1 ≤ x.toInt ∧ x.toInt ≤ 7) (hy : 0 ≤ y.toInt ∧ y.toInt ≤ 1023) : aw_K tb h d 271 [.ref 117, .int x, .int y] S (ar_QB s h [] [14, 17, 18, 19] S (fun S' => aw_G g S' ∧ (S.1 30).toInt ≤ (S'.1 30).toInt) (fun S' => aw_G g S' ∧ (S.1 30).toInt + 0 ≤ (S'.1 30).toInt)) := by
  obtain ⟨d, rfl⟩ : ∃ e, d = e + 1 := ⟨d - 1, by omega⟩
  have hs : aw_sT s := aw_hy_sT hU.2.2
  refine aw_m aj_m271_at rfl (Nat.le_of_ble_eq_true rfl) ?_
  show aw_W _ _ _ _ 0 [(0, .ref 117), (1, .int x), (2, .int y)] [] _ _
  obtain ⟨lv1, elv1⟩ : ∃ l : aj_V, l = [(0, .ref 117), (1, .int x), (2, .int y)] := ⟨_, rfl⟩
  rw [← elv1]
  have hlv1_0 : aj_lv lv1 0 = some (.ref 117) := by rw [elv1]; rfl
  have hlv1_1 : aj_lv lv1 1 = some (.int x) := by rw [elv1]; rfl
  have hlv1_2 : aj_lv lv1 2 = some (.int y) := by rw [elv1]; rfl
  have hI2 : aw_I s h (aw_sm S) S := ⟨hT, aw_sm_rf⟩
  have fr3 : aw_fr [] [14, 17, 18, 19] S S := aw_fr_rf
  refine aw_n aj_d271 rfl rfl ?_
  refine aw_t0 (j := 3) aj_d271 rfl (by decide) rfl ?_
  obtain ⟨lv4, elv4⟩ : ∃ l, l = aj_set1 lv1 3 (.int (Int32.ofInt 0)) := ⟨_, rfl⟩
  rw [← elv4]
  have hlv4_0 : aj_lv lv4 0 = some (.ref 117) := cw_e1 elv4 hlv1_0 (by decide) (Or.inl (by decide))
  have hlv4_1 : aj_lv lv4 1 = some (.int x) := cw_e1 elv4 hlv1_1 (by decide) (Or.inl (by decide))
  have hlv4_2 : aj_lv lv4 2 = some (.int y) := cw_e1 elv4 hlv1_2 (by decide) (Or.inr rfl)
  have hlv4_3 : aj_lv lv4 3 = some (.int (Int32.ofInt 0)) := by rw [elv4]; exact ak_set1_eq _ _ _
  show aw_W _ _ _ _ 2 lv4 [] _ _
  refine aw_n aj_d271 rfl rfl ?_
  refine aw_t0 (j := 4) aj_d271 rfl (by decide) rfl ?_
  obtain ⟨lv5, elv5⟩ : ∃ l, l = aj_set1 lv4 4 (.int (Int32.ofInt (-1))) := ⟨_, rfl⟩
  rw [← elv5]
  have hlv5_0 : aj_lv lv5 0 = some (.ref 117) := cw_e1 elv5 hlv4_0 (by decide) (Or.inl (by decide))
  have hlv5_1 : aj_lv lv5 1 = some (.int x) := cw_e1 elv5 hlv4_1 (by decide) (Or.inl (by decide))
  have hlv5_2 : aj_lv lv5 2 = some (.int y) := cw_e1 elv5 hlv4_2 (by decide) (Or.inl (by decide))
  have hlv5_3 : aj_lv lv5 3 = some (.int (Int32.ofInt 0)) := cw_e1 elv5 hlv4_3 (by decide) (Or.inr rfl)
  have hlv5_4 : aj_lv lv5 4 = some (.int (Int32.ofInt (-1))) := by rw [elv5]; exact ak_set1_eq _ _ _
  show aw_W _ _ _ _ 5 lv5 [] _ _
  have b696 : 0 ≤ (S.1 30).toInt ∧ (S.1 30).toInt ≤ 1001 := aw_bd_f hs (hI2).1 (by decide) rfl
  exact (ar_comes_L5_5 hU hd ) _ S lv5 (x) (y) ((Int32.ofInt 0)) ((Int32.ofInt (-1))) hlv5_0 hlv5_1 hlv5_2 hlv5_3 hlv5_4 ⟨(hI2).1, hG⟩ fr3 (by omega) (by omega) (by first | omega | decide) (by first | omega | decide) (show _ ≤ ((S.1 30)).toInt by omega) (by have bz := aw_bd_a hs (hI2).1 (k := 14) (j := 49) (by decide) (by decide) rfl (by decide) rfl (by decide); exact (show (0 : Int) ≤ _ from bz.1)) (by first | omega | decide) (Nat.lt_succ_self _)
theorem arc_271 (hU : aw_U tb s h) : ak_CT ak_TR (aw_SP s h (aw_G g)) aw_kap tb 3 ac_c271 := by
  refine ar_ofB (F := []) (A := [14, 17, 18, 19]) hU aw_Gs_G rfl ⟨rfl, rfl, rfl, (by decide), rfl, rfl, rfl⟩ ⟨by decide, by decide⟩ (fun d hd S as hI hA hQ => ?_)
  obtain ⟨v0, as, rfl, g0, hA⟩ := cw_gAc hA
  obtain ⟨v1, as, rfl, g1, hA⟩ := cw_gAc hA
  obtain ⟨v2, as, rfl, g2, hA⟩ := cw_gAc hA
  cases cw_gAn hA
  obtain rfl := aw_117 hU.2.2 g0
  obtain ⟨x1, rfl, b1⟩ := ak_gi g1
  dsimp only [ak_win] at b1
  obtain ⟨x2, rfl, b2⟩ := ak_gi g2
  dsimp only [ak_win] at b2
  refine aw_mono ?_ (ar_comes hU hI.1 hI.2 hd b1 b2)
  rintro r S' ⟨k1, k2, ⟨b, rfl, hb, p1, p2⟩ | ⟨b, rfl, hb, p1, p2⟩⟩
  · exact ⟨k1, k2, Or.inl ⟨b, rfl, hb, p1, p2⟩⟩
  · exact ⟨k1, k2, Or.inr ⟨b, rfl, hb, p1, p2⟩⟩
theorem ar_union_L30_705 (hU : aw_U tb s h) (hd : 3 ≤ d + 1)  : ∀ (N : Nat) (S707 : aj_S) (lv708 : aj_V) (x709 : Int32) (x710 : Int32), (aj_lv lv708 0 = some (.ref 117)) → (aj_lv lv708 1 = some (.int x709)) → (aj_lv lv708 3 = some (.int x710)) → (aw_I s h (aw_G g) S707) → (aw_fr [24, 25, 31] [14, 17, 18, 19] S S707) → (20 ≤ x709.toInt ∧ x709.toInt ≤ 47) → (0 ≤ x710.toInt ∧ x710.toInt ≤ 30) → ((S.1 30).toInt + 0 ≤ (S707.1 30).toInt) → ((S707.2.2.1 14 (x709.toInt).toNat).toInt + (S707.2.2.1 14 (x709.toInt + 1).toNat).toInt ≤ 30) → (30 - x710.toInt).toNat < N → aw_W tb h d aj_m278 30 lv708 [] S707 ((ar_QB s h [24, 25, 31] [14, 17, 18, 19] S (fun S' => aw_G g S' ∧ (S.1 30).toInt ≤ (S'.1 30).toInt) (fun S' => aw_G g S' ∧ (S.1 30).toInt + 0 ≤ (S'.1 30).toInt))) := by
  have hs : aw_sT s := aw_hy_sT hU.2.2
  intro N30
  induction N30 with
  | zero =>
    intro S707 lv708 x709 x710 hlv708_0 hlv708_1 hlv708_3 hI711 fr712 bx709 bx710 ck30 r30 hm30
    omega
  | succ N30 ihL30_705 =>
    intro S707 lv708 x709 x710 hlv708_0 hlv708_1 hlv708_3 hI711 fr712 bx709 bx710 ck30 r30 hm30
    have hI713 : aw_I s h (aw_sm S707) S707 := ⟨hI711.1, aw_sm_rf⟩
    have b714 : 0 ≤ (S707.1 30).toInt ∧ (S707.1 30).toInt ≤ 1001 := aw_bd_f hs (hI713).1 (by decide) rfl
    refine aw_l0 aj_d278 rfl rfl hlv708_3 ?_
    refine aw_l2 aj_d278 rfl rfl hlv708_0 ?_
    refine aw_g hU.1 aj_d278 rfl rfl (by decide) (v := .ref 131) rfl ?_
    refine aw_l0 aj_d278 rfl rfl hlv708_1 ?_
    refine aw_n aj_d278 rfl rfl ?_
    refine aw_add aj_d278 rfl (a := x709.toInt) (b := (1 : Int)) rfl rfl (by omega) (by omega) (fun x715 ex715 => ?_)
    refine aw_ld (k := 14) hU.1 aj_d278 (Or.inl ⟨rfl, rfl⟩) rfl (by decide) (by decide) rfl (a := (x709.toInt + 1)) ex715 (by omega) (by omega) (fun x716 ex716 => ?_)
    have bx716 : 0 ≤ x716.toInt ∧ x716.toInt ≤ 30 := by
      rw [ex716]
      exact aw_bd_a hs (hI713).1 (k := 14) (by decide) (by decide) rfl (by decide) rfl (by omega)
    have ftx716 : x716.toInt = (S707.2.2.1 14 ((x709.toInt + 1)).toNat).toInt := congrArg Int32.toInt (ex716.trans (congrFun rfl _))
    refine aw_c (tgt := 65) aj_d278 rfl rfl (fun q717 => ?_) (fun q717 => ?_)
    · have q717 : x710.toInt ≥ x716.toInt := aw_t_ge (a := x710.toInt) (b := x716.toInt) rfl rfl q717
      refine aw_l2 aj_d278 rfl rfl hlv708_0 ?_
      refine aw_g hU.1 aj_d278 rfl rfl (by decide) (v := .ref 131) rfl ?_
      refine aw_l0 aj_d278 rfl rfl hlv708_1 ?_
      refine aw_n aj_d278 rfl rfl ?_
      refine aw_ld (k := 14) hU.1 aj_d278 (Or.inl ⟨rfl, rfl⟩) rfl (by decide) (by decide) rfl (a := x709.toInt) rfl (by omega) (by omega) (fun x718 ex718 => ?_)
      have bx718 : 0 ≤ x718.toInt ∧ x718.toInt ≤ 30 := by
        rw [ex718]
        exact aw_bd_a hs (hI713).1 (k := 14) (by decide) (by decide) rfl (by decide) rfl (by omega)
      have ftx718 : x718.toInt = (S707.2.2.1 14 (x709.toInt).toNat).toInt := congrArg Int32.toInt (ex718.trans (congrFun rfl _))
      refine aw_l2 aj_d278 rfl rfl hlv708_0 ?_
      refine aw_g hU.1 aj_d278 rfl rfl (by decide) (v := .ref 131) rfl ?_
      refine aw_l0 aj_d278 rfl rfl hlv708_1 ?_
      refine aw_n aj_d278 rfl rfl ?_
      refine aw_add aj_d278 rfl (a := x709.toInt) (b := (1 : Int)) rfl rfl (by omega) (by omega) (fun x719 ex719 => ?_)
      refine aw_ld (k := 14) hU.1 aj_d278 (Or.inl ⟨rfl, rfl⟩) rfl (by decide) (by decide) rfl (a := (x709.toInt + 1)) ex719 (by omega) (by omega) (fun x720 ex720 => ?_)
      have bx720 : 0 ≤ x720.toInt ∧ x720.toInt ≤ 30 := by
        rw [ex720]
        exact aw_bd_a hs (hI713).1 (k := 14) (by decide) (by decide) rfl (by decide) rfl (by omega)
      have ftx720 : x720.toInt = (S707.2.2.1 14 ((x709.toInt + 1)).toNat).toInt := congrArg Int32.toInt (ex720.trans (congrFun rfl _))
      refine aw_add aj_d278 rfl (a := x718.toInt) (b := x720.toInt) rfl rfl (by omega) (by omega) (fun x721 ex721 => ?_)
      refine aw_st (k := 14) hU.1 aj_d278 (Or.inl ⟨rfl, rfl⟩) rfl (by decide) (by decide) rfl (a := x709.toInt) rfl (by omega) (by omega) ?_
      have hI722 := aw_I_a (aw_UV hU aw_Gs_sm) (k := 14) (j := (x709.toInt).toNat) (v := aj_nar 0 x721) hI713 (by decide) (by decide) (by decide) rfl (by decide) (by decide) rfl (aw_bp (a := x721.toInt) rfl (by omega) (by omega))
      have fr723 := aw_fr_a (k := 14) (j := (x709.toInt).toNat) (v := aj_nar 0 x721) (by decide) fr712
      refine aw_n aj_d278 rfl rfl ?_
      refine aw_e aj_d278 rfl rfl ?_
      exact ⟨(hI722).1, fr723, Or.inr ⟨_, rfl, rfl, (aw_G_sm hI722.2 hI711.2), (show _ + 0 ≤ ((S707.1 30)).toInt by omega)⟩⟩
    · have q717 : x710.toInt < x716.toInt := aw_t_ge (a := x710.toInt) (b := x716.toInt) rfl rfl q717
      refine aw_l2 aj_d278 rfl rfl hlv708_0 ?_
      refine aw_l0 aj_d278 rfl rfl hlv708_1 ?_
      refine aw_n aj_d278 rfl rfl ?_
      refine aw_add aj_d278 rfl (a := x709.toInt) (b := (1 : Int)) rfl rfl (by omega) (by omega) (fun x724 ex724 => ?_)
      refine aw_l0 aj_d278 rfl rfl hlv708_3 ?_
      refine aw_l0 aj_d278 rfl rfl hlv708_1 ?_
      refine aw_l2 aj_d278 rfl rfl hlv708_0 ?_
      refine aw_g hU.1 aj_d278 rfl rfl (by decide) (v := .ref 131) rfl ?_
      refine aw_l0 aj_d278 rfl rfl hlv708_1 ?_
      refine aw_ld (k := 14) hU.1 aj_d278 (Or.inl ⟨rfl, rfl⟩) rfl (by decide) (by decide) rfl (a := x709.toInt) rfl (by omega) (by omega) (fun x725 ex725 => ?_)
      have bx725 : 0 ≤ x725.toInt ∧ x725.toInt ≤ 30 := by
        rw [ex725]
        exact aw_bd_a hs (hI713).1 (k := 14) (by decide) (by decide) rfl (by decide) rfl (by omega)
      have ftx725 : x725.toInt = (S707.2.2.1 14 (x709.toInt).toNat).toInt := congrArg Int32.toInt (ex725.trans (congrFun rfl _))
      refine aw_l0 aj_d278 rfl rfl hlv708_3 ?_
      refine aw_add aj_d278 rfl (a := x725.toInt) (b := x710.toInt) rfl rfl (by omega) (by omega) (fun x726 ex726 => ?_)
      refine aw_k hU.1 aj_d278 rfl rfl [_, _, _, _] rfl rfl rfl (Nat.le_of_ble_eq_true rfl) (ar_copyRow hU (hI713).1 (aw_G_B hI711.2).1 (by omega) (t := x724) (r := x710) (u := x709) (v := x726) (by omega) (by omega) (by omega) (by omega)) ?_
      rintro _ S727 ⟨hT727, fc727, rfl, sk727, kv727⟩
      have hG727 := aw_G_sk hI711.2 sk727 kv727
      have fr728 := aw_fr_tr fr712 (aw_fr_sub (F := []) (A := [17, 18, 19]) (by decide) (by decide) fc727)
      have hI729 : aw_I s h (aw_sm S727) S727 := ⟨hT727, aw_sm_rf⟩
      show aw_W _ _ _ _ 59 lv708 [] _ _
      refine aw_inc aj_d278 rfl hlv708_3 (a := x710.toInt) rfl (by omega) (by omega) (by decide) (by decide) (fun x730 ex730 => ?_)
      obtain ⟨lv731, elv731⟩ : ∃ l, l = aj_set1 lv708 3 (.int x730) := ⟨_, rfl⟩
      rw [← elv731]
      have hlv731_0 : aj_lv lv731 0 = some (.ref 117) := cw_e1 elv731 hlv708_0 (by decide) (Or.inl (by decide))
      have hlv731_1 : aj_lv lv731 1 = some (.int x709) := cw_e1 elv731 hlv708_1 (by decide) (Or.inl (by decide))
      have hlv731_3 : aj_lv lv731 3 = some (.int x730) := by rw [elv731]; exact ak_set1_eq _ _ _
      show aw_W _ _ _ _ 62 lv731 [] _ _
      refine aw_n aj_d278 rfl rfl ?_
      have c732 : (S727.1 30).toInt = (S707.1 30).toInt := (congrArg Int32.toInt (fc727.1 30 (by decide)).1).trans rfl
      have b733 : 0 ≤ (S727.1 30).toInt ∧ (S727.1 30).toInt ≤ 1001 := aw_bd_f hs (hI729).1 (by decide) rfl
      exact ihL30_705 S727 lv731 (x709) (x730) hlv731_0 hlv731_1 hlv731_3 ⟨(hI729).1, hG727⟩ fr728 (by omega) (by omega) (show _ ≤ ((S727.1 30)).toInt by omega) (by rw [show (S727.2.2.1 14) = S707.2.2.1 14 from ((fc727.2 14 (by decide)).1.trans rfl)]; omega) (by omega)
theorem ar_union (hU : aw_U tb s h) (hT : ak_Ty ak_TN s (aj_mh h S)) (hG : aw_G g S) (hd : 3 ≤ d) {x y : Int32} (hx : 20 ≤ x.toInt ∧ x.toInt ≤ 47) : aw_K tb h d 278 [.ref 117, .int x, .int y] S (ar_QB s h [24, 25, 31] [14, 17, 18, 19] S (fun S' => aw_G g S' ∧ (S.1 30).toInt ≤ (S'.1 30).toInt) (fun S' => aw_G g S' ∧ (S.1 30).toInt + 0 ≤ (S'.1 30).toInt)) := by
  obtain ⟨d, rfl⟩ : ∃ e, d = e + 1 := ⟨d - 1, by omega⟩
  have hs : aw_sT s := aw_hy_sT hU.2.2
  refine aw_m aj_m278_at rfl (Nat.le_of_ble_eq_true rfl) ?_
  show aw_W _ _ _ _ 0 [(0, .ref 117), (1, .int x), (2, .int y)] [] _ _
  obtain ⟨lv697, elv697⟩ : ∃ l : aj_V, l = [(0, .ref 117), (1, .int x), (2, .int y)] := ⟨_, rfl⟩
  rw [← elv697]
  have hlv697_0 : aj_lv lv697 0 = some (.ref 117) := by rw [elv697]; rfl
  have hlv697_1 : aj_lv lv697 1 = some (.int x) := by rw [elv697]; rfl
  have hlv697_2 : aj_lv lv697 2 = some (.int y) := by rw [elv697]; rfl
  have hI698 : aw_I s h (aw_sm S) S := ⟨hT, aw_sm_rf⟩
  have fr699 : aw_fr [24, 25, 31] [14, 17, 18, 19] S S := aw_fr_rf
  refine aw_l2 aj_d278 rfl rfl hlv697_0 ?_
  refine aw_g hU.1 aj_d278 rfl rfl (by decide) (v := .ref 131) rfl ?_
  refine aw_l0 aj_d278 rfl rfl hlv697_1 ?_
  refine aw_ld (k := 14) hU.1 aj_d278 (Or.inl ⟨rfl, rfl⟩) rfl (by decide) (by decide) rfl (a := x.toInt) rfl (by omega) (by omega) (fun x700 ex700 => ?_)
  have bx700 : 0 ≤ x700.toInt ∧ x700.toInt ≤ 30 := by
    rw [ex700]
    exact aw_bd_a hs (hI698).1 (k := 14) (by decide) (by decide) rfl (by decide) rfl (by omega)
  have ftx700 : x700.toInt = (S.2.2.1 14 (x.toInt).toNat).toInt := congrArg Int32.toInt (ex700.trans (congrFun rfl _))
  refine aw_l2 aj_d278 rfl rfl hlv697_0 ?_
  refine aw_g hU.1 aj_d278 rfl rfl (by decide) (v := .ref 131) rfl ?_
  refine aw_l0 aj_d278 rfl rfl hlv697_1 ?_
  refine aw_n aj_d278 rfl rfl ?_
  refine aw_add aj_d278 rfl (a := x.toInt) (b := (1 : Int)) rfl rfl (by omega) (by omega) (fun x701 ex701 => ?_)
  refine aw_ld (k := 14) hU.1 aj_d278 (Or.inl ⟨rfl, rfl⟩) rfl (by decide) (by decide) rfl (a := (x.toInt + 1)) ex701 (by omega) (by omega) (fun x702 ex702 => ?_)
  have bx702 : 0 ≤ x702.toInt ∧ x702.toInt ≤ 30 := by
    rw [ex702]
    exact aw_bd_a hs (hI698).1 (k := 14) (by decide) (by decide) rfl (by decide) rfl (by omega)
  have ftx702 : x702.toInt = (S.2.2.1 14 ((x.toInt + 1)).toNat).toInt := congrArg Int32.toInt (ex702.trans (congrFun rfl _))
  refine aw_add aj_d278 rfl (a := x700.toInt) (b := x702.toInt) rfl rfl (by omega) (by omega) (fun x703 ex703 => ?_)
  refine aw_n aj_d278 rfl rfl ?_
  refine aw_c (tgt := 28) aj_d278 rfl rfl (fun q704 => ?_) (fun q704 => ?_)
  · have q704 : x703.toInt ≤ (30 : Int) := aw_t_le (a := x703.toInt) (b := (30 : Int)) rfl rfl q704
    refine aw_n aj_d278 rfl rfl ?_
    refine aw_t0 (j := 3) aj_d278 rfl (by decide) rfl ?_
    obtain ⟨lv705, elv705⟩ : ∃ l, l = aj_set1 lv697 3 (.int (Int32.ofInt 0)) := ⟨_, rfl⟩
    rw [← elv705]
    have hlv705_0 : aj_lv lv705 0 = some (.ref 117) := cw_e1 elv705 hlv697_0 (by decide) (Or.inl (by decide))
    have hlv705_1 : aj_lv lv705 1 = some (.int x) := cw_e1 elv705 hlv697_1 (by decide) (Or.inl (by decide))
    have hlv705_3 : aj_lv lv705 3 = some (.int (Int32.ofInt 0)) := by rw [elv705]; exact ak_set1_eq _ _ _
    show aw_W _ _ _ _ 30 lv705 [] _ _
    have b734 : 0 ≤ (S.1 30).toInt ∧ (S.1 30).toInt ≤ 1001 := aw_bd_f hs (hI698).1 (by decide) rfl
    exact (ar_union_L30_705 hU hd ) _ S lv705 (x) ((Int32.ofInt 0)) hlv705_0 hlv705_1 hlv705_3 ⟨(hI698).1, hG⟩ fr699 (by omega) (by first | omega | decide) (show _ ≤ ((S.1 30)).toInt by omega) (by rw [show (S.2.2.1 14) = S.2.2.1 14 from rfl]; omega) (Nat.lt_succ_self _)
  · have q704 : x703.toInt > (30 : Int) := aw_t_le (a := x703.toInt) (b := (30 : Int)) rfl rfl q704
    refine aw_l2 aj_d278 rfl rfl hlv697_0 ?_
    refine aw_n aj_d278 rfl rfl ?_
    refine aw_l0 aj_d278 rfl rfl hlv697_2 ?_
    refine aw_k hU.1 aj_d278 rfl rfl [_, _] rfl rfl rfl (Nat.le_of_ble_eq_true rfl) (ar_stop hU (hI698).1 (by omega) (a := (6 : Int)) rfl) ?_
    rintro _ S735 ⟨hT735, fc735, rfl, hz735⟩
    have hG735 := aw_G_stop hG fc735 (by omega)
    have fr736 := aw_fr_tr fr699 (aw_fr_sub (F := [24, 25, 31]) (A := []) (by decide) (by decide) fc735)
    have hI737 : aw_I s h (aw_sm S735) S735 := ⟨hT735, aw_sm_rf⟩
    show aw_W _ _ _ _ 27 lv697 [.int (Int32.ofInt 0)] _ _
    refine aw_e aj_d278 rfl rfl ?_
    have b738 : 0 ≤ (S.1 30).toInt ∧ (S.1 30).toInt ≤ 1001 := aw_bd_f hs (hI698).1 (by decide) rfl
    have c739 : (S735.1 30).toInt = (S.1 30).toInt := (congrArg Int32.toInt (fc735.1 30 (by decide)).1).trans rfl
    have b740 : 0 ≤ (S735.1 30).toInt ∧ (S735.1 30).toInt ≤ 1001 := aw_bd_f hs (hI737).1 (by decide) rfl
    exact ⟨(hI737).1, fr736, Or.inl ⟨_, rfl, rfl, hG735, (show _ ≤ ((S735.1 30)).toInt by omega)⟩⟩
theorem ar_takes_L72_792 (hU : aw_U tb s h) (hd : 7 ≤ d + 1) (N36 : Nat) (S773 : aj_S) (x775 : Int32) (x776 : Int32) (ihL36_771 : ∀ (S773 : aj_S) (lv774 : aj_V) (x775 : Int32) (x776 : Int32), (aj_lv lv774 0 = some (.ref 117)) → (aj_lv lv774 1 = some (.int x775)) → (aj_lv lv774 2 = some (.int x776)) → (aw_I s h (aw_G g) S773) → (aw_fr [24, 25, 26, 27, 28, 29, 30, 31, 33, 34, 56] [14, 15, 16, 17, 18, 19, 25] S S773) → (20 ≤ x775.toInt ∧ x775.toInt ≤ 48) → (0 ≤ x776.toInt ∧ x776.toInt ≤ 6) → ((S.1 30).toInt + 1 ≤ (S773.1 30).toInt) → (6 - x776.toInt).toNat < N36 → aw_W tb h d aj_m260 36 lv774 [] S773 ((ar_QT s h g [24, 25, 26, 27, 28, 29, 30, 31, 33, 34, 56] [14, 15, 16, 17, 18, 19, 25] S (fun _ => True)))) (hm36 : (6 - x776.toInt).toNat < N36 + 1) : ∀ (N : Nat) (S794 : aj_S) (lv795 : aj_V) (x796 : Int32) (x797 : Int32) (x798 : Int32), (aj_lv lv795 0 = some (.ref 117)) → (aj_lv lv795 1 = some (.int x796)) → (aj_lv lv795 2 = some (.int x797)) → (aj_lv lv795 3 = some (.int x798)) → (aw_I s h (aw_G g) S794) → (aw_fr [24, 25, 26, 27, 28, 29, 30, 31, 33, 34, 56] [14, 15, 16, 17, 18, 19, 25] S S794) → (20 ≤ x796.toInt ∧ x796.toInt ≤ 48) → (0 ≤ x797.toInt ∧ x797.toInt ≤ 5) → (0 ≤ x798.toInt ∧ x798.toInt ≤ 30) → ((S.1 30).toInt + 1 ≤ (S794.1 30).toInt) → (x797.toInt = x776.toInt) → (30 - x798.toInt).toNat < N → aw_W tb h d aj_m260 72 lv795 [] S794 ((ar_QT s h g [24, 25, 26, 27, 28, 29, 30, 31, 33, 34, 56] [14, 15, 16, 17, 18, 19, 25] S (fun _ => True))) := by
  have hs : aw_sT s := aw_hy_sT hU.2.2
  intro N72
  induction N72 with
  | zero =>
    intro S794 lv795 x796 x797 x798 hlv795_0 hlv795_1 hlv795_2 hlv795_3 hI799 fr800 bx796 bx797 bx798 ck72 w72 hm72
    omega
  | succ N72 ihL72_792 =>
    intro S794 lv795 x796 x797 x798 hlv795_0 hlv795_1 hlv795_2 hlv795_3 hI799 fr800 bx796 bx797 bx798 ck72 w72 hm72
    have hI801 : aw_I s h (aw_sm S794) S794 := ⟨hI799.1, aw_sm_rf⟩
    have b802 : 0 ≤ (S794.1 30).toInt ∧ (S794.1 30).toInt ≤ 1001 := aw_bd_f hs (hI801).1 (by decide) rfl
    refine aw_l2 aj_d260 rfl rfl hlv795_0 ?_
    have b803 : 0 ≤ (S794.1 32).toInt ∧ (S794.1 32).toInt ≤ 1 := aw_bd_f hs (hI801).1 (by decide) rfl
    refine aw_g hU.1 aj_d260 rfl rfl (by decide) (v := .int (S794.1 32)) rfl ?_
    refine aw_z (tgt := 151) aj_d260 rfl rfl (fun q804 => ?_) (fun q804 => ?_)
    · have q804 : (S794.1 32).toInt = (0 : Int) := aw_t_eq (a := (S794.1 32).toInt) (b := (0 : Int)) rfl rfl q804
      refine aw_inc aj_d260 rfl hlv795_2 (a := x797.toInt) rfl (by omega) (by omega) (by decide) (by decide) (fun x805 ex805 => ?_)
      obtain ⟨lv806, elv806⟩ : ∃ l, l = aj_set1 lv795 2 (.int x805) := ⟨_, rfl⟩
      rw [← elv806]
      have hlv806_0 : aj_lv lv806 0 = some (.ref 117) := cw_e1 elv806 hlv795_0 (by decide) (Or.inl (by decide))
      have hlv806_1 : aj_lv lv806 1 = some (.int x796) := cw_e1 elv806 hlv795_1 (by decide) (Or.inr rfl)
      have hlv806_2 : aj_lv lv806 2 = some (.int x805) := by rw [elv806]; exact ak_set1_eq _ _ _
      show aw_W _ _ _ _ 154 lv806 [] _ _
      refine aw_n aj_d260 rfl rfl ?_
      exact ihL36_771 S794 lv806 (x796) (x805) hlv806_0 hlv806_1 hlv806_2 ⟨(hI801).1, hI799.2⟩ fr800 (by omega) (by omega) (show _ ≤ ((S794.1 30)).toInt by omega) (by omega)
    · have q804 : (S794.1 32).toInt ≠ (0 : Int) := aw_t_eq (a := (S794.1 32).toInt) (b := (0 : Int)) rfl rfl q804
      refine aw_l0 aj_d260 rfl rfl hlv795_3 ?_
      refine aw_l2 aj_d260 rfl rfl hlv795_0 ?_
      refine aw_g hU.1 aj_d260 rfl rfl (by decide) (v := .ref 131) rfl ?_
      refine aw_l0 aj_d260 rfl rfl hlv795_1 ?_
      refine aw_ld (k := 14) hU.1 aj_d260 (Or.inl ⟨rfl, rfl⟩) rfl (by decide) (by decide) rfl (a := x796.toInt) rfl (by omega) (by omega) (fun x807 ex807 => ?_)
      have bx807 : 0 ≤ x807.toInt ∧ x807.toInt ≤ 30 := by
        rw [ex807]
        exact aw_bd_a hs (hI801).1 (k := 14) (by decide) (by decide) rfl (by decide) rfl (by omega)
      refine aw_c (tgt := 151) aj_d260 rfl rfl (fun q808 => ?_) (fun q808 => ?_)
      · have q808 : x798.toInt ≥ x807.toInt := aw_t_ge (a := x798.toInt) (b := x807.toInt) rfl rfl q808
        refine aw_inc aj_d260 rfl hlv795_2 (a := x797.toInt) rfl (by omega) (by omega) (by decide) (by decide) (fun x809 ex809 => ?_)
        obtain ⟨lv810, elv810⟩ : ∃ l, l = aj_set1 lv795 2 (.int x809) := ⟨_, rfl⟩
        rw [← elv810]
        have hlv810_0 : aj_lv lv810 0 = some (.ref 117) := cw_e1 elv810 hlv795_0 (by decide) (Or.inl (by decide))
        have hlv810_1 : aj_lv lv810 1 = some (.int x796) := cw_e1 elv810 hlv795_1 (by decide) (Or.inr rfl)
        have hlv810_2 : aj_lv lv810 2 = some (.int x809) := by rw [elv810]; exact ak_set1_eq _ _ _
        show aw_W _ _ _ _ 154 lv810 [] _ _
        refine aw_n aj_d260 rfl rfl ?_
        exact ihL36_771 S794 lv810 (x796) (x809) hlv810_0 hlv810_1 hlv810_2 ⟨(hI801).1, hI799.2⟩ fr800 (by omega) (by omega) (show _ ≤ ((S794.1 30)).toInt by omega) (by omega)
      · have q808 : x798.toInt < x807.toInt := aw_t_ge (a := x798.toInt) (b := x807.toInt) rfl rfl q808
        refine aw_l2 aj_d260 rfl rfl hlv795_0 ?_
        refine aw_g hU.1 aj_d260 rfl rfl (by decide) (v := .ref 134) rfl ?_
        refine aw_l0 aj_d260 rfl rfl hlv795_1 ?_
        refine aw_l0 aj_d260 rfl rfl hlv795_3 ?_
        refine aw_l0 aj_d260 rfl rfl hlv795_2 ?_
        refine aw_ks aj_d260 rfl rfl rfl [_, _, _] rfl rfl (Nat.le_of_ble_eq_true rfl) (ar_cellAt (by omega) (a := x796.toInt) (b := x798.toInt) (c := x797.toInt) rfl rfl rfl (by omega) (by omega) (by omega)) ?_
        rintro _ zx811 ⟨fx811, x811, rfl, ex811⟩
        rw [fx811]
        show aw_W _ _ _ _ 99 lv795 [.int x811, .ref 134] _ _
        refine aw_l2 aj_d260 rfl rfl hlv795_0 ?_
        refine aw_g hU.1 aj_d260 rfl rfl (by decide) (v := .ref 134) rfl ?_
        refine aw_n aj_d260 rfl rfl ?_
        refine aw_l0 aj_d260 rfl rfl hlv795_3 ?_
        refine aw_l2 aj_d260 rfl rfl hlv795_0 ?_
        refine aw_g hU.1 aj_d260 rfl rfl (by decide) (v := .ref 142) rfl ?_
        refine aw_l0 aj_d260 rfl rfl hlv795_2 ?_
        refine aw_ld (k := 25) hU.1 aj_d260 (Or.inl ⟨rfl, rfl⟩) rfl (by decide) (by decide) rfl (a := x797.toInt) rfl (by omega) (by omega) (fun x812 ex812 => ?_)
        have bx812 : 0 ≤ x812.toInt ∧ x812.toInt ≤ 5 := by
          rw [ex812]
          exact aw_bd_a hs (hI801).1 (k := 25) (by decide) (by decide) rfl (by decide) rfl (by omega)
        have ftx812 : x812.toInt = (S794.2.2.1 25 (x797.toInt).toNat).toInt := congrArg Int32.toInt (ex812.trans (congrFun rfl _))
        refine aw_ks aj_d260 rfl rfl rfl [_, _, _] rfl rfl (Nat.le_of_ble_eq_true rfl) (ar_cellAt (by omega) (a := (49 : Int)) (b := x798.toInt) (c := x812.toInt) rfl rfl rfl (by omega) (by omega) (by omega)) ?_
        rintro _ zx813 ⟨fx813, x813, rfl, ex813⟩
        rw [fx813]
        show aw_W _ _ _ _ 115 lv795 [.int x813, .ref 134, .int x811, .ref 134] _ _
        refine aw_ld (k := 17) hU.1 aj_d260 (Or.inr (Or.inr (Or.inr ⟨rfl, rfl⟩))) rfl (by decide) (by decide) rfl (a := (((49 : Int) * 30 + x798.toInt) * 8 + x812.toInt)) ex813 (by omega) (by omega) (fun x814 ex814 => ?_)
        have bx814 : 0 ≤ x814.toInt ∧ x814.toInt ≤ 1 := by
          rw [ex814]
          exact aw_bd_a hs (hI801).1 (k := 17) (by decide) (by decide) rfl (by decide) rfl (by omega)
        refine aw_st (k := 17) hU.1 aj_d260 (Or.inr (Or.inr (Or.inr ⟨rfl, rfl⟩))) rfl (by decide) (by decide) rfl (a := ((x796.toInt * 30 + x798.toInt) * 8 + x797.toInt)) ex811 (by omega) (by omega) ?_
        have hI815 : aw_I s h (aw_sm (aw_wa S794 17 (((x796.toInt * 30 + x798.toInt) * 8 + x797.toInt)).toNat (aj_nar 4 x814))) (aw_wa S794 17 (((x796.toInt * 30 + x798.toInt) * 8 + x797.toInt)).toNat (aj_nar 4 x814)) := ⟨aw_T_a hU.2.1 hs hU.1.1 (hI801).1 (by decide) (by decide) rfl (by decide) (by decide) rfl (aw_nar4 (aw_bp (a := x814.toInt) rfl (by omega) (by omega)) (by decide) (by decide)), aw_sm_rf⟩
        have fr816 := aw_fr_a (k := 17) (j := (((x796.toInt * 30 + x798.toInt) * 8 + x797.toInt)).toNat) (v := aj_nar 4 x814) (by decide) fr800
        refine aw_l2 aj_d260 rfl rfl hlv795_0 ?_
        refine aw_g hU.1 aj_d260 rfl rfl (by decide) (v := .ref 135) rfl ?_
        refine aw_l0 aj_d260 rfl rfl hlv795_1 ?_
        refine aw_l0 aj_d260 rfl rfl hlv795_3 ?_
        refine aw_l0 aj_d260 rfl rfl hlv795_2 ?_
        refine aw_ks aj_d260 rfl rfl rfl [_, _, _] rfl rfl (Nat.le_of_ble_eq_true rfl) (ar_cellAt (by omega) (a := x796.toInt) (b := x798.toInt) (c := x797.toInt) rfl rfl rfl (by omega) (by omega) (by omega)) ?_
        rintro _ zx817 ⟨fx817, x817, rfl, ex817⟩
        rw [fx817]
        show aw_W _ _ _ _ 127 lv795 [.int x817, .ref 135] _ _
        refine aw_l2 aj_d260 rfl rfl hlv795_0 ?_
        refine aw_g hU.1 aj_d260 rfl rfl (by decide) (v := .ref 135) rfl ?_
        refine aw_n aj_d260 rfl rfl ?_
        refine aw_l0 aj_d260 rfl rfl hlv795_3 ?_
        refine aw_l2 aj_d260 rfl rfl hlv795_0 ?_
        refine aw_g hU.1 aj_d260 rfl rfl (by decide) (v := .ref 142) rfl ?_
        refine aw_l0 aj_d260 rfl rfl hlv795_2 ?_
        refine aw_ld (k := 25) hU.1 aj_d260 (Or.inl ⟨rfl, rfl⟩) rfl (by decide) (by decide) rfl (a := x797.toInt) rfl (by omega) (by omega) (fun x818 ex818 => ?_)
        have bx818 : 0 ≤ x818.toInt ∧ x818.toInt ≤ 5 := by
          rw [ex818]
          exact aw_bd_a hs (hI815).1 (k := 25) (by decide) (by decide) rfl (by decide) rfl (by omega)
        have ftx818 : x818.toInt = (S794.2.2.1 25 (x797.toInt).toNat).toInt := congrArg Int32.toInt (ex818.trans (congrFun rfl _))
        refine aw_ks aj_d260 rfl rfl rfl [_, _, _] rfl rfl (Nat.le_of_ble_eq_true rfl) (ar_cellAt (by omega) (a := (49 : Int)) (b := x798.toInt) (c := x818.toInt) rfl rfl rfl (by omega) (by omega) (by omega)) ?_
        rintro _ zx819 ⟨fx819, x819, rfl, ex819⟩
        rw [fx819]
        show aw_W _ _ _ _ 143 lv795 [.int x819, .ref 135, .int x817, .ref 135] _ _
        refine aw_ld (k := 18) hU.1 aj_d260 (Or.inl ⟨rfl, rfl⟩) rfl (by decide) (by decide) rfl (a := (((49 : Int) * 30 + x798.toInt) * 8 + x818.toInt)) ex819 (by omega) (by omega) (fun x820 ex820 => ?_)
        refine aw_st (k := 18) hU.1 aj_d260 (Or.inl ⟨rfl, rfl⟩) rfl (by decide) (by decide) rfl (a := ((x796.toInt * 30 + x798.toInt) * 8 + x797.toInt)) ex817 (by omega) (by omega) ?_
        have hI821 : aw_I s h (aw_sm (aw_wa (aw_wa S794 17 (((x796.toInt * 30 + x798.toInt) * 8 + x797.toInt)).toNat (aj_nar 4 x814)) 18 (((x796.toInt * 30 + x798.toInt) * 8 + x797.toInt)).toNat (aj_nar 0 x820))) (aw_wa (aw_wa S794 17 (((x796.toInt * 30 + x798.toInt) * 8 + x797.toInt)).toNat (aj_nar 4 x814)) 18 (((x796.toInt * 30 + x798.toInt) * 8 + x797.toInt)).toNat (aj_nar 0 x820)) := ⟨aw_T_a hU.2.1 hs hU.1.1 (hI815).1 (by decide) (by decide) rfl (by decide) (by decide) rfl (aw_full _), aw_sm_rf⟩
        have fr822 := aw_fr_a (k := 18) (j := (((x796.toInt * 30 + x798.toInt) * 8 + x797.toInt)).toNat) (v := aj_nar 0 x820) (by decide) fr816
        have hG823 := aw_G_sk (S' := (aw_wa (aw_wa S794 17 (((x796.toInt * 30 + x798.toInt) * 8 + x797.toInt)).toNat (aj_nar 4 x814)) 18 (((x796.toInt * 30 + x798.toInt) * 8 + x797.toInt)).toNat (aj_nar 0 x820))) hI799.2 (aw_sk_2 aw_sk_rf) (aw_kv_2 (aw_G_B hI799.2).1 (by first | rfl | (congr 1) | omega) (by
            rw [aw_nar4_01 (by omega)]
            intro z
            have y := (aw_G_B hI799.2).1 ((((49 : Int) * 30 + x798.toInt) * 8 + x812.toInt)).toNat (by omega) (by rw [ex814] at z; exact z)
            have hx : ((((49 : Int) * 30 + x798.toInt) * 8 + x818.toInt)).toNat = ((((49 : Int) * 30 + x798.toInt) * 8 + x812.toInt)).toNat := by omega
            show 0 ≤ (x820).toInt ∧ (x820).toInt ≤ 7
            rw [ex820]
            show 0 ≤ (S794.2.2.1 18 ((((49 : Int) * 30 + x798.toInt) * 8 + x818.toInt)).toNat).toInt ∧ (S794.2.2.1 18 ((((49 : Int) * 30 + x798.toInt) * 8 + x818.toInt)).toNat).toInt ≤ 7
            rw [hx]
            exact y))
        have hI824 : aw_I s h (aw_sm (aw_wa (aw_wa S794 17 (((x796.toInt * 30 + x798.toInt) * 8 + x797.toInt)).toNat (aj_nar 4 x814)) 18 (((x796.toInt * 30 + x798.toInt) * 8 + x797.toInt)).toNat (aj_nar 0 x820))) (aw_wa (aw_wa S794 17 (((x796.toInt * 30 + x798.toInt) * 8 + x797.toInt)).toNat (aj_nar 4 x814)) 18 (((x796.toInt * 30 + x798.toInt) * 8 + x797.toInt)).toNat (aj_nar 0 x820)) := ⟨(hI821).1, aw_sm_rf⟩
        refine aw_inc aj_d260 rfl hlv795_3 (a := x798.toInt) rfl (by omega) (by omega) (by decide) (by decide) (fun x825 ex825 => ?_)
        obtain ⟨lv826, elv826⟩ : ∃ l, l = aj_set1 lv795 3 (.int x825) := ⟨_, rfl⟩
        rw [← elv826]
        have hlv826_0 : aj_lv lv826 0 = some (.ref 117) := cw_e1 elv826 hlv795_0 (by decide) (Or.inl (by decide))
        have hlv826_1 : aj_lv lv826 1 = some (.int x796) := cw_e1 elv826 hlv795_1 (by decide) (Or.inl (by decide))
        have hlv826_2 : aj_lv lv826 2 = some (.int x797) := cw_e1 elv826 hlv795_2 (by decide) (Or.inr rfl)
        have hlv826_3 : aj_lv lv826 3 = some (.int x825) := by rw [elv826]; exact ak_set1_eq _ _ _
        show aw_W _ _ _ _ 148 lv826 [] _ _
        refine aw_n aj_d260 rfl rfl ?_
        exact ihL72_792 (aw_wa (aw_wa S794 17 (((x796.toInt * 30 + x798.toInt) * 8 + x797.toInt)).toNat (aj_nar 4 x814)) 18 (((x796.toInt * 30 + x798.toInt) * 8 + x797.toInt)).toNat (aj_nar 0 x820)) lv826 (x796) (x797) (x825) hlv826_0 hlv826_1 hlv826_2 hlv826_3 ⟨(hI824).1, hG823⟩ fr822 (by omega) (by omega) (by omega) (show _ ≤ ((S794.1 30)).toInt by omega) (by omega) (by omega)
theorem ar_takes_L36_771 (hU : aw_U tb s h) (hd : 7 ≤ d + 1)  : ∀ (N : Nat) (S773 : aj_S) (lv774 : aj_V) (x775 : Int32) (x776 : Int32), (aj_lv lv774 0 = some (.ref 117)) → (aj_lv lv774 1 = some (.int x775)) → (aj_lv lv774 2 = some (.int x776)) → (aw_I s h (aw_G g) S773) → (aw_fr [24, 25, 26, 27, 28, 29, 30, 31, 33, 34, 56] [14, 15, 16, 17, 18, 19, 25] S S773) → (20 ≤ x775.toInt ∧ x775.toInt ≤ 48) → (0 ≤ x776.toInt ∧ x776.toInt ≤ 6) → ((S.1 30).toInt + 1 ≤ (S773.1 30).toInt) → (6 - x776.toInt).toNat < N → aw_W tb h d aj_m260 36 lv774 [] S773 ((ar_QT s h g [24, 25, 26, 27, 28, 29, 30, 31, 33, 34, 56] [14, 15, 16, 17, 18, 19, 25] S (fun _ => True))) := by
  have hs : aw_sT s := aw_hy_sT hU.2.2
  intro N36
  induction N36 with
  | zero =>
    intro S773 lv774 x775 x776 hlv774_0 hlv774_1 hlv774_2 hI777 fr778 bx775 bx776 ck36 hm36
    omega
  | succ N36 ihL36_771 =>
    intro S773 lv774 x775 x776 hlv774_0 hlv774_1 hlv774_2 hI777 fr778 bx775 bx776 ck36 hm36
    have hI779 : aw_I s h (aw_sm S773) S773 := ⟨hI777.1, aw_sm_rf⟩
    have b780 : 0 ≤ (S773.1 30).toInt ∧ (S773.1 30).toInt ≤ 1001 := aw_bd_f hs (hI779).1 (by decide) rfl
    refine aw_l0 aj_d260 rfl rfl hlv774_2 ?_
    refine aw_l2 aj_d260 rfl rfl hlv774_0 ?_
    have b781 : 0 ≤ (S773.1 56).toInt ∧ (S773.1 56).toInt ≤ 6 := aw_bd_f hs (hI779).1 (by decide) rfl
    refine aw_g hU.1 aj_d260 rfl rfl (by decide) (v := .int (S773.1 56)) rfl ?_
    refine aw_c (tgt := 157) aj_d260 rfl rfl (fun q782 => ?_) (fun q782 => ?_)
    · have q782 : x776.toInt ≥ (S773.1 56).toInt := aw_t_ge (a := x776.toInt) (b := (S773.1 56).toInt) rfl rfl q782
      refine aw_l2 aj_d260 rfl rfl hlv774_0 ?_
      refine aw_g hU.1 aj_d260 rfl rfl (by decide) (v := .ref 132) rfl ?_
      refine aw_l0 aj_d260 rfl rfl hlv774_1 ?_
      refine aw_l2 aj_d260 rfl rfl hlv774_0 ?_
      refine aw_g hU.1 aj_d260 rfl rfl (by decide) (v := .int (S773.1 56)) rfl ?_
      refine aw_st (k := 15) hU.1 aj_d260 (Or.inl ⟨rfl, rfl⟩) rfl (by decide) (by decide) rfl (a := x775.toInt) rfl (by omega) (by omega) ?_
      have hI783 := aw_I_a (aw_UV hU aw_Gs_sm) (k := 15) (j := (x775.toInt).toNat) (v := aj_nar 0 (S773.1 56)) hI779 (by decide) (by decide) (by decide) rfl (by decide) (by decide) rfl (aw_bp (a := (S773.1 56).toInt) rfl (by omega) (by omega))
      have fr784 := aw_fr_a (k := 15) (j := (x775.toInt).toNat) (v := aj_nar 0 (S773.1 56)) (by decide) fr778
      refine aw_n aj_d260 rfl rfl ?_
      refine aw_e aj_d260 rfl rfl ?_
      exact ⟨(hI783).1, fr784, Or.inr ⟨_, rfl, rfl, (aw_G_sm hI783.2 hI777.2), (show _ + 1 ≤ ((S773.1 30)).toInt by omega), trivial⟩⟩
    · have q782 : x776.toInt < (S773.1 56).toInt := aw_t_ge (a := x776.toInt) (b := (S773.1 56).toInt) rfl rfl q782
      refine aw_l2 aj_d260 rfl rfl hlv774_0 ?_
      refine aw_g hU.1 aj_d260 rfl rfl (by decide) (v := .ref 133) rfl ?_
      refine aw_l0 aj_d260 rfl rfl hlv774_1 ?_
      refine aw_n aj_d260 rfl rfl ?_
      refine aw_mul aj_d260 rfl (a := x775.toInt) (b := (8 : Int)) rfl rfl (by omega) (by omega) (fun x785 ex785 => ?_)
      refine aw_l0 aj_d260 rfl rfl hlv774_2 ?_
      refine aw_add aj_d260 rfl (a := x785.toInt) (b := x776.toInt) rfl rfl (by omega) (by omega) (fun x786 ex786 => ?_)
      refine aw_l2 aj_d260 rfl rfl hlv774_0 ?_
      refine aw_g hU.1 aj_d260 rfl rfl (by decide) (v := .ref 133) rfl ?_
      refine aw_n aj_d260 rfl rfl ?_
      refine aw_l2 aj_d260 rfl rfl hlv774_0 ?_
      refine aw_g hU.1 aj_d260 rfl rfl (by decide) (v := .ref 142) rfl ?_
      refine aw_l0 aj_d260 rfl rfl hlv774_2 ?_
      refine aw_ld (k := 25) hU.1 aj_d260 (Or.inl ⟨rfl, rfl⟩) rfl (by decide) (by decide) rfl (a := x776.toInt) rfl (by omega) (by omega) (fun x787 ex787 => ?_)
      have bx787 : 0 ≤ x787.toInt ∧ x787.toInt ≤ 5 := by
        rw [ex787]
        exact aw_bd_a hs (hI779).1 (k := 25) (by decide) (by decide) rfl (by decide) rfl (by omega)
      have ftx787 : x787.toInt = (S773.2.2.1 25 (x776.toInt).toNat).toInt := congrArg Int32.toInt (ex787.trans (congrFun rfl _))
      refine aw_add aj_d260 rfl (a := (392 : Int)) (b := x787.toInt) rfl rfl (by omega) (by omega) (fun x788 ex788 => ?_)
      refine aw_ldl (k := 16) hU.1 aj_d260 rfl (by decide) (by decide) rfl (a := x788.toInt) rfl (by omega) (by omega) (fun y789 ey789 => ?_)
      refine aw_stl (k := 16) hU.1 aj_d260 rfl (by decide) (by decide) rfl (a := x786.toInt) rfl (by omega) (by omega) ?_
      have hI790 := aw_I_b (aw_UV hU aw_Gs_sm) (k := 16) (j := (x786.toInt).toNat) (v := y789) hI779 (by decide) (by decide) (by decide) rfl rfl
      have fr791 := aw_fr_b (k := 16) (j := (x786.toInt).toNat) (v := y789) (by decide) fr778
      refine aw_n aj_d260 rfl rfl ?_
      refine aw_t0 (j := 3) aj_d260 rfl (by decide) rfl ?_
      obtain ⟨lv792, elv792⟩ : ∃ l, l = aj_set1 lv774 3 (.int (Int32.ofInt 0)) := ⟨_, rfl⟩
      rw [← elv792]
      have hlv792_0 : aj_lv lv792 0 = some (.ref 117) := cw_e1 elv792 hlv774_0 (by decide) (Or.inl (by decide))
      have hlv792_1 : aj_lv lv792 1 = some (.int x775) := cw_e1 elv792 hlv774_1 (by decide) (Or.inl (by decide))
      have hlv792_2 : aj_lv lv792 2 = some (.int x776) := cw_e1 elv792 hlv774_2 (by decide) (Or.inr rfl)
      have hlv792_3 : aj_lv lv792 3 = some (.int (Int32.ofInt 0)) := by rw [elv792]; exact ak_set1_eq _ _ _
      show aw_W _ _ _ _ 72 lv792 [] _ _
      exact (ar_takes_L72_792 hU hd N36 S773 x775 x776 ihL36_771 hm36) _ (aw_wb S773 16 (x786.toInt).toNat y789) lv792 (x775) (x776) ((Int32.ofInt 0)) hlv792_0 hlv792_1 hlv792_2 hlv792_3 ⟨(hI790).1, (aw_G_sm hI790.2 hI777.2)⟩ fr791 (by omega) (by omega) (by first | omega | decide) (show _ ≤ ((S773.1 30)).toInt by omega) (by omega) (Nat.lt_succ_self _)
theorem ar_takes (hU : aw_U tb s h) (hT : ak_Ty ak_TN s (aj_mh h S)) (hG : aw_G g S) (hd : 7 ≤ d) {x : Int32} (hx : 20 ≤ x.toInt ∧ x.toInt ≤ 48) (hk : (S.1 26).toInt = 3) (hm : (S.1 29).toInt ≤ 62) : aw_K tb h d 260 [.ref 117, .int x] S (ar_QT s h g [24, 25, 26, 27, 28, 29, 30, 31, 33, 34, 56] [14, 15, 16, 17, 18, 19, 25] S (fun _ => True)) := by
  obtain ⟨d, rfl⟩ : ∃ e, d = e + 1 := ⟨d - 1, by omega⟩
  have hs : aw_sT s := aw_hy_sT hU.2.2
  refine aw_m aj_m260_at rfl (Nat.le_of_ble_eq_true rfl) ?_
  show aw_W _ _ _ _ 0 [(0, .ref 117), (1, .int x)] [] _ _
  obtain ⟨lv741, elv741⟩ : ∃ l : aj_V, l = [(0, .ref 117), (1, .int x)] := ⟨_, rfl⟩
  rw [← elv741]
  have hlv741_0 : aj_lv lv741 0 = some (.ref 117) := by rw [elv741]; rfl
  have hlv741_1 : aj_lv lv741 1 = some (.int x) := by rw [elv741]; rfl
  have hI742 : aw_I s h (aw_sm S) S := ⟨hT, aw_sm_rf⟩
  have fr743 : aw_fr [24, 25, 26, 27, 28, 29, 30, 31, 33, 34, 56] [14, 15, 16, 17, 18, 19, 25] S S := aw_fr_rf
  refine aw_l2 aj_d260 rfl rfl hlv741_0 ?_
  have b744 : 0 ≤ (S.1 26).toInt ∧ (S.1 26).toInt ≤ 5 := aw_bd_f hs (hI742).1 (by decide) rfl
  have b745 : 0 ≤ (S.1 30).toInt ∧ (S.1 30).toInt ≤ 1001 := aw_bd_f hs (hI742).1 (by decide) rfl
  refine aw_k hU.1 aj_d260 rfl rfl [] rfl rfl rfl (Nat.le_of_ble_eq_true rfl) (ar_pass hU (hI742).1 hG (by omega) (show ((S.1 26)).toInt ≠ 0 by omega) (show ¬ (((S.1 26)).toInt = 3 ∧ ((S.1 29)).toInt = 63) by omega) (show ((S.1 26)).toInt = 4 → ((S.1 29)).toInt = 3 ∨ 6 ≤ ((S.1 29)).toInt by omega)) ?_
  rintro _ S746 ⟨hT746, fc746, ⟨b746, rfl, hb746, hG746, fd746, hz746⟩ | ⟨b746, rfl, hb746, hG746, ck746, fd746, cj746⟩⟩
  · skip
    have fr747 := aw_fr_tr fr743 (aw_fr_sub (F := [24, 25, 31]) (A := []) (by decide) (by decide) fd746)
    have hI748 : aw_I s h (aw_sm S746) S746 := ⟨hT746, aw_sm_rf⟩
    show aw_W _ _ _ _ 4 lv741 [.int b746] _ _
    refine aw_z (tgt := 16) aj_d260 rfl rfl (fun q749 => ?_) (fun q749 => ?_)
    · have q749 : (0 : Int) = (0 : Int) := aw_t_eq (a := (0 : Int)) (b := (0 : Int)) hb746 rfl q749
      refine aw_n aj_d260 rfl rfl ?_
      refine aw_e aj_d260 rfl rfl ?_
      have c750 : (S746.1 30).toInt = (S.1 30).toInt := (congrArg Int32.toInt (fd746.1 30 (by decide)).1).trans rfl
      have b751 : 0 ≤ (S746.1 30).toInt ∧ (S746.1 30).toInt ≤ 1001 := aw_bd_f hs (hI748).1 (by decide) rfl
      exact ⟨(hI748).1, fr747, Or.inl ⟨_, rfl, rfl, hG746, (show _ ≤ ((S746.1 30)).toInt by omega)⟩⟩
    · have q749 : (0 : Int) ≠ (0 : Int) := aw_t_eq (a := (0 : Int)) (b := (0 : Int)) hb746 rfl q749
      exfalso
      omega
  · skip
    have cj746 : (S746.1 30).toInt = ((S.1 30)).toInt + 1 := cj746
    have fr752 := aw_fr_tr fr743 (aw_fr_sub (F := [26, 27, 28, 29, 30]) (A := []) (by decide) (by decide) fd746)
    have hI753 : aw_I s h (aw_sm S746) S746 := ⟨hT746, aw_sm_rf⟩
    show aw_W _ _ _ _ 4 lv741 [.int b746] _ _
    refine aw_z (tgt := 16) aj_d260 rfl rfl (fun q754 => ?_) (fun q754 => ?_)
    · have q754 : (1 : Int) = (0 : Int) := aw_t_eq (a := (1 : Int)) (b := (0 : Int)) hb746 rfl q754
      exfalso
      omega
    · have q754 : (1 : Int) ≠ (0 : Int) := aw_t_eq (a := (1 : Int)) (b := (0 : Int)) hb746 rfl q754
      refine aw_l2 aj_d260 rfl rfl hlv741_0 ?_
      refine aw_l0 aj_d260 rfl rfl hlv741_1 ?_
      refine aw_n aj_d260 rfl rfl ?_
      have b756 : 0 ≤ (S746.1 30).toInt ∧ (S746.1 30).toInt ≤ 1001 := aw_bd_f hs (hI753).1 (by decide) rfl
      refine aw_k hU.1 aj_d260 rfl rfl [_, _] rfl rfl rfl (Nat.le_of_ble_eq_true rfl) (ar_columns hU (hI753).1 hG746 (by omega) (x := x) (y := (Int32.ofInt 0)) (by omega) (by first | omega | decide)) ?_
      rintro _ S755 ⟨hT755, fc755, ⟨b755, rfl, hb755, hG755, ck755⟩ | ⟨b755, rfl, hb755, hG755, ck755, ex755⟩⟩
      · skip
        have ck755 : ((S746.1 30)).toInt ≤ (S755.1 30).toInt := ck755
        have fr757 := aw_fr_tr fr752 (aw_fr_sub (F := [24, 25, 26, 27, 28, 29, 30, 31, 33, 34, 56]) (A := [15, 25]) (by decide) (by decide) fc755)
        have hI758 : aw_I s h (aw_sm S755) S755 := ⟨hT755, aw_sm_rf⟩
        show aw_W _ _ _ _ 13 lv741 [.int b755] _ _
        refine aw_z (tgt := 18) aj_d260 rfl rfl (fun q759 => ?_) (fun q759 => ?_)
        · have q759 : (0 : Int) ≠ (0 : Int) := aw_t_ne (a := (0 : Int)) (b := (0 : Int)) hb755 rfl q759
          exfalso
          omega
        · have q759 : (0 : Int) = (0 : Int) := aw_t_ne (a := (0 : Int)) (b := (0 : Int)) hb755 rfl q759
          refine aw_n aj_d260 rfl rfl ?_
          refine aw_e aj_d260 rfl rfl ?_
          have b760 : 0 ≤ (S755.1 30).toInt ∧ (S755.1 30).toInt ≤ 1001 := aw_bd_f hs (hI758).1 (by decide) rfl
          exact ⟨(hI758).1, fr757, Or.inl ⟨_, rfl, rfl, hG755, (show _ ≤ ((S755.1 30)).toInt by omega)⟩⟩
      · skip
        have ck755 : ((S746.1 30)).toInt + 1 ≤ (S755.1 30).toInt := ck755
        have fr761 := aw_fr_tr fr752 (aw_fr_sub (F := [24, 25, 26, 27, 28, 29, 30, 31, 33, 34, 56]) (A := [15, 25]) (by decide) (by decide) fc755)
        have hI762 : aw_I s h (aw_sm S755) S755 := ⟨hT755, aw_sm_rf⟩
        show aw_W _ _ _ _ 13 lv741 [.int b755] _ _
        refine aw_z (tgt := 18) aj_d260 rfl rfl (fun q763 => ?_) (fun q763 => ?_)
        · have q763 : (1 : Int) ≠ (0 : Int) := aw_t_ne (a := (1 : Int)) (b := (0 : Int)) hb755 rfl q763
          refine aw_l2 aj_d260 rfl rfl hlv741_0 ?_
          refine aw_g hU.1 aj_d260 rfl rfl (by decide) (v := .ref 132) rfl ?_
          refine aw_l0 aj_d260 rfl rfl hlv741_1 ?_
          refine aw_ld (k := 15) hU.1 aj_d260 (Or.inl ⟨rfl, rfl⟩) rfl (by decide) (by decide) rfl (a := x.toInt) rfl (by omega) (by omega) (fun x764 ex764 => ?_)
          have bx764 : (-1) ≤ x764.toInt ∧ x764.toInt ≤ 6 := by
            rw [ex764]
            exact aw_bd_a hs (hI762).1 (k := 15) (by decide) (by decide) rfl (by decide) rfl (by omega)
          refine aw_z (tgt := 167) aj_d260 rfl rfl (fun q765 => ?_) (fun q765 => ?_)
          · have q765 : x764.toInt < (0 : Int) := aw_t_lt (a := x764.toInt) (b := (0 : Int)) rfl rfl q765
            refine aw_n aj_d260 rfl rfl ?_
            refine aw_e aj_d260 rfl rfl ?_
            have b766 : 0 ≤ (S755.1 30).toInt ∧ (S755.1 30).toInt ≤ 1001 := aw_bd_f hs (hI762).1 (by decide) rfl
            exact ⟨(hI762).1, fr761, Or.inr ⟨_, rfl, rfl, hG755, (show _ + 1 ≤ ((S755.1 30)).toInt by omega), trivial⟩⟩
          · have q765 : x764.toInt ≥ (0 : Int) := aw_t_lt (a := x764.toInt) (b := (0 : Int)) rfl rfl q765
            refine aw_l2 aj_d260 rfl rfl hlv741_0 ?_
            refine aw_l0 aj_d260 rfl rfl hlv741_1 ?_
            refine aw_n aj_d260 rfl rfl ?_
            have b767 : 0 ≤ (S755.1 30).toInt ∧ (S755.1 30).toInt ≤ 1001 := aw_bd_f hs (hI762).1 (by decide) rfl
            refine aw_k hU.1 aj_d260 rfl rfl [_, _] rfl rfl rfl (Nat.le_of_ble_eq_true rfl) (aw_toK hU aw_Gs_G (con := ac_c251) (by omega) (ar_251 hU.2.1 (aw_SPc hU.2.2 aw_Gs_G) aw_kpc (arc_252 hU)) ⟨(hI762).1, hG755⟩ ⟨(aw_g117 hU.2.2), (cw_gw (a := x.toInt) rfl (by omega) (by omega)), (cw_gw (a := (49 : Int)) rfl (by omega) (by omega)), trivial⟩ (fun e he => nomatch he)) ?_
            rintro r768 S768 ⟨hr768, hJ768, fc768, po768, -⟩
            have hT768 := hJ768.1
            replace fc768 := aw_fr_sub (F' := []) (A' := [14, 15, 16, 17, 18, 19]) (by decide) (by decide) fc768
            have fr769 := aw_fr_tr fr761 (aw_fr_sub (F := []) (A := [14, 15, 16, 17, 18, 19]) (by decide) (by decide) fc768)
            have hI770 : aw_I s h (aw_sm S768) S768 := ⟨hT768, aw_sm_rf⟩
            obtain rfl := cw_rN hr768
            show aw_W _ _ _ _ 34 lv741 [] _ _
            refine aw_n aj_d260 rfl rfl ?_
            refine aw_t0 (j := 2) aj_d260 rfl (by decide) rfl ?_
            obtain ⟨lv771, elv771⟩ : ∃ l, l = aj_set1 lv741 2 (.int (Int32.ofInt 0)) := ⟨_, rfl⟩
            rw [← elv771]
            have hlv771_0 : aj_lv lv771 0 = some (.ref 117) := cw_e1 elv771 hlv741_0 (by decide) (Or.inl (by decide))
            have hlv771_1 : aj_lv lv771 1 = some (.int x) := cw_e1 elv771 hlv741_1 (by decide) (Or.inr rfl)
            have hlv771_2 : aj_lv lv771 2 = some (.int (Int32.ofInt 0)) := by rw [elv771]; exact ak_set1_eq _ _ _
            show aw_W _ _ _ _ 36 lv771 [] _ _
            have c827 : (S768.1 30).toInt = (S755.1 30).toInt := (congrArg Int32.toInt (fc768.1 30 (by decide)).1).trans rfl
            have b828 : 0 ≤ (S768.1 30).toInt ∧ (S768.1 30).toInt ≤ 1001 := aw_bd_f hs (hI770).1 (by decide) rfl
            exact (ar_takes_L36_771 hU hd ) _ S768 lv771 (x) ((Int32.ofInt 0)) hlv771_0 hlv771_1 hlv771_2 ⟨(hI770).1, hJ768.2⟩ fr769 (by omega) (by first | omega | decide) (show _ ≤ ((S768.1 30)).toInt by omega) (Nat.lt_succ_self _)
        · have q763 : (1 : Int) = (0 : Int) := aw_t_ne (a := (1 : Int)) (b := (0 : Int)) hb755 rfl q763
          exfalso
          omega
theorem arc_260 (hU : aw_U tb s h) : ak_CT ak_TR (aw_SP s h (aw_G g)) aw_kap tb 7 ac_c260 := by
  refine ar_ofB (F := [24, 25, 26, 27, 28, 29, 30, 31, 33, 34, 56]) (A := [14, 15, 16, 17, 18, 19, 25]) hU aw_Gs_G rfl ⟨rfl, rfl, rfl, (by decide), rfl, rfl, rfl⟩ ⟨by decide, by decide⟩ (fun d hd S as hI hA hQ => ?_)
  obtain ⟨v0, as, rfl, g0, hA⟩ := cw_gAc hA
  obtain ⟨v1, as, rfl, g1, hA⟩ := cw_gAc hA
  cases cw_gAn hA
  obtain rfl := aw_117 hU.2.2 g0
  obtain ⟨x1, rfl, b1⟩ := ak_gi g1
  dsimp only [ak_win] at b1
  have q26 := aw_gQ_to hU hQ (e := (26, (3, 3))) (by decide) (by decide)
  have q29 := aw_gQ_to hU hQ (e := (29, (0, 62))) (by decide) (by decide)
  dsimp only at q26 q29
  refine aw_mono ?_ (ar_takes hU hI.1 hI.2 hd b1 (by omega) (by omega))
  rintro r S' ⟨k1, k2, ⟨b, rfl, hb, p1, p2⟩ | ⟨b, rfl, hb, p1, p2, p3⟩⟩
  · exact ⟨k1, k2, Or.inl ⟨b, rfl, hb, p1, p2⟩⟩
  · exact ⟨k1, k2, Or.inr ⟨b, rfl, hb, p1, p2⟩⟩
theorem arc_254 (hU : aw_U tb s h) : ak_CT ak_TR (aw_SP s h (aw_G (nm, fl, la, 0, 0, ht))) aw_kap tb 8 ac_c254 := by
  refine ar_ofB (F := [24, 25, 26, 27, 28, 29, 30, 31, 33, 34, 35, 36, 38, 39, 40, 52, 53, 54]) (A := [15, 19]) hU aw_Gs_G rfl ⟨rfl, rfl, rfl, (by decide), rfl, rfl, rfl⟩ ⟨by decide, by decide⟩ (fun d hd S as hI hA hQ => ?_)
  obtain ⟨v0, as, rfl, g0, hA⟩ := cw_gAc hA
  obtain ⟨v1, as, rfl, g1, hA⟩ := cw_gAc hA
  cases cw_gAn hA
  obtain rfl := aw_117 hU.2.2 g0
  obtain ⟨x1, rfl, b1⟩ := ak_gi g1
  dsimp only [ak_win] at b1
  have q26 := aw_gQ_to hU hQ (e := (26, (3, 3))) (by decide) (by decide)
  have q29 := aw_gQ_to hU hQ (e := (29, (64, 258))) (by decide) (by decide)
  dsimp only at q26 q29
  refine aw_mono ?_ (ar_tests hU hI.1 hI.2 hd b1 ⟨by omega, by omega⟩)
  rintro r S' ⟨k1, k2, ⟨b, rfl, hb, p1, p2⟩ | ⟨b, rfl, hb, p1, p2, p3⟩⟩
  · exact ⟨k1, k2, Or.inl ⟨b, rfl, hb, p1, p2⟩⟩
  · exact ⟨k1, k2, Or.inr ⟨b, rfl, hb, p1, p2⟩⟩
end ARA10
