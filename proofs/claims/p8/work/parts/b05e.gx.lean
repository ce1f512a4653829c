/-! METHODS LIFTED (printed by wip/p7/gx.py, parts.py) -/
def gxT_97_19 (p1 : Nat) (P : Nat → List Int32 → List Int64 → List Nat → fx_X → Unit → fx_X → Prop) (y2 : Int32) (X : fx_X) (v : Unit) (X' : fx_X) : Prop :=
  (if (y2).toInt < ((X.1 82 4)).toInt then ((if ((X.1 82 5)).toInt = 0 then (∃ (w15 : Int32) (X14 : fx_X), gx_57 y2 X w15 X14 ∧ (if (w15).toInt < 210 then ((if (w15).toInt < 200 then (∃ (w20 : Unit) (X19 : fx_X), gx_143 w15 y2 X14 w20 X19 ∧ ∃ x21 : Int32, x21 = y2 + Int32.ofInt 1 ∧ P 19 [x21] [] [] X19 v X') else (∃ (w25 : Int32) (X24 : fx_X), gx_40 y2 X14 w25 X24 ∧ ∃ (w27 : Unit) (X26 : fx_X), gx_140 w15 w25 X24 w27 X26 ∧ ∃ x28 : Int32, x28 = y2 + Int32.ofInt 1 ∧ P 19 [x28] [] [] X26 v X'))) else (∃ (w31 : Unit) (X30 : fx_X), gx_98 w15 y2 X14 w31 X30 ∧ ∃ x32 : Int32, x32 = y2 + Int32.ofInt 1 ∧ P 19 [x32] [] [] X30 v X'))) else (X' = X))) else (X' = X))
def gxE_97 (p1 : Nat) (P : Nat → List Int32 → List Int64 → List Nat → fx_X → Unit → fx_X → Prop) (X : fx_X) (v : Unit) (X' : fx_X) : Prop :=
  ∃ X2 : fx_X, X2 = (fx_wR X 95 7 (some p1)) ∧ ∃ b4 : Nat, X2.2.2.1 95 7 = some b4 ∧ ∃ (w6 : Unit) (X5 : fx_X), gx_3 b4 X2 w6 X5 ∧ ∃ X7 : fx_X, X7 = (fx_wI X5 95 4 (Int32.ofInt 0)) ∧ P 19 [(Int32.ofInt 0)] [] [] X7 v X'
noncomputable def gxF_97 (p1 : Nat) (n : Nat) : Nat → List Int32 → List Int64 → List Nat → fx_X → Unit → fx_X → Prop := Nat.rec (motive := fun _ => Nat → List Int32 → List Int64 → List Nat → fx_X → Unit → fx_X → Prop) (fun _ _ _ _ _ _ _ => False) (fun _ P l is ls rs X v X' => (l = 19 ∧ ∃ (y2 : Int32), is = [y2] ∧ ls = [] ∧ rs = [] ∧ gxT_97_19 p1 P y2 X v X')) n
theorem gxI_97_19 {p1 : Nat} {n : Nat} {y2 : Int32} {X : fx_X} {v : Unit} {X' : fx_X} (h : gxT_97_19 p1 (gxF_97 p1 n) y2 X v X') : gxF_97 p1 (n + 1) 19 [y2] [] [] X v X' := ⟨rfl, y2, rfl, rfl, rfl, h⟩
theorem gxO_97_19 {p1 : Nat} {n : Nat} {y2 : Int32} {X : fx_X} {v : Unit} {X' : fx_X} (h : gxF_97 p1 (n + 1) 19 [y2] [] [] X v X') : gxT_97_19 p1 (gxF_97 p1 n) y2 X v X' := by
  rcases h with ⟨-, _, e1, e2, e3, h⟩
  · cases e1; cases e2; cases e3; exact h
def gx_97 (p1 : Nat) (X : fx_X) (v : Unit) (X' : fx_X) : Prop := ∃ n : Nat, gxE_97 p1 (gxF_97 p1 n) X v X'
theorem gxL_97 {tb : aj_T} (p1 : Nat) : ∀ N : Nat, (∀ (lv : aj_V) (y2 : Int32) (X : fx_X), aj_lv lv 0 = some (.ref 95) → aj_lv lv 2 = some (.int y2) → fx_W tb aj_m97 N 19 lv [] X (fx_Q fx_qN (fun v X' => ∃ n : Nat, gxF_97 p1 n 19 [y2] [] [] X v X'))) := by
  intro N
  induction N with
  | zero => exact (by intros; exact fx_z)
  | succ N ih =>
    skip
    · intro lv y2 X hlv_0 hlv_2
      refine fx_mono (Q := fx_Q fx_qN (fun v X' => ∃ n : Nat, gxT_97_19 p1 (gxF_97 p1 n) y2 X v X')) (fun r X' ⟨v, e, n, z⟩ => ⟨v, e, n + 1, gxI_97_19 z⟩) ?_
      unfold gxT_97_19
      refine fx_i0 aj_d97 rfl (Nat.le_refl _) (fun _ => rfl) hlv_2 ?_
      refine fx_i2 aj_d97 rfl (Nat.le_succ _) (fun _ => rfl) hlv_0 ?_
      refine fx_gF aj_d97 rfl (Nat.le_succ _) rfl rfl fx_in_9_1 (t := 82) rfl (fun hA9 => ?_)
      refine fx_gI aj_d97 rfl (Nat.le_succ _) rfl rfl (Or.inl rfl) ?_
      refine fx_b (tgt := 100) aj_d97 rfl (Nat.le_succ _) rfl (fun q10 => ?_) (fun q10 => ?_)
      · skip
        refine fx_qe (c := (y2).toInt < ((X.1 82 4)).toInt) (fx_t_ge q10) ?_
        show fx_W _ _ _ 100 lv [] _ _
        exact fx_rn aj_d97 rfl ⟨(), rfl, 0, rfl⟩
      · skip
        refine fx_qi (c := (y2).toInt < ((X.1 82 4)).toInt) (fx_f_ge q10) ?_
        show fx_W _ _ _ 30 lv [] _ _
        refine fx_i2 aj_d97 rfl (Nat.le_succ _) (fun _ => rfl) hlv_0 ?_
        refine fx_gF aj_d97 rfl (Nat.le_succ _) rfl rfl fx_in_9_1 (t := 82) rfl (fun hA11 => ?_)
        refine fx_gI aj_d97 rfl (Nat.le_succ _) rfl rfl (Or.inl rfl) ?_
        refine fx_b0 (tgt := 100) aj_d97 rfl (Nat.le_succ _) rfl (fun q12 => ?_) (fun q12 => ?_)
        · skip
          refine fx_qe (c := ((X.1 82 5)).toInt = 0) (fx_t_ne q12) ?_
          show fx_W _ _ _ 100 lv [] _ _
          exact fx_rn aj_d97 rfl ⟨(), rfl, 0, rfl⟩
        · skip
          refine fx_qi (c := ((X.1 82 5)).toInt = 0) (fx_f_ne q12) ?_
          show fx_W _ _ _ 40 lv [] _ _
          refine fx_i2 aj_d97 rfl (Nat.le_succ _) (fun _ => rfl) hlv_0 ?_
          refine fx_gF aj_d97 rfl (Nat.le_succ _) rfl rfl fx_in_9_1 (t := 82) rfl (fun hA13 => ?_)
          refine fx_i0 aj_d97 rfl (Nat.le_succ _) (fun _ => rfl) hlv_2 ?_
          refine fx_cv aj_d97 rfl (Nat.le_succ _) rfl [_] rfl rfl (gx_57_ok y2) ?_
          rintro _ X14 ⟨w15, rfl, hR14⟩ hok14 hle14
          refine fx_qc hR14 ?_
          show fx_W _ _ _ 48 lv [.int w15] _ _
          refine fx_s0 (j := 3) aj_d97 rfl (Nat.le_succ _) (by decide) (fun _ => rfl) ?_
          obtain ⟨lv16, elv16⟩ : ∃ l, l = aj_set1 lv 3 (.int w15) := ⟨_, rfl⟩
          rw [← elv16]
          have hlv16_0 : aj_lv lv16 0 = some (.ref 95) := fx_e1 elv16 hlv_0 (by decide) (Or.inl (by decide))
          have hlv16_2 : aj_lv lv16 2 = some (.int y2) := fx_e1 elv16 hlv_2 (by decide) (Or.inr rfl)
          have hlv16_3 : aj_lv lv16 3 = some (.int w15) := by rw [elv16]; exact ak_set1_eq _ _ _
          show fx_W _ _ _ 49 lv16 [] _ _
          refine fx_i0 aj_d97 rfl (Nat.le_succ _) (fun _ => rfl) hlv16_3 ?_
          refine fx_n (pc' := 53) (lv' := lv16) (st' := [.int ((Int16.ofInt 210).toInt32), .int w15]) aj_d97 rfl (Nat.le_succ _) (fun _ => rfl) ?_
          refine fx_b (tgt := 65) aj_d97 rfl (Nat.le_succ _) rfl (fun q17 => ?_) (fun q17 => ?_)
          · skip
            refine fx_qi (c := (w15).toInt < 210) (fx_t_lt q17) ?_
            show fx_W _ _ _ 65 lv16 [] _ _
            refine fx_i0 aj_d97 rfl (Nat.le_succ _) (fun _ => rfl) hlv16_3 ?_
            refine fx_n (pc' := 69) (lv' := lv16) (st' := [.int ((Int16.ofInt 200).toInt32), .int w15]) aj_d97 rfl (Nat.le_succ _) (fun _ => rfl) ?_
            refine fx_b (tgt := 88) aj_d97 rfl (Nat.le_succ _) rfl (fun q18 => ?_) (fun q18 => ?_)
            · skip
              refine fx_qi (c := (w15).toInt < 200) (fx_t_lt q18) ?_
              show fx_W _ _ _ 88 lv16 [] _ _
              refine fx_i2 aj_d97 rfl (Nat.le_succ _) (fun _ => rfl) hlv16_0 ?_
              refine fx_i0 aj_d97 rfl (Nat.le_succ _) (fun _ => rfl) hlv16_3 ?_
              refine fx_i0 aj_d97 rfl (Nat.le_succ _) (fun _ => rfl) hlv16_2 ?_
              refine fx_cv aj_d97 rfl (Nat.le_succ _) rfl [_, _] rfl rfl (gx_143_ok w15 y2) ?_
              rintro _ X19 ⟨w20, rfl, hR19⟩ hok19 hle19
              refine fx_qc hR19 ?_
              show fx_W _ _ _ 94 lv16 [] _ _
              refine fx_incq aj_d97 rfl (Nat.le_succ _) hlv16_2 (by decide) (fun x21 ex21 => ?_)
              obtain ⟨lv22, elv22⟩ : ∃ l, l = aj_set1 lv16 2 (.int x21) := ⟨_, rfl⟩
              rw [← elv22]
              have hlv22_0 : aj_lv lv22 0 = some (.ref 95) := fx_e1 elv22 hlv16_0 (by decide) (Or.inl (by decide))
              have hlv22_2 : aj_lv lv22 2 = some (.int x21) := by rw [elv22]; exact ak_set1_eq _ _ _
              show fx_W _ _ _ 97 lv22 [] _ _
              refine fx_n (pc' := 19) (lv' := lv22) (st' := []) aj_d97 rfl (Nat.le_succ _) (fun _ => rfl) ?_
              exact (ih) lv22 (x21) X19  hlv22_0 hlv22_2
            · skip
              refine fx_qe (c := (w15).toInt < 200) (fx_f_lt q18) ?_
              show fx_W _ _ _ 72 lv16 [] _ _
              refine fx_i2 aj_d97 rfl (Nat.le_succ _) (fun _ => rfl) hlv16_0 ?_
              refine fx_i0 aj_d97 rfl (Nat.le_succ _) (fun _ => rfl) hlv16_3 ?_
              refine fx_i2 aj_d97 rfl (Nat.le_succ _) (fun _ => rfl) hlv16_0 ?_
              refine fx_gF aj_d97 rfl (Nat.le_succ _) rfl rfl fx_in_9_1 (t := 82) rfl (fun hA23 => ?_)
              refine fx_i0 aj_d97 rfl (Nat.le_succ _) (fun _ => rfl) hlv16_2 ?_
              refine fx_cv aj_d97 rfl (Nat.le_succ _) rfl [_] rfl rfl (gx_40_ok y2) ?_
              rintro _ X24 ⟨w25, rfl, hR24⟩ hok24 hle24
              refine fx_qc hR24 ?_
              show fx_W _ _ _ 82 lv16 [.int w25, .int w15, .ref 95] _ _
              refine fx_cv aj_d97 rfl (Nat.le_succ _) rfl [_, _] rfl rfl (gx_140_ok w15 w25) ?_
              rintro _ X26 ⟨w27, rfl, hR26⟩ hok26 hle26
              refine fx_qc hR26 ?_
              show fx_W _ _ _ 85 lv16 [] _ _
              refine fx_n (pc' := 94) (lv' := lv16) (st' := []) aj_d97 rfl (Nat.le_succ _) (fun _ => rfl) ?_
              refine fx_incq aj_d97 rfl (Nat.le_succ _) hlv16_2 (by decide) (fun x28 ex28 => ?_)
              obtain ⟨lv29, elv29⟩ : ∃ l, l = aj_set1 lv16 2 (.int x28) := ⟨_, rfl⟩
              rw [← elv29]
              have hlv29_0 : aj_lv lv29 0 = some (.ref 95) := fx_e1 elv29 hlv16_0 (by decide) (Or.inl (by decide))
              have hlv29_2 : aj_lv lv29 2 = some (.int x28) := by rw [elv29]; exact ak_set1_eq _ _ _
              show fx_W _ _ _ 97 lv29 [] _ _
              refine fx_n (pc' := 19) (lv' := lv29) (st' := []) aj_d97 rfl (Nat.le_succ _) (fun _ => rfl) ?_
              exact (ih) lv29 (x28) X26  hlv29_0 hlv29_2
          · skip
            refine fx_qe (c := (w15).toInt < 210) (fx_f_lt q17) ?_
            show fx_W _ _ _ 56 lv16 [] _ _
            refine fx_i2 aj_d97 rfl (Nat.le_succ _) (fun _ => rfl) hlv16_0 ?_
            refine fx_i0 aj_d97 rfl (Nat.le_succ _) (fun _ => rfl) hlv16_3 ?_
            refine fx_i0 aj_d97 rfl (Nat.le_succ _) (fun _ => rfl) hlv16_2 ?_
            refine fx_cv aj_d97 rfl (Nat.le_succ _) rfl [_, _] rfl rfl (gx_98_ok w15 y2) ?_
            rintro _ X30 ⟨w31, rfl, hR30⟩ hok30 hle30
            refine fx_qc hR30 ?_
            show fx_W _ _ _ 62 lv16 [] _ _
            refine fx_n (pc' := 94) (lv' := lv16) (st' := []) aj_d97 rfl (Nat.le_succ _) (fun _ => rfl) ?_
            refine fx_incq aj_d97 rfl (Nat.le_succ _) hlv16_2 (by decide) (fun x32 ex32 => ?_)
            obtain ⟨lv33, elv33⟩ : ∃ l, l = aj_set1 lv16 2 (.int x32) := ⟨_, rfl⟩
            rw [← elv33]
            have hlv33_0 : aj_lv lv33 0 = some (.ref 95) := fx_e1 elv33 hlv16_0 (by decide) (Or.inl (by decide))
            have hlv33_2 : aj_lv lv33 2 = some (.int x32) := by rw [elv33]; exact ak_set1_eq _ _ _
            show fx_W _ _ _ 97 lv33 [] _ _
            refine fx_n (pc' := 19) (lv' := lv33) (st' := []) aj_d97 rfl (Nat.le_succ _) (fun _ => rfl) ?_
            exact (ih) lv33 (x32) X30  hlv33_0 hlv33_2
theorem gx_97_ok {tb : aj_T} (p1 : Nat) {X : fx_X} : fx_K tb 97 [.ref 95, .ref p1] X (fx_Q fx_qN (fun v X' => gx_97 p1 X v X')) := by
  refine fx_m aj_m97_at rfl (fun N => ?_)
  refine fx_mono (Q := fx_Q fx_qN (fun v X' => ∃ n : Nat, gxE_97 p1 (gxF_97 p1 n) X v X')) (fun r X' h => h) ?_
  unfold gxE_97
  show fx_W _ _ _ 0 [(0, .ref 95), (1, .ref p1)] [] _ _
  obtain ⟨lv1, elv1⟩ : ∃ l : aj_V, l = [(0, .ref 95), (1, .ref p1)] := ⟨_, rfl⟩
  rw [← elv1]
  have hlv1_0 : aj_lv lv1 0 = some (.ref 95) := by rw [elv1]; rfl
  have hlv1_1 : aj_lv lv1 1 = some (.ref p1) := by rw [elv1]; rfl
  refine fx_i2 aj_d97 rfl (Nat.le_succ _) (fun _ => rfl) hlv1_0 ?_
  refine fx_i2 aj_d97 rfl (Nat.le_succ _) (fun _ => rfl) hlv1_1 ?_
  refine fx_pR aj_d97 rfl (Nat.le_succ _) rfl rfl (Or.inl ⟨_, rfl⟩) fx_no_9_7 (o := (some p1)) rfl (fun _ z => by cases z) ?_
  refine fx_qX (fun X2 eX2 => ?_)
  show fx_W _ _ _ 5 lv1 [] _ _
  refine fx_i2 aj_d97 rfl (Nat.le_succ _) (fun _ => rfl) hlv1_0 ?_
  refine fx_gR aj_d97 rfl (Nat.le_succ _) rfl rfl (Or.inl ⟨_, rfl⟩) (fun q3 _ => ?_) (fun b4 q3 => ?_)
  · skip
    show fx_W _ _ _ 9 lv1 [.null] _ _
    exact fx_d aj_d97 rfl (fun _ => rfl)
  · skip
    refine fx_qs q3 ?_
    show fx_W _ _ _ 9 lv1 [.ref b4] _ _
    refine fx_cv aj_d97 rfl (Nat.le_succ _) rfl [] rfl rfl (gx_3_ok b4) ?_
    rintro _ X5 ⟨w6, rfl, hR5⟩ hok5 hle5
    refine fx_qc hR5 ?_
    show fx_W _ _ _ 12 lv1 [] _ _
    refine fx_i2 aj_d97 rfl (Nat.le_succ _) (fun _ => rfl) hlv1_0 ?_
    refine fx_n (pc' := 14) (lv' := lv1) (st' := [.int (Int32.ofInt 0), .ref 95]) aj_d97 rfl (Nat.le_succ _) (fun _ => rfl) ?_
    refine fx_pI aj_d97 rfl (Nat.le_succ _) rfl rfl (Or.inl rfl) fx_no_9_4 (by decide) ?_
    refine fx_qX (fun X7 eX7 => ?_)
    show fx_W _ _ _ 17 lv1 [] _ _
    refine fx_n (pc' := 18) (lv' := lv1) (st' := [.int (Int32.ofInt 0)]) aj_d97 rfl (Nat.le_succ _) (fun _ => rfl) ?_
    refine fx_s0 (j := 2) aj_d97 rfl (Nat.le_succ _) (by decide) (fun _ => rfl) ?_
    obtain ⟨lv8, elv8⟩ : ∃ l, l = aj_set1 lv1 2 (.int (Int32.ofInt 0)) := ⟨_, rfl⟩
    rw [← elv8]
    have hlv8_0 : aj_lv lv8 0 = some (.ref 95) := fx_e1 elv8 hlv1_0 (by decide) (Or.inl (by decide))
    have hlv8_2 : aj_lv lv8 2 = some (.int (Int32.ofInt 0)) := by rw [elv8]; exact ak_set1_eq _ _ _
    show fx_W _ _ _ 19 lv8 [] _ _
    exact ((gxL_97 p1 N)) lv8 ((Int32.ofInt 0)) X7  hlv8_0 hlv8_2
def gx_19 (X : fx_X) (v : Int32) (X' : fx_X) : Prop :=
  ∃ b3 : Nat, X.2.2.1 52 4 = some b3 ∧ ∃ (w5 : Unit) (X4 : fx_X), gx_2 b3 X w5 X4 ∧ ∃ b7 : Nat, X4.2.2.1 52 4 = some b7 ∧ ∃ (w9 : Unit) (X8 : fx_X), gx_20 ((Int16.ofInt 130).toInt32) b7 X4 w9 X8 ∧ (if ((X8.1 82 5)).toInt = 0 then (∃ b45 : Nat, X8.2.2.1 52 4 = some b45 ∧ ∃ (w47 : Unit) (X46 : fx_X), gx_97 b45 X8 w47 X46 ∧ (if ((X46.1 82 5)).toInt = 0 then (∃ X65 : fx_X, X65 = (fx_wI X46 52 2 (Int32.ofInt (-1))) ∧ (if ((X65.1 82 5)).toInt = 0 then (∃ b70 : Nat, X65.2.2.1 52 3 = some b70 ∧ ∃ b73 : Nat, X65.2.2.1 52 4 = some b73 ∧ ∃ X74 : fx_X, X74 = (fx_wR X65 52 3 (some b73)) ∧ ∃ X75 : fx_X, X75 = (fx_wR X74 52 4 (some b70)) ∧ ∃ (w77 : Unit) (X76 : fx_X), gx_150 X75 w77 X76 ∧ v = (X76.1 82 5) ∧ X' = X76) else (v = (X65.1 82 5) ∧ X' = X65))) else (∃ X51 : fx_X, X51 = (fx_wI X46 52 2 (X46.1 82 6)) ∧ (if ((X51.1 82 5)).toInt = 0 then (∃ b56 : Nat, X51.2.2.1 52 3 = some b56 ∧ ∃ b59 : Nat, X51.2.2.1 52 4 = some b59 ∧ ∃ X60 : fx_X, X60 = (fx_wR X51 52 3 (some b59)) ∧ ∃ X61 : fx_X, X61 = (fx_wR X60 52 4 (some b56)) ∧ ∃ (w63 : Unit) (X62 : fx_X), gx_150 X61 w63 X62 ∧ v = (X62.1 82 5) ∧ X' = X62) else (v = (X51.1 82 5) ∧ X' = X51))))) else ((if ((X8.1 82 5)).toInt = 0 then (∃ X29 : fx_X, X29 = (fx_wI X8 52 2 (Int32.ofInt (-1))) ∧ (if ((X29.1 82 5)).toInt = 0 then (∃ b34 : Nat, X29.2.2.1 52 3 = some b34 ∧ ∃ b37 : Nat, X29.2.2.1 52 4 = some b37 ∧ ∃ X38 : fx_X, X38 = (fx_wR X29 52 3 (some b37)) ∧ ∃ X39 : fx_X, X39 = (fx_wR X38 52 4 (some b34)) ∧ ∃ (w41 : Unit) (X40 : fx_X), gx_150 X39 w41 X40 ∧ v = (X40.1 82 5) ∧ X' = X40) else (v = (X29.1 82 5) ∧ X' = X29))) else (∃ X15 : fx_X, X15 = (fx_wI X8 52 2 (X8.1 82 6)) ∧ (if ((X15.1 82 5)).toInt = 0 then (∃ b20 : Nat, X15.2.2.1 52 3 = some b20 ∧ ∃ b23 : Nat, X15.2.2.1 52 4 = some b23 ∧ ∃ X24 : fx_X, X24 = (fx_wR X15 52 3 (some b23)) ∧ ∃ X25 : fx_X, X25 = (fx_wR X24 52 4 (some b20)) ∧ ∃ (w27 : Unit) (X26 : fx_X), gx_150 X25 w27 X26 ∧ v = (X26.1 82 5) ∧ X' = X26) else (v = (X15.1 82 5) ∧ X' = X15))))))
theorem gx_19_ok {tb : aj_T} {X : fx_X} : fx_K tb 19 [.ref 52] X (fx_Q fx_qI (fun v X' => gx_19 X v X')) := by
  refine fx_m aj_m19_at rfl (fun N => ?_)
  refine fx_mono (Q := fx_Q fx_qI (fun v X' => ∃ n : Nat, gx_19 X v X')) (fun r X' ⟨v, e, _, z⟩ => ⟨v, e, z⟩) ?_
  unfold gx_19
  show fx_W _ _ _ 0 [(0, .ref 52)] [] _ _
  obtain ⟨lv1, elv1⟩ : ∃ l : aj_V, l = [(0, .ref 52)] := ⟨_, rfl⟩
  rw [← elv1]
  have hlv1_0 : aj_lv lv1 0 = some (.ref 52) := by rw [elv1]; rfl
  refine fx_i2 aj_d19 rfl (Nat.le_succ _) (fun _ => rfl) hlv1_0 ?_
  refine fx_gR aj_d19 rfl (Nat.le_succ _) rfl rfl (Or.inl ⟨_, rfl⟩) (fun _ z => absurd (by decide) z) (fun b3 q2 => ?_)
  show fx_W _ _ _ 4 lv1 [.ref b3] _ _
  refine fx_qs q2 ?_
  refine fx_cv aj_d19 rfl (Nat.le_succ _) rfl [] rfl rfl (gx_2_ok b3) ?_
  rintro _ X4 ⟨w5, rfl, hR4⟩ hok4 hle4
  refine fx_qc hR4 ?_
  show fx_W _ _ _ 7 lv1 [] _ _
  refine fx_i2 aj_d19 rfl (Nat.le_succ _) (fun _ => rfl) hlv1_0 ?_
  refine fx_n (pc' := 11) (lv' := lv1) (st' := [.int ((Int16.ofInt 130).toInt32), .ref 52]) aj_d19 rfl (Nat.le_succ _) (fun _ => rfl) ?_
  refine fx_i2 aj_d19 rfl (Nat.le_succ _) (fun _ => rfl) hlv1_0 ?_
  refine fx_gR aj_d19 rfl (Nat.le_succ _) rfl rfl (Or.inl ⟨_, rfl⟩) (fun _ z => absurd (by decide) z) (fun b7 q6 => ?_)
  show fx_W _ _ _ 15 lv1 [.ref b7, .int ((Int16.ofInt 130).toInt32), .ref 52] _ _
  refine fx_qs q6 ?_
  refine fx_cv aj_d19 rfl (Nat.le_succ _) rfl [_, _] rfl rfl (gx_20_ok ((Int16.ofInt 130).toInt32) b7) ?_
  rintro _ X8 ⟨w9, rfl, hR8⟩ hok8 hle8
  refine fx_qc hR8 ?_
  show fx_W _ _ _ 18 lv1 [] _ _
  refine fx_i2 aj_d19 rfl (Nat.le_succ _) (fun _ => rfl) hlv1_0 ?_
  refine fx_gF aj_d19 rfl (Nat.le_succ _) rfl rfl fx_in_10_6 (t := 82) rfl (fun hA10 => ?_)
  refine fx_gI aj_d19 rfl (Nat.le_succ _) rfl rfl (Or.inl rfl) ?_
  refine fx_b0 (tgt := 39) aj_d19 rfl (Nat.le_succ _) rfl (fun q11 => ?_) (fun q11 => ?_)
  · skip
    refine fx_qe (c := ((X8.1 82 5)).toInt = 0) (fx_t_ne q11) ?_
    show fx_W _ _ _ 39 lv1 [] _ _
    refine fx_i2 aj_d19 rfl (Nat.le_succ _) (fun _ => rfl) hlv1_0 ?_
    refine fx_i2 aj_d19 rfl (Nat.le_succ _) (fun _ => rfl) hlv1_0 ?_
    refine fx_gF aj_d19 rfl (Nat.le_succ _) rfl rfl fx_in_10_6 (t := 82) rfl (fun hA12 => ?_)
    refine fx_gI aj_d19 rfl (Nat.le_succ _) rfl rfl (Or.inl rfl) ?_
    refine fx_b0 (tgt := 54) aj_d19 rfl (Nat.le_succ _) rfl (fun q13 => ?_) (fun q13 => ?_)
    · skip
      refine fx_qe (c := ((X8.1 82 5)).toInt = 0) (fx_t_ne q13) ?_
      show fx_W _ _ _ 54 lv1 [.ref 52] _ _
      refine fx_i2 aj_d19 rfl (Nat.le_succ _) (fun _ => rfl) hlv1_0 ?_
      refine fx_gF aj_d19 rfl (Nat.le_succ _) rfl rfl fx_in_10_6 (t := 82) rfl (fun hA14 => ?_)
      refine fx_gI aj_d19 rfl (Nat.le_succ _) rfl rfl (Or.inl rfl) ?_
      refine fx_pI aj_d19 rfl (Nat.le_succ _) rfl rfl (Or.inl rfl) fx_no_10_2 (by decide) ?_
      refine fx_qX (fun X15 eX15 => ?_)
      show fx_W _ _ _ 64 lv1 [] _ _
      refine fx_i2 aj_d19 rfl (Nat.le_succ _) (fun _ => rfl) hlv1_0 ?_
      refine fx_gF aj_d19 rfl (Nat.le_succ _) rfl rfl fx_in_10_6 (t := 82) rfl (fun hA16 => ?_)
      refine fx_gI aj_d19 rfl (Nat.le_succ _) rfl rfl (Or.inl rfl) ?_
      refine fx_b0 (tgt := 96) aj_d19 rfl (Nat.le_succ _) rfl (fun q17 => ?_) (fun q17 => ?_)
      · skip
        refine fx_qe (c := ((X15.1 82 5)).toInt = 0) (fx_t_ne q17) ?_
        show fx_W _ _ _ 96 lv1 [] _ _
        refine fx_i2 aj_d19 rfl (Nat.le_succ _) (fun _ => rfl) hlv1_0 ?_
        refine fx_gF aj_d19 rfl (Nat.le_succ _) rfl rfl fx_in_10_6 (t := 82) rfl (fun hA18 => ?_)
        refine fx_gI aj_d19 rfl (Nat.le_succ _) rfl rfl (Or.inl rfl) ?_
        exact fx_ri aj_d19 rfl ⟨_, rfl, 0, rfl, rfl⟩
      · skip
        refine fx_qi (c := ((X15.1 82 5)).toInt = 0) (fx_f_ne q17) ?_
        show fx_W _ _ _ 74 lv1 [] _ _
        refine fx_i2 aj_d19 rfl (Nat.le_succ _) (fun _ => rfl) hlv1_0 ?_
        refine fx_gR aj_d19 rfl (Nat.le_succ _) rfl rfl (Or.inl ⟨_, rfl⟩) (fun _ z => absurd (by decide) z) (fun b20 q19 => ?_)
        show fx_W _ _ _ 78 lv1 [.ref b20] _ _
        refine fx_qs q19 ?_
        refine fx_s2 (j := 1) aj_d19 rfl (Nat.le_succ _) (by decide) (fun _ => rfl) ?_
        obtain ⟨lv21, elv21⟩ : ∃ l, l = aj_set1 lv1 1 (.ref b20) := ⟨_, rfl⟩
        rw [← elv21]
        have hlv21_0 : aj_lv lv21 0 = some (.ref 52) := fx_e1 elv21 hlv1_0 (by decide) (Or.inr rfl)
        have hlv21_1 : aj_lv lv21 1 = some (.ref b20) := by rw [elv21]; exact ak_set1_eq _ _ _
        show fx_W _ _ _ 79 lv21 [] _ _
        refine fx_i2 aj_d19 rfl (Nat.le_succ _) (fun _ => rfl) hlv21_0 ?_
        refine fx_i2 aj_d19 rfl (Nat.le_succ _) (fun _ => rfl) hlv21_0 ?_
        refine fx_gR aj_d19 rfl (Nat.le_succ _) rfl rfl (Or.inl ⟨_, rfl⟩) (fun _ z => absurd (by decide) z) (fun b23 q22 => ?_)
        show fx_W _ _ _ 84 lv21 [.ref b23, .ref 52] _ _
        refine fx_qs q22 ?_
        refine fx_pR aj_d19 rfl (Nat.le_succ _) rfl rfl (Or.inl ⟨_, rfl⟩) fx_no_10_3 (o := (some b23)) rfl (fun _ z => by cases z) ?_
        refine fx_qX (fun X24 eX24 => ?_)
        show fx_W _ _ _ 87 lv21 [] _ _
        refine fx_i2 aj_d19 rfl (Nat.le_succ _) (fun _ => rfl) hlv21_0 ?_
        refine fx_i2 aj_d19 rfl (Nat.le_succ _) (fun _ => rfl) hlv21_1 ?_
        refine fx_pR aj_d19 rfl (Nat.le_succ _) rfl rfl (Or.inl ⟨_, rfl⟩) fx_no_10_4 (o := (some b20)) rfl (fun _ z => by cases z) ?_
        refine fx_qX (fun X25 eX25 => ?_)
        show fx_W _ _ _ 92 lv21 [] _ _
        refine fx_i2 aj_d19 rfl (Nat.le_succ _) (fun _ => rfl) hlv21_0 ?_
        refine fx_cv aj_d19 rfl (Nat.le_succ _) rfl [] rfl rfl (gx_150_ok) ?_
        rintro _ X26 ⟨w27, rfl, hR26⟩ hok26 hle26
        refine fx_qc hR26 ?_
        show fx_W _ _ _ 96 lv21 [] _ _
        refine fx_i2 aj_d19 rfl (Nat.le_succ _) (fun _ => rfl) hlv21_0 ?_
        refine fx_gF aj_d19 rfl (Nat.le_succ _) rfl rfl fx_in_10_6 (t := 82) rfl (fun hA28 => ?_)
        refine fx_gI aj_d19 rfl (Nat.le_succ _) rfl rfl (Or.inl rfl) ?_
        exact fx_ri aj_d19 rfl ⟨_, rfl, 0, rfl, rfl⟩
    · skip
      refine fx_qi (c := ((X8.1 82 5)).toInt = 0) (fx_f_ne q13) ?_
      show fx_W _ _ _ 50 lv1 [.ref 52] _ _
      refine fx_n (pc' := 51) (lv' := lv1) (st' := [.int (Int32.ofInt (-1)), .ref 52]) aj_d19 rfl (Nat.le_succ _) (fun _ => rfl) ?_
      refine fx_n (pc' := 61) (lv' := lv1) (st' := [.int (Int32.ofInt (-1)), .ref 52]) aj_d19 rfl (Nat.le_succ _) (fun _ => rfl) ?_
      refine fx_pI aj_d19 rfl (Nat.le_succ _) rfl rfl (Or.inl rfl) fx_no_10_2 (by decide) ?_
      refine fx_qX (fun X29 eX29 => ?_)
      show fx_W _ _ _ 64 lv1 [] _ _
      refine fx_i2 aj_d19 rfl (Nat.le_succ _) (fun _ => rfl) hlv1_0 ?_
      refine fx_gF aj_d19 rfl (Nat.le_succ _) rfl rfl fx_in_10_6 (t := 82) rfl (fun hA30 => ?_)
      refine fx_gI aj_d19 rfl (Nat.le_succ _) rfl rfl (Or.inl rfl) ?_
      refine fx_b0 (tgt := 96) aj_d19 rfl (Nat.le_succ _) rfl (fun q31 => ?_) (fun q31 => ?_)
      · skip
        refine fx_qe (c := ((X29.1 82 5)).toInt = 0) (fx_t_ne q31) ?_
        show fx_W _ _ _ 96 lv1 [] _ _
        refine fx_i2 aj_d19 rfl (Nat.le_succ _) (fun _ => rfl) hlv1_0 ?_
        refine fx_gF aj_d19 rfl (Nat.le_succ _) rfl rfl fx_in_10_6 (t := 82) rfl (fun hA32 => ?_)
        refine fx_gI aj_d19 rfl (Nat.le_succ _) rfl rfl (Or.inl rfl) ?_
        exact fx_ri aj_d19 rfl ⟨_, rfl, 0, rfl, rfl⟩
      · skip
        refine fx_qi (c := ((X29.1 82 5)).toInt = 0) (fx_f_ne q31) ?_
        show fx_W _ _ _ 74 lv1 [] _ _
        refine fx_i2 aj_d19 rfl (Nat.le_succ _) (fun _ => rfl) hlv1_0 ?_
        refine fx_gR aj_d19 rfl (Nat.le_succ _) rfl rfl (Or.inl ⟨_, rfl⟩) (fun _ z => absurd (by decide) z) (fun b34 q33 => ?_)
        show fx_W _ _ _ 78 lv1 [.ref b34] _ _
        refine fx_qs q33 ?_
        refine fx_s2 (j := 1) aj_d19 rfl (Nat.le_succ _) (by decide) (fun _ => rfl) ?_
        obtain ⟨lv35, elv35⟩ : ∃ l, l = aj_set1 lv1 1 (.ref b34) := ⟨_, rfl⟩
        rw [← elv35]
        have hlv35_0 : aj_lv lv35 0 = some (.ref 52) := fx_e1 elv35 hlv1_0 (by decide) (Or.inr rfl)
        have hlv35_1 : aj_lv lv35 1 = some (.ref b34) := by rw [elv35]; exact ak_set1_eq _ _ _
        show fx_W _ _ _ 79 lv35 [] _ _
        refine fx_i2 aj_d19 rfl (Nat.le_succ _) (fun _ => rfl) hlv35_0 ?_
        refine fx_i2 aj_d19 rfl (Nat.le_succ _) (fun _ => rfl) hlv35_0 ?_
        refine fx_gR aj_d19 rfl (Nat.le_succ _) rfl rfl (Or.inl ⟨_, rfl⟩) (fun _ z => absurd (by decide) z) (fun b37 q36 => ?_)
        show fx_W _ _ _ 84 lv35 [.ref b37, .ref 52] _ _
        refine fx_qs q36 ?_
        refine fx_pR aj_d19 rfl (Nat.le_succ _) rfl rfl (Or.inl ⟨_, rfl⟩) fx_no_10_3 (o := (some b37)) rfl (fun _ z => by cases z) ?_
        refine fx_qX (fun X38 eX38 => ?_)
        show fx_W _ _ _ 87 lv35 [] _ _
        refine fx_i2 aj_d19 rfl (Nat.le_succ _) (fun _ => rfl) hlv35_0 ?_
        refine fx_i2 aj_d19 rfl (Nat.le_succ _) (fun _ => rfl) hlv35_1 ?_
        refine fx_pR aj_d19 rfl (Nat.le_succ _) rfl rfl (Or.inl ⟨_, rfl⟩) fx_no_10_4 (o := (some b34)) rfl (fun _ z => by cases z) ?_
        refine fx_qX (fun X39 eX39 => ?_)
        show fx_W _ _ _ 92 lv35 [] _ _
        refine fx_i2 aj_d19 rfl (Nat.le_succ _) (fun _ => rfl) hlv35_0 ?_
        refine fx_cv aj_d19 rfl (Nat.le_succ _) rfl [] rfl rfl (gx_150_ok) ?_
        rintro _ X40 ⟨w41, rfl, hR40⟩ hok40 hle40
        refine fx_qc hR40 ?_
        show fx_W _ _ _ 96 lv35 [] _ _
        refine fx_i2 aj_d19 rfl (Nat.le_succ _) (fun _ => rfl) hlv35_0 ?_
        refine fx_gF aj_d19 rfl (Nat.le_succ _) rfl rfl fx_in_10_6 (t := 82) rfl (fun hA42 => ?_)
        refine fx_gI aj_d19 rfl (Nat.le_succ _) rfl rfl (Or.inl rfl) ?_
        exact fx_ri aj_d19 rfl ⟨_, rfl, 0, rfl, rfl⟩
  · skip
    refine fx_qi (c := ((X8.1 82 5)).toInt = 0) (fx_f_ne q11) ?_
    show fx_W _ _ _ 28 lv1 [] _ _
    refine fx_i2 aj_d19 rfl (Nat.le_succ _) (fun _ => rfl) hlv1_0 ?_
    refine fx_gF aj_d19 rfl (Nat.le_succ _) rfl rfl fx_in_10_9 (t := 95) rfl (fun hA43 => ?_)
    refine fx_i2 aj_d19 rfl (Nat.le_succ _) (fun _ => rfl) hlv1_0 ?_
    refine fx_gR aj_d19 rfl (Nat.le_succ _) rfl rfl (Or.inl ⟨_, rfl⟩) (fun _ z => absurd (by decide) z) (fun b45 q44 => ?_)
    show fx_W _ _ _ 36 lv1 [.ref b45, .ref 95] _ _
    refine fx_qs q44 ?_
    refine fx_cv aj_d19 rfl (Nat.le_succ _) rfl [_] rfl rfl (gx_97_ok b45) ?_
    rintro _ X46 ⟨w47, rfl, hR46⟩ hok46 hle46
    refine fx_qc hR46 ?_
    show fx_W _ _ _ 39 lv1 [] _ _
    refine fx_i2 aj_d19 rfl (Nat.le_succ _) (fun _ => rfl) hlv1_0 ?_
    refine fx_i2 aj_d19 rfl (Nat.le_succ _) (fun _ => rfl) hlv1_0 ?_
    refine fx_gF aj_d19 rfl (Nat.le_succ _) rfl rfl fx_in_10_6 (t := 82) rfl (fun hA48 => ?_)
    refine fx_gI aj_d19 rfl (Nat.le_succ _) rfl rfl (Or.inl rfl) ?_
    refine fx_b0 (tgt := 54) aj_d19 rfl (Nat.le_succ _) rfl (fun q49 => ?_) (fun q49 => ?_)
    · skip
      refine fx_qe (c := ((X46.1 82 5)).toInt = 0) (fx_t_ne q49) ?_
      show fx_W _ _ _ 54 lv1 [.ref 52] _ _
      refine fx_i2 aj_d19 rfl (Nat.le_succ _) (fun _ => rfl) hlv1_0 ?_
      refine fx_gF aj_d19 rfl (Nat.le_succ _) rfl rfl fx_in_10_6 (t := 82) rfl (fun hA50 => ?_)
      refine fx_gI aj_d19 rfl (Nat.le_succ _) rfl rfl (Or.inl rfl) ?_
      refine fx_pI aj_d19 rfl (Nat.le_succ _) rfl rfl (Or.inl rfl) fx_no_10_2 (by decide) ?_
      refine fx_qX (fun X51 eX51 => ?_)
      show fx_W _ _ _ 64 lv1 [] _ _
      refine fx_i2 aj_d19 rfl (Nat.le_succ _) (fun _ => rfl) hlv1_0 ?_
      refine fx_gF aj_d19 rfl (Nat.le_succ _) rfl rfl fx_in_10_6 (t := 82) rfl (fun hA52 => ?_)
      refine fx_gI aj_d19 rfl (Nat.le_succ _) rfl rfl (Or.inl rfl) ?_
      refine fx_b0 (tgt := 96) aj_d19 rfl (Nat.le_succ _) rfl (fun q53 => ?_) (fun q53 => ?_)
      · skip
        refine fx_qe (c := ((X51.1 82 5)).toInt = 0) (fx_t_ne q53) ?_
        show fx_W _ _ _ 96 lv1 [] _ _
        refine fx_i2 aj_d19 rfl (Nat.le_succ _) (fun _ => rfl) hlv1_0 ?_
        refine fx_gF aj_d19 rfl (Nat.le_succ _) rfl rfl fx_in_10_6 (t := 82) rfl (fun hA54 => ?_)
        refine fx_gI aj_d19 rfl (Nat.le_succ _) rfl rfl (Or.inl rfl) ?_
        exact fx_ri aj_d19 rfl ⟨_, rfl, 0, rfl, rfl⟩
      · skip
        refine fx_qi (c := ((X51.1 82 5)).toInt = 0) (fx_f_ne q53) ?_
        show fx_W _ _ _ 74 lv1 [] _ _
        refine fx_i2 aj_d19 rfl (Nat.le_succ _) (fun _ => rfl) hlv1_0 ?_
        refine fx_gR aj_d19 rfl (Nat.le_succ _) rfl rfl (Or.inl ⟨_, rfl⟩) (fun _ z => absurd (by decide) z) (fun b56 q55 => ?_)
        show fx_W _ _ _ 78 lv1 [.ref b56] _ _
        refine fx_qs q55 ?_
        refine fx_s2 (j := 1) aj_d19 rfl (Nat.le_succ _) (by decide) (fun _ => rfl) ?_
        obtain ⟨lv57, elv57⟩ : ∃ l, l = aj_set1 lv1 1 (.ref b56) := ⟨_, rfl⟩
        rw [← elv57]
        have hlv57_0 : aj_lv lv57 0 = some (.ref 52) := fx_e1 elv57 hlv1_0 (by decide) (Or.inr rfl)
        have hlv57_1 : aj_lv lv57 1 = some (.ref b56) := by rw [elv57]; exact ak_set1_eq _ _ _
        show fx_W _ _ _ 79 lv57 [] _ _
        refine fx_i2 aj_d19 rfl (Nat.le_succ _) (fun _ => rfl) hlv57_0 ?_
        refine fx_i2 aj_d19 rfl (Nat.le_succ _) (fun _ => rfl) hlv57_0 ?_
        refine fx_gR aj_d19 rfl (Nat.le_succ _) rfl rfl (Or.inl ⟨_, rfl⟩) (fun _ z => absurd (by decide) z) (fun b59 q58 => ?_)
        show fx_W _ _ _ 84 lv57 [.ref b59, .ref 52] _ _
        refine fx_qs q58 ?_
        refine fx_pR aj_d19 rfl (Nat.le_succ _) rfl rfl (Or.inl ⟨_, rfl⟩) fx_no_10_3 (o := (some b59)) rfl (fun _ z => by cases z) ?_
        refine fx_qX (fun X60 eX60 => ?_)
        show fx_W _ _ _ 87 lv57 [] _ _
        refine fx_i2 aj_d19 rfl (Nat.le_succ _) (fun _ => rfl) hlv57_0 ?_
        refine fx_i2 aj_d19 rfl (Nat.le_succ _) (fun _ => rfl) hlv57_1 ?_
        refine fx_pR aj_d19 rfl (Nat.le_succ _) rfl rfl (Or.inl ⟨_, rfl⟩) fx_no_10_4 (o := (some b56)) rfl (fun _ z => by cases z) ?_
        refine fx_qX (fun X61 eX61 => ?_)
        show fx_W _ _ _ 92 lv57 [] _ _
        refine fx_i2 aj_d19 rfl (Nat.le_succ _) (fun _ => rfl) hlv57_0 ?_
        refine fx_cv aj_d19 rfl (Nat.le_succ _) rfl [] rfl rfl (gx_150_ok) ?_
        rintro _ X62 ⟨w63, rfl, hR62⟩ hok62 hle62
        refine fx_qc hR62 ?_
        show fx_W _ _ _ 96 lv57 [] _ _
        refine fx_i2 aj_d19 rfl (Nat.le_succ _) (fun _ => rfl) hlv57_0 ?_
        refine fx_gF aj_d19 rfl (Nat.le_succ _) rfl rfl fx_in_10_6 (t := 82) rfl (fun hA64 => ?_)
        refine fx_gI aj_d19 rfl (Nat.le_succ _) rfl rfl (Or.inl rfl) ?_
        exact fx_ri aj_d19 rfl ⟨_, rfl, 0, rfl, rfl⟩
    · skip
      refine fx_qi (c := ((X46.1 82 5)).toInt = 0) (fx_f_ne q49) ?_
      show fx_W _ _ _ 50 lv1 [.ref 52] _ _
      refine fx_n (pc' := 51) (lv' := lv1) (st' := [.int (Int32.ofInt (-1)), .ref 52]) aj_d19 rfl (Nat.le_succ _) (fun _ => rfl) ?_
      refine fx_n (pc' := 61) (lv' := lv1) (st' := [.int (Int32.ofInt (-1)), .ref 52]) aj_d19 rfl (Nat.le_succ _) (fun _ => rfl) ?_
      refine fx_pI aj_d19 rfl (Nat.le_succ _) rfl rfl (Or.inl rfl) fx_no_10_2 (by decide) ?_
      refine fx_qX (fun X65 eX65 => ?_)
      show fx_W _ _ _ 64 lv1 [] _ _
      refine fx_i2 aj_d19 rfl (Nat.le_succ _) (fun _ => rfl) hlv1_0 ?_
      refine fx_gF aj_d19 rfl (Nat.le_succ _) rfl rfl fx_in_10_6 (t := 82) rfl (fun hA66 => ?_)
      refine fx_gI aj_d19 rfl (Nat.le_succ _) rfl rfl (Or.inl rfl) ?_
      refine fx_b0 (tgt := 96) aj_d19 rfl (Nat.le_succ _) rfl (fun q67 => ?_) (fun q67 => ?_)
      · skip
        refine fx_qe (c := ((X65.1 82 5)).toInt = 0) (fx_t_ne q67) ?_
        show fx_W _ _ _ 96 lv1 [] _ _
        refine fx_i2 aj_d19 rfl (Nat.le_succ _) (fun _ => rfl) hlv1_0 ?_
        refine fx_gF aj_d19 rfl (Nat.le_succ _) rfl rfl fx_in_10_6 (t := 82) rfl (fun hA68 => ?_)
        refine fx_gI aj_d19 rfl (Nat.le_succ _) rfl rfl (Or.inl rfl) ?_
        exact fx_ri aj_d19 rfl ⟨_, rfl, 0, rfl, rfl⟩
      · skip
        refine fx_qi (c := ((X65.1 82 5)).toInt = 0) (fx_f_ne q67) ?_
        show fx_W _ _ _ 74 lv1 [] _ _
        refine fx_i2 aj_d19 rfl (Nat.le_succ _) (fun _ => rfl) hlv1_0 ?_
        refine fx_gR aj_d19 rfl (Nat.le_succ _) rfl rfl (Or.inl ⟨_, rfl⟩) (fun _ z => absurd (by decide) z) (fun b70 q69 => ?_)
        show fx_W _ _ _ 78 lv1 [.ref b70] _ _
        refine fx_qs q69 ?_
        refine fx_s2 (j := 1) aj_d19 rfl (Nat.le_succ _) (by decide) (fun _ => rfl) ?_
        obtain ⟨lv71, elv71⟩ : ∃ l, l = aj_set1 lv1 1 (.ref b70) := ⟨_, rfl⟩
        rw [← elv71]
        have hlv71_0 : aj_lv lv71 0 = some (.ref 52) := fx_e1 elv71 hlv1_0 (by decide) (Or.inr rfl)
        have hlv71_1 : aj_lv lv71 1 = some (.ref b70) := by rw [elv71]; exact ak_set1_eq _ _ _
        show fx_W _ _ _ 79 lv71 [] _ _
        refine fx_i2 aj_d19 rfl (Nat.le_succ _) (fun _ => rfl) hlv71_0 ?_
        refine fx_i2 aj_d19 rfl (Nat.le_succ _) (fun _ => rfl) hlv71_0 ?_
        refine fx_gR aj_d19 rfl (Nat.le_succ _) rfl rfl (Or.inl ⟨_, rfl⟩) (fun _ z => absurd (by decide) z) (fun b73 q72 => ?_)
        show fx_W _ _ _ 84 lv71 [.ref b73, .ref 52] _ _
        refine fx_qs q72 ?_
        refine fx_pR aj_d19 rfl (Nat.le_succ _) rfl rfl (Or.inl ⟨_, rfl⟩) fx_no_10_3 (o := (some b73)) rfl (fun _ z => by cases z) ?_
        refine fx_qX (fun X74 eX74 => ?_)
        show fx_W _ _ _ 87 lv71 [] _ _
        refine fx_i2 aj_d19 rfl (Nat.le_succ _) (fun _ => rfl) hlv71_0 ?_
        refine fx_i2 aj_d19 rfl (Nat.le_succ _) (fun _ => rfl) hlv71_1 ?_
        refine fx_pR aj_d19 rfl (Nat.le_succ _) rfl rfl (Or.inl ⟨_, rfl⟩) fx_no_10_4 (o := (some b70)) rfl (fun _ z => by cases z) ?_
        refine fx_qX (fun X75 eX75 => ?_)
        show fx_W _ _ _ 92 lv71 [] _ _
        refine fx_i2 aj_d19 rfl (Nat.le_succ _) (fun _ => rfl) hlv71_0 ?_
        refine fx_cv aj_d19 rfl (Nat.le_succ _) rfl [] rfl rfl (gx_150_ok) ?_
        rintro _ X76 ⟨w77, rfl, hR76⟩ hok76 hle76
        refine fx_qc hR76 ?_
        show fx_W _ _ _ 96 lv71 [] _ _
        refine fx_i2 aj_d19 rfl (Nat.le_succ _) (fun _ => rfl) hlv71_0 ?_
        refine fx_gF aj_d19 rfl (Nat.le_succ _) rfl rfl fx_in_10_6 (t := 82) rfl (fun hA78 => ?_)
        refine fx_gI aj_d19 rfl (Nat.le_succ _) rfl rfl (Or.inl rfl) ?_
        exact fx_ri aj_d19 rfl ⟨_, rfl, 0, rfl, rfl⟩
def gx_153 (X : fx_X) (v : Int32) (X' : fx_X) : Prop :=
  v = (X.1 52 2) ∧ X' = X
theorem gx_153_ok {tb : aj_T} {X : fx_X} : fx_K tb 153 [.ref 52] X (fx_Q fx_qI (fun v X' => gx_153 X v X')) := by
  refine fx_m aj_m153_at rfl (fun N => ?_)
  refine fx_mono (Q := fx_Q fx_qI (fun v X' => ∃ n : Nat, gx_153 X v X')) (fun r X' ⟨v, e, _, z⟩ => ⟨v, e, z⟩) ?_
  unfold gx_153
  show fx_W _ _ _ 0 [(0, .ref 52)] [] _ _
  obtain ⟨lv1, elv1⟩ : ∃ l : aj_V, l = [(0, .ref 52)] := ⟨_, rfl⟩
  rw [← elv1]
  have hlv1_0 : aj_lv lv1 0 = some (.ref 52) := by rw [elv1]; rfl
  refine fx_i2 aj_d153 rfl (Nat.le_succ _) (fun _ => rfl) hlv1_0 ?_
  refine fx_gI aj_d153 rfl (Nat.le_succ _) rfl rfl (Or.inl rfl) ?_
  exact fx_ri aj_d153 rfl ⟨_, rfl, 0, rfl, rfl⟩
def gxT_156_7 (p1 : Nat) (P : Nat → List Int32 → List Int64 → List Nat → fx_X → Unit → fx_X → Prop) (y2 : Int32) (X : fx_X) (v : Unit) (X' : fx_X) : Prop :=
  (if (y2).toInt < ((X.1 82 4)).toInt then (∃ (w8 : Int32) (X7 : fx_X), gx_57 y2 X w8 X7 ∧ ∃ (w11 : Int32) (X10 : fx_X), gx_40 y2 X7 w11 X10 ∧ ∃ (w13 : Unit) (X12 : fx_X), gx_140 w8 w11 X10 w13 X12 ∧ ∃ x14 : Int32, x14 = y2 + Int32.ofInt 1 ∧ P 7 [x14] [] [] X12 v X') else (X' = X))
def gxE_156 (p1 : Nat) (P : Nat → List Int32 → List Int64 → List Nat → fx_X → Unit → fx_X → Prop) (X : fx_X) (v : Unit) (X' : fx_X) : Prop :=
  ∃ X2 : fx_X, X2 = (fx_wR X 95 7 (some p1)) ∧ P 7 [(Int32.ofInt 0)] [] [] X2 v X'
noncomputable def gxF_156 (p1 : Nat) (n : Nat) : Nat → List Int32 → List Int64 → List Nat → fx_X → Unit → fx_X → Prop := Nat.rec (motive := fun _ => Nat → List Int32 → List Int64 → List Nat → fx_X → Unit → fx_X → Prop) (fun _ _ _ _ _ _ _ => False) (fun _ P l is ls rs X v X' => (l = 7 ∧ ∃ (y2 : Int32), is = [y2] ∧ ls = [] ∧ rs = [] ∧ gxT_156_7 p1 P y2 X v X')) n
theorem gxI_156_7 {p1 : Nat} {n : Nat} {y2 : Int32} {X : fx_X} {v : Unit} {X' : fx_X} (h : gxT_156_7 p1 (gxF_156 p1 n) y2 X v X') : gxF_156 p1 (n + 1) 7 [y2] [] [] X v X' := ⟨rfl, y2, rfl, rfl, rfl, h⟩
theorem gxO_156_7 {p1 : Nat} {n : Nat} {y2 : Int32} {X : fx_X} {v : Unit} {X' : fx_X} (h : gxF_156 p1 (n + 1) 7 [y2] [] [] X v X') : gxT_156_7 p1 (gxF_156 p1 n) y2 X v X' := by
  rcases h with ⟨-, _, e1, e2, e3, h⟩
  · cases e1; cases e2; cases e3; exact h
def gx_156 (p1 : Nat) (X : fx_X) (v : Unit) (X' : fx_X) : Prop := ∃ n : Nat, gxE_156 p1 (gxF_156 p1 n) X v X'
theorem gxL_156 {tb : aj_T} (p1 : Nat) : ∀ N : Nat, (∀ (lv : aj_V) (y2 : Int32) (X : fx_X), aj_lv lv 0 = some (.ref 95) → aj_lv lv 2 = some (.int y2) → fx_W tb aj_m156 N 7 lv [] X (fx_Q fx_qN (fun v X' => ∃ n : Nat, gxF_156 p1 n 7 [y2] [] [] X v X'))) := by
  intro N
  induction N with
  | zero => exact (by intros; exact fx_z)
  | succ N ih =>
    skip
    · intro lv y2 X hlv_0 hlv_2
      refine fx_mono (Q := fx_Q fx_qN (fun v X' => ∃ n : Nat, gxT_156_7 p1 (gxF_156 p1 n) y2 X v X')) (fun r X' ⟨v, e, n, z⟩ => ⟨v, e, n + 1, gxI_156_7 z⟩) ?_
      unfold gxT_156_7
      refine fx_i0 aj_d156 rfl (Nat.le_refl _) (fun _ => rfl) hlv_2 ?_
      refine fx_i2 aj_d156 rfl (Nat.le_succ _) (fun _ => rfl) hlv_0 ?_
      refine fx_gF aj_d156 rfl (Nat.le_succ _) rfl rfl fx_in_9_1 (t := 82) rfl (fun hA4 => ?_)
      refine fx_gI aj_d156 rfl (Nat.le_succ _) rfl rfl (Or.inl rfl) ?_
      refine fx_b (tgt := 44) aj_d156 rfl (Nat.le_succ _) rfl (fun q5 => ?_) (fun q5 => ?_)
      · skip
        refine fx_qe (c := (y2).toInt < ((X.1 82 4)).toInt) (fx_t_ge q5) ?_
        show fx_W _ _ _ 44 lv [] _ _
        exact fx_rn aj_d156 rfl ⟨(), rfl, 0, rfl⟩
      · skip
        refine fx_qi (c := (y2).toInt < ((X.1 82 4)).toInt) (fx_f_ge q5) ?_
        show fx_W _ _ _ 18 lv [] _ _
        refine fx_i2 aj_d156 rfl (Nat.le_succ _) (fun _ => rfl) hlv_0 ?_
        refine fx_i2 aj_d156 rfl (Nat.le_succ _) (fun _ => rfl) hlv_0 ?_
        refine fx_gF aj_d156 rfl (Nat.le_succ _) rfl rfl fx_in_9_1 (t := 82) rfl (fun hA6 => ?_)
        refine fx_i0 aj_d156 rfl (Nat.le_succ _) (fun _ => rfl) hlv_2 ?_
        refine fx_cv aj_d156 rfl (Nat.le_succ _) rfl [_] rfl rfl (gx_57_ok y2) ?_
        rintro _ X7 ⟨w8, rfl, hR7⟩ hok7 hle7
        refine fx_qc hR7 ?_
        show fx_W _ _ _ 27 lv [.int w8, .ref 95] _ _
        refine fx_i2 aj_d156 rfl (Nat.le_succ _) (fun _ => rfl) hlv_0 ?_
        refine fx_gF aj_d156 rfl (Nat.le_succ _) rfl rfl fx_in_9_1 (t := 82) rfl (fun hA9 => ?_)
        refine fx_i0 aj_d156 rfl (Nat.le_succ _) (fun _ => rfl) hlv_2 ?_
        refine fx_cv aj_d156 rfl (Nat.le_succ _) rfl [_] rfl rfl (gx_40_ok y2) ?_
        rintro _ X10 ⟨w11, rfl, hR10⟩ hok10 hle10
        refine fx_qc hR10 ?_
        show fx_W _ _ _ 35 lv [.int w11, .int w8, .ref 95] _ _
        refine fx_cv aj_d156 rfl (Nat.le_succ _) rfl [_, _] rfl rfl (gx_140_ok w8 w11) ?_
        rintro _ X12 ⟨w13, rfl, hR12⟩ hok12 hle12
        refine fx_qc hR12 ?_
        show fx_W _ _ _ 38 lv [] _ _
        refine fx_incq aj_d156 rfl (Nat.le_succ _) hlv_2 (by decide) (fun x14 ex14 => ?_)
        obtain ⟨lv15, elv15⟩ : ∃ l, l = aj_set1 lv 2 (.int x14) := ⟨_, rfl⟩
        rw [← elv15]
        have hlv15_0 : aj_lv lv15 0 = some (.ref 95) := fx_e1 elv15 hlv_0 (by decide) (Or.inl (by decide))
        have hlv15_2 : aj_lv lv15 2 = some (.int x14) := by rw [elv15]; exact ak_set1_eq _ _ _
        show fx_W _ _ _ 41 lv15 [] _ _
        refine fx_n (pc' := 7) (lv' := lv15) (st' := []) aj_d156 rfl (Nat.le_succ _) (fun _ => rfl) ?_
        exact (ih) lv15 (x14) X12  hlv15_0 hlv15_2
theorem gx_156_ok {tb : aj_T} (p1 : Nat) {X : fx_X} : fx_K tb 156 [.ref 95, .ref p1] X (fx_Q fx_qN (fun v X' => gx_156 p1 X v X')) := by
  refine fx_m aj_m156_at rfl (fun N => ?_)
  refine fx_mono (Q := fx_Q fx_qN (fun v X' => ∃ n : Nat, gxE_156 p1 (gxF_156 p1 n) X v X')) (fun r X' h => h) ?_
  unfold gxE_156
  show fx_W _ _ _ 0 [(0, .ref 95), (1, .ref p1)] [] _ _
  obtain ⟨lv1, elv1⟩ : ∃ l : aj_V, l = [(0, .ref 95), (1, .ref p1)] := ⟨_, rfl⟩
  rw [← elv1]
  have hlv1_0 : aj_lv lv1 0 = some (.ref 95) := by rw [elv1]; rfl
  have hlv1_1 : aj_lv lv1 1 = some (.ref p1) := by rw [elv1]; rfl
  refine fx_i2 aj_d156 rfl (Nat.le_succ _) (fun _ => rfl) hlv1_0 ?_
  refine fx_i2 aj_d156 rfl (Nat.le_succ _) (fun _ => rfl) hlv1_1 ?_
  refine fx_pR aj_d156 rfl (Nat.le_succ _) rfl rfl (Or.inl ⟨_, rfl⟩) fx_no_9_7 (o := (some p1)) rfl (fun _ z => by cases z) ?_
  refine fx_qX (fun X2 eX2 => ?_)
  show fx_W _ _ _ 5 lv1 [] _ _
  refine fx_n (pc' := 6) (lv' := lv1) (st' := [.int (Int32.ofInt 0)]) aj_d156 rfl (Nat.le_succ _) (fun _ => rfl) ?_
  refine fx_s0 (j := 2) aj_d156 rfl (Nat.le_succ _) (by decide) (fun _ => rfl) ?_
  obtain ⟨lv3, elv3⟩ : ∃ l, l = aj_set1 lv1 2 (.int (Int32.ofInt 0)) := ⟨_, rfl⟩
  rw [← elv3]
  have hlv3_0 : aj_lv lv3 0 = some (.ref 95) := fx_e1 elv3 hlv1_0 (by decide) (Or.inl (by decide))
  have hlv3_2 : aj_lv lv3 2 = some (.int (Int32.ofInt 0)) := by rw [elv3]; exact ak_set1_eq _ _ _
  show fx_W _ _ _ 7 lv3 [] _ _
  exact ((gxL_156 p1 N)) lv3 ((Int32.ofInt 0)) X2  hlv3_0 hlv3_2
def gx_155 (X : fx_X) (v : Int32) (X' : fx_X) : Prop :=
  (if ((X.1 82 5)).toInt = 0 then (∃ X13 : fx_X, X13 = (fx_wI X 52 2 (Int32.ofInt (-1))) ∧ (if ((X13.1 82 5)).toInt = 0 then (∃ b18 : Nat, X13.2.2.1 52 3 = some b18 ∧ ∃ (w20 : Unit) (X19 : fx_X), gx_156 b18 X13 w20 X19 ∧ v = (Int32.ofInt 1) ∧ X' = X19) else (v = (Int32.ofInt 0) ∧ X' = X13))) else (∃ X5 : fx_X, X5 = (fx_wI X 52 2 (X.1 82 6)) ∧ (if ((X5.1 82 5)).toInt = 0 then (∃ b10 : Nat, X5.2.2.1 52 3 = some b10 ∧ ∃ (w12 : Unit) (X11 : fx_X), gx_156 b10 X5 w12 X11 ∧ v = (Int32.ofInt 1) ∧ X' = X11) else (v = (Int32.ofInt 0) ∧ X' = X5))))
theorem gx_155_ok {tb : aj_T} {X : fx_X} : fx_K tb 155 [.ref 52] X (fx_Q fx_qI (fun v X' => gx_155 X v X')) := by
  refine fx_m aj_m155_at rfl (fun N => ?_)
  refine fx_mono (Q := fx_Q fx_qI (fun v X' => ∃ n : Nat, gx_155 X v X')) (fun r X' ⟨v, e, _, z⟩ => ⟨v, e, z⟩) ?_
  unfold gx_155
  show fx_W _ _ _ 0 [(0, .ref 52)] [] _ _
  obtain ⟨lv1, elv1⟩ : ∃ l : aj_V, l = [(0, .ref 52)] := ⟨_, rfl⟩
  rw [← elv1]
  have hlv1_0 : aj_lv lv1 0 = some (.ref 52) := by rw [elv1]; rfl
  refine fx_i2 aj_d155 rfl (Nat.le_succ _) (fun _ => rfl) hlv1_0 ?_
  refine fx_i2 aj_d155 rfl (Nat.le_succ _) (fun _ => rfl) hlv1_0 ?_
  refine fx_gF aj_d155 rfl (Nat.le_succ _) rfl rfl fx_in_10_6 (t := 82) rfl (fun hA2 => ?_)
  refine fx_gI aj_d155 rfl (Nat.le_succ _) rfl rfl (Or.inl rfl) ?_
  refine fx_b0 (tgt := 15) aj_d155 rfl (Nat.le_succ _) rfl (fun q3 => ?_) (fun q3 => ?_)
  · skip
    refine fx_qe (c := ((X.1 82 5)).toInt = 0) (fx_t_ne q3) ?_
    show fx_W _ _ _ 15 lv1 [.ref 52] _ _
    refine fx_i2 aj_d155 rfl (Nat.le_succ _) (fun _ => rfl) hlv1_0 ?_
    refine fx_gF aj_d155 rfl (Nat.le_succ _) rfl rfl fx_in_10_6 (t := 82) rfl (fun hA4 => ?_)
    refine fx_gI aj_d155 rfl (Nat.le_succ _) rfl rfl (Or.inl rfl) ?_
    refine fx_pI aj_d155 rfl (Nat.le_succ _) rfl rfl (Or.inl rfl) fx_no_10_2 (by decide) ?_
    refine fx_qX (fun X5 eX5 => ?_)
    show fx_W _ _ _ 25 lv1 [] _ _
    refine fx_i2 aj_d155 rfl (Nat.le_succ _) (fun _ => rfl) hlv1_0 ?_
    refine fx_gF aj_d155 rfl (Nat.le_succ _) rfl rfl fx_in_10_6 (t := 82) rfl (fun hA6 => ?_)
    refine fx_gI aj_d155 rfl (Nat.le_succ _) rfl rfl (Or.inl rfl) ?_
    refine fx_b0 (tgt := 37) aj_d155 rfl (Nat.le_succ _) rfl (fun q7 => ?_) (fun q7 => ?_)
    · skip
      refine fx_qi (c := ((X5.1 82 5)).toInt = 0) (fx_t_eq q7) ?_
      show fx_W _ _ _ 37 lv1 [] _ _
      refine fx_i2 aj_d155 rfl (Nat.le_succ _) (fun _ => rfl) hlv1_0 ?_
      refine fx_gF aj_d155 rfl (Nat.le_succ _) rfl rfl fx_in_10_9 (t := 95) rfl (fun hA8 => ?_)
      refine fx_i2 aj_d155 rfl (Nat.le_succ _) (fun _ => rfl) hlv1_0 ?_
      refine fx_gR aj_d155 rfl (Nat.le_succ _) rfl rfl (Or.inl ⟨_, rfl⟩) (fun _ z => absurd (by decide) z) (fun b10 q9 => ?_)
      show fx_W _ _ _ 45 lv1 [.ref b10, .ref 95] _ _
      refine fx_qs q9 ?_
      refine fx_cv aj_d155 rfl (Nat.le_succ _) rfl [_] rfl rfl (gx_156_ok b10) ?_
      rintro _ X11 ⟨w12, rfl, hR11⟩ hok11 hle11
      refine fx_qc hR11 ?_
      show fx_W _ _ _ 48 lv1 [] _ _
      refine fx_n (pc' := 49) (lv' := lv1) (st' := [.int (Int32.ofInt 1)]) aj_d155 rfl (Nat.le_succ _) (fun _ => rfl) ?_
      exact fx_ri aj_d155 rfl ⟨_, rfl, 0, rfl, rfl⟩
    · skip
      refine fx_qe (c := ((X5.1 82 5)).toInt = 0) (fx_f_eq q7) ?_
      show fx_W _ _ _ 35 lv1 [] _ _
      refine fx_n (pc' := 36) (lv' := lv1) (st' := [.int (Int32.ofInt 0)]) aj_d155 rfl (Nat.le_succ _) (fun _ => rfl) ?_
      exact fx_ri aj_d155 rfl ⟨_, rfl, 0, rfl, rfl⟩
  · skip
    refine fx_qi (c := ((X.1 82 5)).toInt = 0) (fx_f_ne q3) ?_
    show fx_W _ _ _ 11 lv1 [.ref 52] _ _
    refine fx_n (pc' := 12) (lv' := lv1) (st' := [.int (Int32.ofInt (-1)), .ref 52]) aj_d155 rfl (Nat.le_succ _) (fun _ => rfl) ?_
    refine fx_n (pc' := 22) (lv' := lv1) (st' := [.int (Int32.ofInt (-1)), .ref 52]) aj_d155 rfl (Nat.le_succ _) (fun _ => rfl) ?_
    refine fx_pI aj_d155 rfl (Nat.le_succ _) rfl rfl (Or.inl rfl) fx_no_10_2 (by decide) ?_
    refine fx_qX (fun X13 eX13 => ?_)
    show fx_W _ _ _ 25 lv1 [] _ _
    refine fx_i2 aj_d155 rfl (Nat.le_succ _) (fun _ => rfl) hlv1_0 ?_
    refine fx_gF aj_d155 rfl (Nat.le_succ _) rfl rfl fx_in_10_6 (t := 82) rfl (fun hA14 => ?_)
    refine fx_gI aj_d155 rfl (Nat.le_succ _) rfl rfl (Or.inl rfl) ?_
    refine fx_b0 (tgt := 37) aj_d155 rfl (Nat.le_succ _) rfl (fun q15 => ?_) (fun q15 => ?_)
    · skip
      refine fx_qi (c := ((X13.1 82 5)).toInt = 0) (fx_t_eq q15) ?_
      show fx_W _ _ _ 37 lv1 [] _ _
      refine fx_i2 aj_d155 rfl (Nat.le_succ _) (fun _ => rfl) hlv1_0 ?_
      refine fx_gF aj_d155 rfl (Nat.le_succ _) rfl rfl fx_in_10_9 (t := 95) rfl (fun hA16 => ?_)
      refine fx_i2 aj_d155 rfl (Nat.le_succ _) (fun _ => rfl) hlv1_0 ?_
      refine fx_gR aj_d155 rfl (Nat.le_succ _) rfl rfl (Or.inl ⟨_, rfl⟩) (fun _ z => absurd (by decide) z) (fun b18 q17 => ?_)
      show fx_W _ _ _ 45 lv1 [.ref b18, .ref 95] _ _
      refine fx_qs q17 ?_
      refine fx_cv aj_d155 rfl (Nat.le_succ _) rfl [_] rfl rfl (gx_156_ok b18) ?_
      rintro _ X19 ⟨w20, rfl, hR19⟩ hok19 hle19
      refine fx_qc hR19 ?_
      show fx_W _ _ _ 48 lv1 [] _ _
      refine fx_n (pc' := 49) (lv' := lv1) (st' := [.int (Int32.ofInt 1)]) aj_d155 rfl (Nat.le_succ _) (fun _ => rfl) ?_
      exact fx_ri aj_d155 rfl ⟨_, rfl, 0, rfl, rfl⟩
    · skip
      refine fx_qe (c := ((X13.1 82 5)).toInt = 0) (fx_f_eq q15) ?_
      show fx_W _ _ _ 35 lv1 [] _ _
      refine fx_n (pc' := 36) (lv' := lv1) (st' := [.int (Int32.ofInt 0)]) aj_d155 rfl (Nat.le_succ _) (fun _ => rfl) ?_
      exact fx_ri aj_d155 rfl ⟨_, rfl, 0, rfl, rfl⟩
def gx_158 (p0 : Nat) (p1 : Int32) (X : fx_X) (v : Int32) (X' : fx_X) : Prop :=
  (if (p1).toInt < 0 then (v = (Int32.ofInt (-1)) ∧ X' = X) else ((if (p1).toInt < ((X.1 p0 14)).toInt then ((if (p1).toInt < 1024 then ((0 ≤ (p1).toInt ∧ (p1).toInt < ((1024 : Nat) : Int)) ∧ v = (X.1 (p0 + 6) (p1).toInt.toNat) ∧ X' = X) else (v = (Int32.ofInt (-1)) ∧ X' = X))) else (v = (Int32.ofInt (-1)) ∧ X' = X))))
theorem gx_158_ok {tb : aj_T} (p0 : Nat) (p1 : Int32) {X : fx_X} : fx_K tb 158 [.ref p0, .int p1] X (fx_Q fx_qI (fun v X' => gx_158 p0 p1 X v X')) := by
  refine fx_m aj_m158_at rfl (fun N => ?_)
  refine fx_mono (Q := fx_Q fx_qI (fun v X' => ∃ n : Nat, gx_158 p0 p1 X v X')) (fun r X' ⟨v, e, _, z⟩ => ⟨v, e, z⟩) ?_
  unfold gx_158
  show fx_W _ _ _ 0 [(0, .ref p0), (1, .int p1)] [] _ _
  obtain ⟨lv1, elv1⟩ : ∃ l : aj_V, l = [(0, .ref p0), (1, .int p1)] := ⟨_, rfl⟩
  rw [← elv1]
  have hlv1_0 : aj_lv lv1 0 = some (.ref p0) := by rw [elv1]; rfl
  have hlv1_1 : aj_lv lv1 1 = some (.int p1) := by rw [elv1]; rfl
  refine fx_i0 aj_d158 rfl (Nat.le_succ _) (fun _ => rfl) hlv1_1 ?_
  refine fx_b0 (tgt := 30) aj_d158 rfl (Nat.le_succ _) rfl (fun q2 => ?_) (fun q2 => ?_)
  · skip
    refine fx_qi (c := (p1).toInt < 0) (fx_t_lt q2) ?_
    show fx_W _ _ _ 30 lv1 [] _ _
    refine fx_n (pc' := 31) (lv' := lv1) (st' := [.int (Int32.ofInt (-1))]) aj_d158 rfl (Nat.le_succ _) (fun _ => rfl) ?_
    exact fx_ri aj_d158 rfl ⟨_, rfl, 0, rfl, rfl⟩
  · skip
    refine fx_qe (c := (p1).toInt < 0) (fx_f_lt q2) ?_
    show fx_W _ _ _ 4 lv1 [] _ _
    refine fx_i0 aj_d158 rfl (Nat.le_succ _) (fun _ => rfl) hlv1_1 ?_
    refine fx_i2 aj_d158 rfl (Nat.le_succ _) (fun _ => rfl) hlv1_0 ?_
    refine fx_gI aj_d158 rfl (Nat.le_succ _) rfl rfl (Or.inl rfl) ?_
    refine fx_b (tgt := 30) aj_d158 rfl (Nat.le_succ _) rfl (fun q3 => ?_) (fun q3 => ?_)
    · skip
      refine fx_qe (c := (p1).toInt < ((X.1 p0 14)).toInt) (fx_t_ge q3) ?_
      show fx_W _ _ _ 30 lv1 [] _ _
      refine fx_n (pc' := 31) (lv' := lv1) (st' := [.int (Int32.ofInt (-1))]) aj_d158 rfl (Nat.le_succ _) (fun _ => rfl) ?_
      exact fx_ri aj_d158 rfl ⟨_, rfl, 0, rfl, rfl⟩
    · skip
      refine fx_qi (c := (p1).toInt < ((X.1 p0 14)).toInt) (fx_f_ge q3) ?_
      show fx_W _ _ _ 12 lv1 [] _ _
      refine fx_i0 aj_d158 rfl (Nat.le_succ _) (fun _ => rfl) hlv1_1 ?_
      refine fx_i2 aj_d158 rfl (Nat.le_succ _) (fun _ => rfl) hlv1_0 ?_
      refine fx_gF aj_d158 rfl (Nat.le_succ _) rfl rfl fx_in_7_5 (t := (p0 + 6)) rfl (fun hA4 => ?_)
      refine fx_al aj_d158 rfl (Nat.le_succ _) ?_
      rw [(hA4 : X.2.2.2.1 (p0 + 6) = (0, 1024))]
      show fx_W _ _ _ 18 lv1 [.int (Int32.ofNat 1024), .int p1] _ _
      refine fx_b (tgt := 30) aj_d158 rfl (Nat.le_succ _) rfl (fun q5 => ?_) (fun q5 => ?_)
      · skip
        refine fx_qe (c := (p1).toInt < 1024) (fx_t_ge q5) ?_
        show fx_W _ _ _ 30 lv1 [] _ _
        refine fx_n (pc' := 31) (lv' := lv1) (st' := [.int (Int32.ofInt (-1))]) aj_d158 rfl (Nat.le_succ _) (fun _ => rfl) ?_
        exact fx_ri aj_d158 rfl ⟨_, rfl, 0, rfl, rfl⟩
      · skip
        refine fx_qi (c := (p1).toInt < 1024) (fx_f_ge q5) ?_
        show fx_W _ _ _ 21 lv1 [] _ _
        refine fx_i2 aj_d158 rfl (Nat.le_succ _) (fun _ => rfl) hlv1_0 ?_
        refine fx_gF aj_d158 rfl (Nat.le_succ _) rfl rfl fx_in_7_5 (t := (p0 + 6)) rfl (fun hA6 => ?_)
        refine fx_i0 aj_d158 rfl (Nat.le_succ _) (fun _ => rfl) hlv1_1 ?_
        refine fx_ld aj_d158 (Or.inl rfl) rfl (Nat.le_succ _) (fun g70 g71 => ?_)
        show fx_W _ _ _ 27 lv1 [.int (X.1 (p0 + 6) (p1).toInt.toNat)] _ _
        refine fx_qa (c := 0 ≤ (p1).toInt ∧ (p1).toInt < ((1024 : Nat) : Int)) ⟨g70, fx_lnk g71 hA6⟩ ?_
        refine fx_n (pc' := 31) (lv' := lv1) (st' := [.int (X.1 (p0 + 6) (p1).toInt.toNat)]) aj_d158 rfl (Nat.le_succ _) (fun _ => rfl) ?_
        exact fx_ri aj_d158 rfl ⟨_, rfl, 0, rfl, rfl⟩
def gxT_157_4 (p0 : Nat) (P : Nat → List Int32 → List Int64 → List Nat → fx_X → Int32 → fx_X → Prop) (y2 : Int32) (y3 : Int32) (X : fx_X) (v : Int32) (X' : fx_X) : Prop :=
  (if (y3).toInt < ((X.1 p0 14)).toInt then (∃ (w6 : Int32) (X5 : fx_X), gx_158 p0 y3 X w6 X5 ∧ ∃ (w8 : Int32) (X7 : fx_X), gx_147 w6 X5 w8 X7 ∧ (if (w8).toInt = 0 then (∃ x10 : Int32, x10 = y3 + Int32.ofInt 1 ∧ P 4 [y2, x10] [] [] X7 v X') else (∃ x12 : Int32, x12 = y2 + Int32.ofInt 1 ∧ ∃ x14 : Int32, x14 = y3 + Int32.ofInt 1 ∧ P 4 [x12, x14] [] [] X7 v X'))) else (v = y2 ∧ X' = X))
def gxE_157 (p0 : Nat) (P : Nat → List Int32 → List Int64 → List Nat → fx_X → Int32 → fx_X → Prop) (X : fx_X) (v : Int32) (X' : fx_X) : Prop :=
  P 4 [(Int32.ofInt 0), (Int32.ofInt 0)] [] [] X v X'
noncomputable def gxF_157 (p0 : Nat) (n : Nat) : Nat → List Int32 → List Int64 → List Nat → fx_X → Int32 → fx_X → Prop := Nat.rec (motive := fun _ => Nat → List Int32 → List Int64 → List Nat → fx_X → Int32 → fx_X → Prop) (fun _ _ _ _ _ _ _ => False) (fun _ P l is ls rs X v X' => (l = 4 ∧ ∃ (y2 : Int32) (y3 : Int32), is = [y2, y3] ∧ ls = [] ∧ rs = [] ∧ gxT_157_4 p0 P y2 y3 X v X')) n
theorem gxI_157_4 {p0 : Nat} {n : Nat} {y2 : Int32} {y3 : Int32} {X : fx_X} {v : Int32} {X' : fx_X} (h : gxT_157_4 p0 (gxF_157 p0 n) y2 y3 X v X') : gxF_157 p0 (n + 1) 4 [y2, y3] [] [] X v X' := ⟨rfl, y2, y3, rfl, rfl, rfl, h⟩
theorem gxO_157_4 {p0 : Nat} {n : Nat} {y2 : Int32} {y3 : Int32} {X : fx_X} {v : Int32} {X' : fx_X} (h : gxF_157 p0 (n + 1) 4 [y2, y3] [] [] X v X') : gxT_157_4 p0 (gxF_157 p0 n) y2 y3 X v X' := by
  rcases h with ⟨-, _, _, e1, e2, e3, h⟩
  · cases e1; cases e2; cases e3; exact h
def gx_157 (p0 : Nat) (X : fx_X) (v : Int32) (X' : fx_X) : Prop := ∃ n : Nat, gxE_157 p0 (gxF_157 p0 n) X v X'
theorem gxL_157 {tb : aj_T} (p0 : Nat) : ∀ N : Nat, (∀ (lv : aj_V) (y2 : Int32) (y3 : Int32) (X : fx_X), aj_lv lv 0 = some (.ref p0) → aj_lv lv 1 = some (.ref 95) → aj_lv lv 2 = some (.int y2) → aj_lv lv 3 = some (.int y3) → fx_W tb aj_m157 N 4 lv [] X (fx_Q fx_qI (fun v X' => ∃ n : Nat, gxF_157 p0 n 4 [y2, y3] [] [] X v X'))) := by
  intro N
  induction N with
  | zero => exact (by intros; exact fx_z)
  | succ N ih =>
    skip
    · intro lv y2 y3 X hlv_0 hlv_1 hlv_2 hlv_3
      refine fx_mono (Q := fx_Q fx_qI (fun v X' => ∃ n : Nat, gxT_157_4 p0 (gxF_157 p0 n) y2 y3 X v X')) (fun r X' ⟨v, e, n, z⟩ => ⟨v, e, n + 1, gxI_157_4 z⟩) ?_
      unfold gxT_157_4
      refine fx_i0 aj_d157 rfl (Nat.le_refl _) (fun _ => rfl) hlv_3 ?_
      refine fx_i2 aj_d157 rfl (Nat.le_succ _) (fun _ => rfl) hlv_0 ?_
      refine fx_gI aj_d157 rfl (Nat.le_succ _) rfl rfl (Or.inl rfl) ?_
      refine fx_b (tgt := 33) aj_d157 rfl (Nat.le_succ _) rfl (fun q4 => ?_) (fun q4 => ?_)
      · skip
        refine fx_qe (c := (y3).toInt < ((X.1 p0 14)).toInt) (fx_t_ge q4) ?_
        show fx_W _ _ _ 33 lv [] _ _
        refine fx_i0 aj_d157 rfl (Nat.le_succ _) (fun _ => rfl) hlv_2 ?_
        exact fx_ri aj_d157 rfl ⟨_, rfl, 0, rfl, rfl⟩
      · skip
        refine fx_qi (c := (y3).toInt < ((X.1 p0 14)).toInt) (fx_f_ge q4) ?_
        show fx_W _ _ _ 12 lv [] _ _
        refine fx_i2 aj_d157 rfl (Nat.le_succ _) (fun _ => rfl) hlv_1 ?_
        refine fx_i2 aj_d157 rfl (Nat.le_succ _) (fun _ => rfl) hlv_0 ?_
        refine fx_i0 aj_d157 rfl (Nat.le_succ _) (fun _ => rfl) hlv_3 ?_
        refine fx_cv aj_d157 rfl (Nat.le_succ _) rfl [_] rfl rfl (gx_158_ok p0 y3) ?_
        rintro _ X5 ⟨w6, rfl, hR5⟩ hok5 hle5
        refine fx_qc hR5 ?_
        show fx_W _ _ _ 18 lv [.int w6, .ref 95] _ _
        refine fx_cv aj_d157 rfl (Nat.le_succ _) rfl [_] rfl rfl (gx_147_ok w6) ?_
        rintro _ X7 ⟨w8, rfl, hR7⟩ hok7 hle7
        refine fx_qc hR7 ?_
        show fx_W _ _ _ 21 lv [.int w8] _ _
        refine fx_b0 (tgt := 27) aj_d157 rfl (Nat.le_succ _) rfl (fun q9 => ?_) (fun q9 => ?_)
        · skip
          refine fx_qi (c := (w8).toInt = 0) (fx_t_eq q9) ?_
          show fx_W _ _ _ 27 lv [] _ _
          refine fx_incq aj_d157 rfl (Nat.le_succ _) hlv_3 (by decide) (fun x10 ex10 => ?_)
          obtain ⟨lv11, elv11⟩ : ∃ l, l = aj_set1 lv 3 (.int x10) := ⟨_, rfl⟩
          rw [← elv11]
          have hlv11_0 : aj_lv lv11 0 = some (.ref p0) := fx_e1 elv11 hlv_0 (by decide) (Or.inl (by decide))
          have hlv11_1 : aj_lv lv11 1 = some (.ref 95) := fx_e1 elv11 hlv_1 (by decide) (Or.inl (by decide))
          have hlv11_2 : aj_lv lv11 2 = some (.int y2) := fx_e1 elv11 hlv_2 (by decide) (Or.inr rfl)
          have hlv11_3 : aj_lv lv11 3 = some (.int x10) := by rw [elv11]; exact ak_set1_eq _ _ _
          show fx_W _ _ _ 30 lv11 [] _ _
          refine fx_n (pc' := 4) (lv' := lv11) (st' := []) aj_d157 rfl (Nat.le_succ _) (fun _ => rfl) ?_
          exact (ih) lv11 (y2) (x10) X7  hlv11_0 hlv11_1 hlv11_2 hlv11_3
        · skip
          refine fx_qe (c := (w8).toInt = 0) (fx_f_eq q9) ?_
          show fx_W _ _ _ 24 lv [] _ _
          refine fx_incq aj_d157 rfl (Nat.le_succ _) hlv_2 (by decide) (fun x12 ex12 => ?_)
          obtain ⟨lv13, elv13⟩ : ∃ l, l = aj_set1 lv 2 (.int x12) := ⟨_, rfl⟩
          rw [← elv13]
          have hlv13_0 : aj_lv lv13 0 = some (.ref p0) := fx_e1 elv13 hlv_0 (by decide) (Or.inl (by decide))
          have hlv13_1 : aj_lv lv13 1 = some (.ref 95) := fx_e1 elv13 hlv_1 (by decide) (Or.inr rfl)
          have hlv13_3 : aj_lv lv13 3 = some (.int y3) := fx_e1 elv13 hlv_3 (by decide) (Or.inl (by decide))
          have hlv13_2 : aj_lv lv13 2 = some (.int x12) := by rw [elv13]; exact ak_set1_eq _ _ _
          show fx_W _ _ _ 27 lv13 [] _ _
          refine fx_incq aj_d157 rfl (Nat.le_succ _) hlv13_3 (by decide) (fun x14 ex14 => ?_)
          obtain ⟨lv15, elv15⟩ : ∃ l, l = aj_set1 lv13 3 (.int x14) := ⟨_, rfl⟩
          rw [← elv15]
          have hlv15_0 : aj_lv lv15 0 = some (.ref p0) := fx_e1 elv15 hlv13_0 (by decide) (Or.inl (by decide))
          have hlv15_1 : aj_lv lv15 1 = some (.ref 95) := fx_e1 elv15 hlv13_1 (by decide) (Or.inl (by decide))
          have hlv15_2 : aj_lv lv15 2 = some (.int x12) := fx_e1 elv15 hlv13_2 (by decide) (Or.inr rfl)
          have hlv15_3 : aj_lv lv15 3 = some (.int x14) := by rw [elv15]; exact ak_set1_eq _ _ _
          show fx_W _ _ _ 30 lv15 [] _ _
          refine fx_n (pc' := 4) (lv' := lv15) (st' := []) aj_d157 rfl (Nat.le_succ _) (fun _ => rfl) ?_
          exact (ih) lv15 (x12) (x14) X7  hlv15_0 hlv15_1 hlv15_2 hlv15_3
theorem gx_157_ok {tb : aj_T} (p0 : Nat) {X : fx_X} : fx_K tb 157 [.ref p0, .ref 95] X (fx_Q fx_qI (fun v X' => gx_157 p0 X v X')) := by
  refine fx_m aj_m157_at rfl (fun N => ?_)
  refine fx_mono (Q := fx_Q fx_qI (fun v X' => ∃ n : Nat, gxE_157 p0 (gxF_157 p0 n) X v X')) (fun r X' h => h) ?_
  unfold gxE_157
  show fx_W _ _ _ 0 [(0, .ref p0), (1, .ref 95)] [] _ _
  obtain ⟨lv1, elv1⟩ : ∃ l : aj_V, l = [(0, .ref p0), (1, .ref 95)] := ⟨_, rfl⟩
  rw [← elv1]
  have hlv1_0 : aj_lv lv1 0 = some (.ref p0) := by rw [elv1]; rfl
  have hlv1_1 : aj_lv lv1 1 = some (.ref 95) := by rw [elv1]; rfl
  refine fx_n (pc' := 1) (lv' := lv1) (st' := [.int (Int32.ofInt 0)]) aj_d157 rfl (Nat.le_succ _) (fun _ => rfl) ?_
  refine fx_s0 (j := 2) aj_d157 rfl (Nat.le_succ _) (by decide) (fun _ => rfl) ?_
  obtain ⟨lv2, elv2⟩ : ∃ l, l = aj_set1 lv1 2 (.int (Int32.ofInt 0)) := ⟨_, rfl⟩
  rw [← elv2]
  have hlv2_0 : aj_lv lv2 0 = some (.ref p0) := fx_e1 elv2 hlv1_0 (by decide) (Or.inl (by decide))
  have hlv2_1 : aj_lv lv2 1 = some (.ref 95) := fx_e1 elv2 hlv1_1 (by decide) (Or.inr rfl)
  have hlv2_2 : aj_lv lv2 2 = some (.int (Int32.ofInt 0)) := by rw [elv2]; exact ak_set1_eq _ _ _
  show fx_W _ _ _ 2 lv2 [] _ _
  refine fx_n (pc' := 3) (lv' := lv2) (st' := [.int (Int32.ofInt 0)]) aj_d157 rfl (Nat.le_succ _) (fun _ => rfl) ?_
  refine fx_s0 (j := 3) aj_d157 rfl (Nat.le_succ _) (by decide) (fun _ => rfl) ?_
  obtain ⟨lv3, elv3⟩ : ∃ l, l = aj_set1 lv2 3 (.int (Int32.ofInt 0)) := ⟨_, rfl⟩
  rw [← elv3]
  have hlv3_0 : aj_lv lv3 0 = some (.ref p0) := fx_e1 elv3 hlv2_0 (by decide) (Or.inl (by decide))
  have hlv3_1 : aj_lv lv3 1 = some (.ref 95) := fx_e1 elv3 hlv2_1 (by decide) (Or.inl (by decide))
  have hlv3_2 : aj_lv lv3 2 = some (.int (Int32.ofInt 0)) := fx_e1 elv3 hlv2_2 (by decide) (Or.inr rfl)
  have hlv3_3 : aj_lv lv3 3 = some (.int (Int32.ofInt 0)) := by rw [elv3]; exact ak_set1_eq _ _ _
  show fx_W _ _ _ 4 lv3 [] _ _
  exact ((gxL_157 p0 N)) lv3 ((Int32.ofInt 0)) ((Int32.ofInt 0)) X  hlv3_0 hlv3_1 hlv3_2 hlv3_3
def gx_154 (X : fx_X) (v : Int32) (X' : fx_X) : Prop :=
  ∃ b3 : Nat, X.2.2.1 52 3 = some b3 ∧ ∃ (w5 : Unit) (X4 : fx_X), gx_20 ((Int16.ofInt 138).toInt32) b3 X w5 X4 ∧ ∃ (w7 : Int32) (X6 : fx_X), gx_155 X4 w7 X6 ∧ (if (w7).toInt = 0 then (v = (Int32.ofInt (-1)) ∧ X' = X6) else (∃ b10 : Nat, X6.2.2.1 52 3 = some b10 ∧ ∃ (w13 : Int32) (X12 : fx_X), gx_157 b10 X6 w13 X12 ∧ (if (w13).toInt = 0 then (v = ((Int8.ofInt (-2)).toInt32) ∧ X' = X12) else (∃ b16 : Nat, X12.2.2.1 52 3 = some b16 ∧ (if ((X12.1 b16 16)).toInt < 8 then (∃ b19 : Nat, X12.2.2.1 52 3 = some b19 ∧ ∃ (w22 : Unit) (X21 : fx_X), gx_148 b19 X12 w22 X21 ∧ ∃ b24 : Nat, X21.2.2.1 52 3 = some b24 ∧ ∃ X25 : fx_X, X25 = (fx_wI X21 b24 16 ((X21.1 b24 16) + (Int32.ofInt 1))) ∧ ∃ (w27 : Unit) (X26 : fx_X), gx_150 X25 w27 X26 ∧ ∃ b29 : Nat, X26.2.2.1 52 3 = some b29 ∧ v = (X26.1 b29 14) ∧ X' = X26) else (v = ((Int8.ofInt (-3)).toInt32) ∧ X' = X12))))))
theorem gx_154_ok {tb : aj_T} {X : fx_X} : fx_K tb 154 [.ref 52] X (fx_Q fx_qI (fun v X' => gx_154 X v X')) := by
  refine fx_m aj_m154_at rfl (fun N => ?_)
  refine fx_mono (Q := fx_Q fx_qI (fun v X' => ∃ n : Nat, gx_154 X v X')) (fun r X' ⟨v, e, _, z⟩ => ⟨v, e, z⟩) ?_
  unfold gx_154
  show fx_W _ _ _ 0 [(0, .ref 52)] [] _ _
  obtain ⟨lv1, elv1⟩ : ∃ l : aj_V, l = [(0, .ref 52)] := ⟨_, rfl⟩
  rw [← elv1]
  have hlv1_0 : aj_lv lv1 0 = some (.ref 52) := by rw [elv1]; rfl
  refine fx_i2 aj_d154 rfl (Nat.le_succ _) (fun _ => rfl) hlv1_0 ?_
  refine fx_n (pc' := 4) (lv' := lv1) (st' := [.int ((Int16.ofInt 138).toInt32), .ref 52]) aj_d154 rfl (Nat.le_succ _) (fun _ => rfl) ?_
  refine fx_i2 aj_d154 rfl (Nat.le_succ _) (fun _ => rfl) hlv1_0 ?_
  refine fx_gR aj_d154 rfl (Nat.le_succ _) rfl rfl (Or.inl ⟨_, rfl⟩) (fun _ z => absurd (by decide) z) (fun b3 q2 => ?_)
  show fx_W _ _ _ 8 lv1 [.ref b3, .int ((Int16.ofInt 138).toInt32), .ref 52] _ _
  refine fx_qs q2 ?_
  refine fx_cv aj_d154 rfl (Nat.le_succ _) rfl [_, _] rfl rfl (gx_20_ok ((Int16.ofInt 138).toInt32) b3) ?_
  rintro _ X4 ⟨w5, rfl, hR4⟩ hok4 hle4
  refine fx_qc hR4 ?_
  show fx_W _ _ _ 11 lv1 [] _ _
  refine fx_i2 aj_d154 rfl (Nat.le_succ _) (fun _ => rfl) hlv1_0 ?_
  refine fx_cv aj_d154 rfl (Nat.le_succ _) rfl [] rfl rfl (gx_155_ok) ?_
  rintro _ X6 ⟨w7, rfl, hR6⟩ hok6 hle6
  refine fx_qc hR6 ?_
  show fx_W _ _ _ 15 lv1 [.int w7] _ _
  refine fx_b0 (tgt := 20) aj_d154 rfl (Nat.le_succ _) rfl (fun q8 => ?_) (fun q8 => ?_)
  · skip
    refine fx_qe (c := (w7).toInt = 0) (fx_t_ne q8) ?_
    show fx_W _ _ _ 20 lv1 [] _ _
    refine fx_i2 aj_d154 rfl (Nat.le_succ _) (fun _ => rfl) hlv1_0 ?_
    refine fx_gR aj_d154 rfl (Nat.le_succ _) rfl rfl (Or.inl ⟨_, rfl⟩) (fun _ z => absurd (by decide) z) (fun b10 q9 => ?_)
    show fx_W _ _ _ 24 lv1 [.ref b10] _ _
    refine fx_qs q9 ?_
    refine fx_i2 aj_d154 rfl (Nat.le_succ _) (fun _ => rfl) hlv1_0 ?_
    refine fx_gF aj_d154 rfl (Nat.le_succ _) rfl rfl fx_in_10_9 (t := 95) rfl (fun hA11 => ?_)
    refine fx_cv aj_d154 rfl (Nat.le_succ _) rfl [_] rfl rfl (gx_157_ok b10) ?_
    rintro _ X12 ⟨w13, rfl, hR12⟩ hok12 hle12
    refine fx_qc hR12 ?_
    show fx_W _ _ _ 31 lv1 [.int w13] _ _
    refine fx_b0 (tgt := 37) aj_d154 rfl (Nat.le_succ _) rfl (fun q14 => ?_) (fun q14 => ?_)
    · skip
      refine fx_qe (c := (w13).toInt = 0) (fx_t_ne q14) ?_
      show fx_W _ _ _ 37 lv1 [] _ _
      refine fx_i2 aj_d154 rfl (Nat.le_succ _) (fun _ => rfl) hlv1_0 ?_
      refine fx_gR aj_d154 rfl (Nat.le_succ _) rfl rfl (Or.inl ⟨_, rfl⟩) (fun _ z => absurd (by decide) z) (fun b16 q15 => ?_)
      show fx_W _ _ _ 41 lv1 [.ref b16] _ _
      refine fx_qs q15 ?_
      refine fx_gI aj_d154 rfl (Nat.le_succ _) rfl rfl (Or.inl rfl) ?_
      refine fx_n (pc' := 46) (lv' := lv1) (st' := [.int ((Int8.ofInt 8).toInt32), .int (X12.1 b16 16)]) aj_d154 rfl (Nat.le_succ _) (fun _ => rfl) ?_
      refine fx_b (tgt := 52) aj_d154 rfl (Nat.le_succ _) rfl (fun q17 => ?_) (fun q17 => ?_)
      · skip
        refine fx_qi (c := ((X12.1 b16 16)).toInt < 8) (fx_t_lt q17) ?_
        show fx_W _ _ _ 52 lv1 [] _ _
        refine fx_i2 aj_d154 rfl (Nat.le_succ _) (fun _ => rfl) hlv1_0 ?_
        refine fx_gR aj_d154 rfl (Nat.le_succ _) rfl rfl (Or.inl ⟨_, rfl⟩) (fun _ z => absurd (by decide) z) (fun b19 q18 => ?_)
        show fx_W _ _ _ 56 lv1 [.ref b19] _ _
        refine fx_qs q18 ?_
        refine fx_i2 aj_d154 rfl (Nat.le_succ _) (fun _ => rfl) hlv1_0 ?_
        refine fx_gF aj_d154 rfl (Nat.le_succ _) rfl rfl fx_in_10_9 (t := 95) rfl (fun hA20 => ?_)
        refine fx_cv aj_d154 rfl (Nat.le_succ _) rfl [_] rfl rfl (gx_148_ok b19) ?_
        rintro _ X21 ⟨w22, rfl, hR21⟩ hok21 hle21
        refine fx_qc hR21 ?_
        show fx_W _ _ _ 63 lv1 [] _ _
        refine fx_i2 aj_d154 rfl (Nat.le_succ _) (fun _ => rfl) hlv1_0 ?_
        refine fx_gR aj_d154 rfl (Nat.le_succ _) rfl rfl (Or.inl ⟨_, rfl⟩) (fun _ z => absurd (by decide) z) (fun b24 q23 => ?_)
        show fx_W _ _ _ 67 lv1 [.ref b24] _ _
        refine fx_qs q23 ?_
        refine fx_n (pc' := 68) (lv' := lv1) (st' := [.ref b24, .ref b24]) aj_d154 rfl (Nat.le_succ _) (fun _ => rfl) ?_
        refine fx_gI aj_d154 rfl (Nat.le_succ _) rfl rfl (Or.inl rfl) ?_
        refine fx_n (pc' := 72) (lv' := lv1) (st' := [.int (Int32.ofInt 1), .int (X21.1 b24 16), .ref b24]) aj_d154 rfl (Nat.le_succ _) (fun _ => rfl) ?_
        refine fx_n (pc' := 73) (lv' := lv1) (st' := [.int ((X21.1 b24 16) + (Int32.ofInt 1)), .ref b24]) aj_d154 rfl (Nat.le_succ _) (fun _ => rfl) ?_
        refine fx_pI aj_d154 rfl (Nat.le_succ _) rfl rfl (Or.inl rfl) fx_no_7_16 (by decide) ?_
        refine fx_qX (fun X25 eX25 => ?_)
        show fx_W _ _ _ 76 lv1 [] _ _
        refine fx_i2 aj_d154 rfl (Nat.le_succ _) (fun _ => rfl) hlv1_0 ?_
        refine fx_cv aj_d154 rfl (Nat.le_succ _) rfl [] rfl rfl (gx_150_ok) ?_
        rintro _ X26 ⟨w27, rfl, hR26⟩ hok26 hle26
        refine fx_qc hR26 ?_
        show fx_W _ _ _ 80 lv1 [] _ _
        refine fx_i2 aj_d154 rfl (Nat.le_succ _) (fun _ => rfl) hlv1_0 ?_
        refine fx_gR aj_d154 rfl (Nat.le_succ _) rfl rfl (Or.inl ⟨_, rfl⟩) (fun _ z => absurd (by decide) z) (fun b29 q28 => ?_)
        show fx_W _ _ _ 84 lv1 [.ref b29] _ _
        refine fx_qs q28 ?_
        refine fx_gI aj_d154 rfl (Nat.le_succ _) rfl rfl (Or.inl rfl) ?_
        exact fx_ri aj_d154 rfl ⟨_, rfl, 0, rfl, rfl⟩
      · skip
        refine fx_qe (c := ((X12.1 b16 16)).toInt < 8) (fx_f_lt q17) ?_
        show fx_W _ _ _ 49 lv1 [] _ _
        refine fx_n (pc' := 51) (lv' := lv1) (st' := [.int ((Int8.ofInt (-3)).toInt32)]) aj_d154 rfl (Nat.le_succ _) (fun _ => rfl) ?_
        exact fx_ri aj_d154 rfl ⟨_, rfl, 0, rfl, rfl⟩
    · skip
      refine fx_qi (c := (w13).toInt = 0) (fx_f_ne q14) ?_
      show fx_W _ _ _ 34 lv1 [] _ _
      refine fx_n (pc' := 36) (lv' := lv1) (st' := [.int ((Int8.ofInt (-2)).toInt32)]) aj_d154 rfl (Nat.le_succ _) (fun _ => rfl) ?_
      exact fx_ri aj_d154 rfl ⟨_, rfl, 0, rfl, rfl⟩
  · skip
    refine fx_qi (c := (w7).toInt = 0) (fx_f_ne q8) ?_
    show fx_W _ _ _ 18 lv1 [] _ _
    refine fx_n (pc' := 19) (lv' := lv1) (st' := [.int (Int32.ofInt (-1))]) aj_d154 rfl (Nat.le_succ _) (fun _ => rfl) ?_
    exact fx_ri aj_d154 rfl ⟨_, rfl, 0, rfl, rfl⟩
def gxT_160_20 (p0 : Nat) (P : Nat → List Int32 → List Int64 → List Nat → fx_X → Unit → fx_X → Prop) (y1 : Int32) (X : fx_X) (v : Unit) (X' : fx_X) : Prop :=
  (if (y1).toInt < ((X.1 p0 13)).toInt then ((if (y1).toInt < 1024 then ((0 ≤ (y1).toInt ∧ (y1).toInt < ((1024 : Nat) : Int)) ∧ (0 ≤ (y1).toInt ∧ (y1).toInt < ((1024 : Nat) : Int)) ∧ ∃ X15 : fx_X, X15 = (fx_wI X (p0 + 5) (y1).toInt.toNat ((X.1 (p0 + 5) (y1).toInt.toNat) &&& (((Int32.ofInt 1) <<< ((X.1 p0 15) &&& 31)) ^^^ (Int32.ofInt (-1))))) ∧ ∃ x16 : Int32, x16 = y1 + Int32.ofInt 1 ∧ P 20 [x16] [] [] X15 v X') else (∃ (w11 : Unit) (X10 : fx_X), gx_6 p0 X w11 X10 ∧ X' = X10))) else (∃ (w7 : Unit) (X6 : fx_X), gx_6 p0 X w7 X6 ∧ X' = X6))
def gxE_160 (p0 : Nat) (P : Nat → List Int32 → List Int64 → List Nat → fx_X → Unit → fx_X → Prop) (X : fx_X) (v : Unit) (X' : fx_X) : Prop :=
  (if 0 < ((X.1 p0 15)).toInt then (∃ X3 : fx_X, X3 = (fx_wI X p0 15 ((X.1 p0 15) - (Int32.ofInt 1))) ∧ P 20 [(Int32.ofInt 0)] [] [] X3 v X') else (X' = X))
noncomputable def gxF_160 (p0 : Nat) (n : Nat) : Nat → List Int32 → List Int64 → List Nat → fx_X → Unit → fx_X → Prop := Nat.rec (motive := fun _ => Nat → List Int32 → List Int64 → List Nat → fx_X → Unit → fx_X → Prop) (fun _ _ _ _ _ _ _ => False) (fun _ P l is ls rs X v X' => (l = 20 ∧ ∃ (y1 : Int32), is = [y1] ∧ ls = [] ∧ rs = [] ∧ gxT_160_20 p0 P y1 X v X')) n
theorem gxI_160_20 {p0 : Nat} {n : Nat} {y1 : Int32} {X : fx_X} {v : Unit} {X' : fx_X} (h : gxT_160_20 p0 (gxF_160 p0 n) y1 X v X') : gxF_160 p0 (n + 1) 20 [y1] [] [] X v X' := ⟨rfl, y1, rfl, rfl, rfl, h⟩
theorem gxO_160_20 {p0 : Nat} {n : Nat} {y1 : Int32} {X : fx_X} {v : Unit} {X' : fx_X} (h : gxF_160 p0 (n + 1) 20 [y1] [] [] X v X') : gxT_160_20 p0 (gxF_160 p0 n) y1 X v X' := by
  rcases h with ⟨-, _, e1, e2, e3, h⟩
  · cases e1; cases e2; cases e3; exact h
def gx_160 (p0 : Nat) (X : fx_X) (v : Unit) (X' : fx_X) : Prop := ∃ n : Nat, gxE_160 p0 (gxF_160 p0 n) X v X'
theorem gxL_160 {tb : aj_T} (p0 : Nat) : ∀ N : Nat, (∀ (lv : aj_V) (y1 : Int32) (X : fx_X), aj_lv lv 0 = some (.ref p0) → aj_lv lv 1 = some (.int y1) → fx_W tb aj_m160 N 20 lv [] X (fx_Q fx_qN (fun v X' => ∃ n : Nat, gxF_160 p0 n 20 [y1] [] [] X v X'))) := by
  intro N
  induction N with
  | zero => exact (by intros; exact fx_z)
  | succ N ih =>
    skip
    · intro lv y1 X hlv_0 hlv_1
      refine fx_mono (Q := fx_Q fx_qN (fun v X' => ∃ n : Nat, gxT_160_20 p0 (gxF_160 p0 n) y1 X v X')) (fun r X' ⟨v, e, n, z⟩ => ⟨v, e, n + 1, gxI_160_20 z⟩) ?_
      unfold gxT_160_20
      refine fx_i0 aj_d160 rfl (Nat.le_refl _) (fun _ => rfl) hlv_1 ?_
      refine fx_i2 aj_d160 rfl (Nat.le_succ _) (fun _ => rfl) hlv_0 ?_
      refine fx_gI aj_d160 rfl (Nat.le_succ _) rfl rfl (Or.inl rfl) ?_
      refine fx_b (tgt := 60) aj_d160 rfl (Nat.le_succ _) rfl (fun q5 => ?_) (fun q5 => ?_)
      · skip
        refine fx_qe (c := (y1).toInt < ((X.1 p0 13)).toInt) (fx_t_ge q5) ?_
        show fx_W _ _ _ 60 lv [] _ _
        refine fx_i2 aj_d160 rfl (Nat.le_succ _) (fun _ => rfl) hlv_0 ?_
        refine fx_cv aj_d160 rfl (Nat.le_succ _) rfl [] rfl rfl (gx_6_ok p0) ?_
        rintro _ X6 ⟨w7, rfl, hR6⟩ hok6 hle6
        refine fx_qc hR6 ?_
        show fx_W _ _ _ 64 lv [] _ _
        exact fx_rn aj_d160 rfl ⟨(), rfl, 0, rfl⟩
      · skip
        refine fx_qi (c := (y1).toInt < ((X.1 p0 13)).toInt) (fx_f_ge q5) ?_
        show fx_W _ _ _ 28 lv [] _ _
        refine fx_i0 aj_d160 rfl (Nat.le_succ _) (fun _ => rfl) hlv_1 ?_
        refine fx_i2 aj_d160 rfl (Nat.le_succ _) (fun _ => rfl) hlv_0 ?_
        refine fx_gF aj_d160 rfl (Nat.le_succ _) rfl rfl fx_in_7_4 (t := (p0 + 5)) rfl (fun hA8 => ?_)
        refine fx_al aj_d160 rfl (Nat.le_succ _) ?_
        rw [(hA8 : X.2.2.2.1 (p0 + 5) = (0, 1024))]
        show fx_W _ _ _ 34 lv [.int (Int32.ofNat 1024), .int y1] _ _
        refine fx_b (tgt := 60) aj_d160 rfl (Nat.le_succ _) rfl (fun q9 => ?_) (fun q9 => ?_)
        · skip
          refine fx_qe (c := (y1).toInt < 1024) (fx_t_ge q9) ?_
          show fx_W _ _ _ 60 lv [] _ _
          refine fx_i2 aj_d160 rfl (Nat.le_succ _) (fun _ => rfl) hlv_0 ?_
          refine fx_cv aj_d160 rfl (Nat.le_succ _) rfl [] rfl rfl (gx_6_ok p0) ?_
          rintro _ X10 ⟨w11, rfl, hR10⟩ hok10 hle10
          refine fx_qc hR10 ?_
          show fx_W _ _ _ 64 lv [] _ _
          exact fx_rn aj_d160 rfl ⟨(), rfl, 0, rfl⟩
        · skip
          refine fx_qi (c := (y1).toInt < 1024) (fx_f_ge q9) ?_
          show fx_W _ _ _ 37 lv [] _ _
          refine fx_i2 aj_d160 rfl (Nat.le_succ _) (fun _ => rfl) hlv_0 ?_
          refine fx_gF aj_d160 rfl (Nat.le_succ _) rfl rfl fx_in_7_4 (t := (p0 + 5)) rfl (fun hA12 => ?_)
          refine fx_i0 aj_d160 rfl (Nat.le_succ _) (fun _ => rfl) hlv_1 ?_
          refine fx_n (pc' := 43) (lv' := lv) (st' := [.int y1, .ref (p0 + 5), .int y1, .ref (p0 + 5)]) aj_d160 rfl (Nat.le_succ _) (fun _ => rfl) ?_
          refine fx_ld aj_d160 (Or.inl rfl) rfl (Nat.le_succ _) (fun g130 g131 => ?_)
          show fx_W _ _ _ 44 lv [.int (X.1 (p0 + 5) (y1).toInt.toNat), .int y1, .ref (p0 + 5)] _ _
          refine fx_qa (c := 0 ≤ (y1).toInt ∧ (y1).toInt < ((1024 : Nat) : Int)) ⟨g130, fx_lnk g131 hA12⟩ ?_
          refine fx_n (pc' := 45) (lv' := lv) (st' := [.int (Int32.ofInt 1), .int (X.1 (p0 + 5) (y1).toInt.toNat), .int y1, .ref (p0 + 5)]) aj_d160 rfl (Nat.le_succ _) (fun _ => rfl) ?_
          refine fx_i2 aj_d160 rfl (Nat.le_succ _) (fun _ => rfl) hlv_0 ?_
          refine fx_gI aj_d160 rfl (Nat.le_succ _) rfl rfl (Or.inl rfl) ?_
          refine fx_n (pc' := 50) (lv' := lv) (st' := [.int ((Int32.ofInt 1) <<< ((X.1 p0 15) &&& 31)), .int (X.1 (p0 + 5) (y1).toInt.toNat), .int y1, .ref (p0 + 5)]) aj_d160 rfl (Nat.le_succ _) (fun _ => rfl) ?_
          refine fx_n (pc' := 51) (lv' := lv) (st' := [.int (Int32.ofInt (-1)), .int ((Int32.ofInt 1) <<< ((X.1 p0 15) &&& 31)), .int (X.1 (p0 + 5) (y1).toInt.toNat), .int y1, .ref (p0 + 5)]) aj_d160 rfl (Nat.le_succ _) (fun _ => rfl) ?_
          refine fx_n (pc' := 52) (lv' := lv) (st' := [.int (((Int32.ofInt 1) <<< ((X.1 p0 15) &&& 31)) ^^^ (Int32.ofInt (-1))), .int (X.1 (p0 + 5) (y1).toInt.toNat), .int y1, .ref (p0 + 5)]) aj_d160 rfl (Nat.le_succ _) (fun _ => rfl) ?_
          refine fx_n (pc' := 53) (lv' := lv) (st' := [.int ((X.1 (p0 + 5) (y1).toInt.toNat) &&& (((Int32.ofInt 1) <<< ((X.1 p0 15) &&& 31)) ^^^ (Int32.ofInt (-1)))), .int y1, .ref (p0 + 5)]) aj_d160 rfl (Nat.le_succ _) (fun _ => rfl) ?_
          refine fx_st aj_d160 (Or.inl ⟨rfl, rfl⟩) rfl (Nat.le_succ _) (fun g140 g141 => ?_)
          show fx_W _ _ _ _ _ _ (fx_wI X (p0 + 5) (y1).toInt.toNat ((X.1 (p0 + 5) (y1).toInt.toNat) &&& (((Int32.ofInt 1) <<< ((X.1 p0 15) &&& 31)) ^^^ (Int32.ofInt (-1))))) _
          refine fx_qa (c := 0 ≤ (y1).toInt ∧ (y1).toInt < ((1024 : Nat) : Int)) ⟨g140, fx_lnk g141 hA12⟩ ?_
          refine fx_qX (fun X15 eX15 => ?_)
          show fx_W _ _ _ 54 lv [] _ _
          refine fx_incq aj_d160 rfl (Nat.le_succ _) hlv_1 (by decide) (fun x16 ex16 => ?_)
          obtain ⟨lv17, elv17⟩ : ∃ l, l = aj_set1 lv 1 (.int x16) := ⟨_, rfl⟩
          rw [← elv17]
          have hlv17_0 : aj_lv lv17 0 = some (.ref p0) := fx_e1 elv17 hlv_0 (by decide) (Or.inr rfl)
          have hlv17_1 : aj_lv lv17 1 = some (.int x16) := by rw [elv17]; exact ak_set1_eq _ _ _
          show fx_W _ _ _ 57 lv17 [] _ _
          refine fx_n (pc' := 20) (lv' := lv17) (st' := []) aj_d160 rfl (Nat.le_succ _) (fun _ => rfl) ?_
          exact (ih) lv17 (x16) X15  hlv17_0 hlv17_1
theorem gx_160_ok {tb : aj_T} (p0 : Nat) {X : fx_X} : fx_K tb 160 [.ref p0] X (fx_Q fx_qN (fun v X' => gx_160 p0 X v X')) := by
  refine fx_m aj_m160_at rfl (fun N => ?_)
  refine fx_mono (Q := fx_Q fx_qN (fun v X' => ∃ n : Nat, gxE_160 p0 (gxF_160 p0 n) X v X')) (fun r X' h => h) ?_
  unfold gxE_160
  show fx_W _ _ _ 0 [(0, .ref p0)] [] _ _
  obtain ⟨lv1, elv1⟩ : ∃ l : aj_V, l = [(0, .ref p0)] := ⟨_, rfl⟩
  rw [← elv1]
  have hlv1_0 : aj_lv lv1 0 = some (.ref p0) := by rw [elv1]; rfl
  refine fx_i2 aj_d160 rfl (Nat.le_succ _) (fun _ => rfl) hlv1_0 ?_
  refine fx_gI aj_d160 rfl (Nat.le_succ _) rfl rfl (Or.inl rfl) ?_
  refine fx_b0 (tgt := 8) aj_d160 rfl (Nat.le_succ _) rfl (fun q2 => ?_) (fun q2 => ?_)
  · skip
    refine fx_qi (c := 0 < ((X.1 p0 15)).toInt) (fx_t_gt q2) ?_
    show fx_W _ _ _ 8 lv1 [] _ _
    refine fx_i2 aj_d160 rfl (Nat.le_succ _) (fun _ => rfl) hlv1_0 ?_
    refine fx_n (pc' := 10) (lv' := lv1) (st' := [.ref p0, .ref p0]) aj_d160 rfl (Nat.le_succ _) (fun _ => rfl) ?_
    refine fx_gI aj_d160 rfl (Nat.le_succ _) rfl rfl (Or.inl rfl) ?_
    refine fx_n (pc' := 14) (lv' := lv1) (st' := [.int (Int32.ofInt 1), .int (X.1 p0 15), .ref p0]) aj_d160 rfl (Nat.le_succ _) (fun _ => rfl) ?_
    refine fx_n (pc' := 15) (lv' := lv1) (st' := [.int ((X.1 p0 15) - (Int32.ofInt 1)), .ref p0]) aj_d160 rfl (Nat.le_succ _) (fun _ => rfl) ?_
    refine fx_pI aj_d160 rfl (Nat.le_succ _) rfl rfl (Or.inl rfl) fx_no_7_15 (by decide) ?_
    refine fx_qX (fun X3 eX3 => ?_)
    show fx_W _ _ _ 18 lv1 [] _ _
    refine fx_n (pc' := 19) (lv' := lv1) (st' := [.int (Int32.ofInt 0)]) aj_d160 rfl (Nat.le_succ _) (fun _ => rfl) ?_
    refine fx_s0 (j := 1) aj_d160 rfl (Nat.le_succ _) (by decide) (fun _ => rfl) ?_
    obtain ⟨lv4, elv4⟩ : ∃ l, l = aj_set1 lv1 1 (.int (Int32.ofInt 0)) := ⟨_, rfl⟩
    rw [← elv4]
    have hlv4_0 : aj_lv lv4 0 = some (.ref p0) := fx_e1 elv4 hlv1_0 (by decide) (Or.inr rfl)
    have hlv4_1 : aj_lv lv4 1 = some (.int (Int32.ofInt 0)) := by rw [elv4]; exact ak_set1_eq _ _ _
    show fx_W _ _ _ 20 lv4 [] _ _
    exact ((gxL_160 p0 N)) lv4 ((Int32.ofInt 0)) X3  hlv4_0 hlv4_1
  · skip
    refine fx_qe (c := 0 < ((X.1 p0 15)).toInt) (fx_f_gt q2) ?_
    show fx_W _ _ _ 7 lv1 [] _ _
    exact fx_rn aj_d160 rfl ⟨(), rfl, 0, rfl⟩
def gx_159 (X : fx_X) (v : Int32) (X' : fx_X) : Prop :=
  ∃ b3 : Nat, X.2.2.1 52 3 = some b3 ∧ (if 0 < ((X.1 b3 16)).toInt then (∃ b6 : Nat, X.2.2.1 52 3 = some b6 ∧ ∃ X7 : fx_X, X7 = (fx_wI X b6 16 ((X.1 b6 16) - (Int32.ofInt 1))) ∧ ∃ b9 : Nat, X7.2.2.1 52 3 = some b9 ∧ ∃ (w11 : Unit) (X10 : fx_X), gx_160 b9 X7 w11 X10 ∧ ∃ (w13 : Unit) (X12 : fx_X), gx_150 X10 w13 X12 ∧ v = (Int32.ofInt 1) ∧ X' = X12) else (v = (Int32.ofInt 0) ∧ X' = X))
theorem gx_159_ok {tb : aj_T} {X : fx_X} : fx_K tb 159 [.ref 52] X (fx_Q fx_qI (fun v X' => gx_159 X v X')) := by
  refine fx_m aj_m159_at rfl (fun N => ?_)
  refine fx_mono (Q := fx_Q fx_qI (fun v X' => ∃ n : Nat, gx_159 X v X')) (fun r X' ⟨v, e, _, z⟩ => ⟨v, e, z⟩) ?_
  unfold gx_159
  show fx_W _ _ _ 0 [(0, .ref 52)] [] _ _
  obtain ⟨lv1, elv1⟩ : ∃ l : aj_V, l = [(0, .ref 52)] := ⟨_, rfl⟩
  rw [← elv1]
  have hlv1_0 : aj_lv lv1 0 = some (.ref 52) := by rw [elv1]; rfl
  refine fx_i2 aj_d159 rfl (Nat.le_succ _) (fun _ => rfl) hlv1_0 ?_
  refine fx_gR aj_d159 rfl (Nat.le_succ _) rfl rfl (Or.inl ⟨_, rfl⟩) (fun _ z => absurd (by decide) z) (fun b3 q2 => ?_)
  show fx_W _ _ _ 4 lv1 [.ref b3] _ _
  refine fx_qs q2 ?_
  refine fx_gI aj_d159 rfl (Nat.le_succ _) rfl rfl (Or.inl rfl) ?_
  refine fx_b0 (tgt := 12) aj_d159 rfl (Nat.le_succ _) rfl (fun q4 => ?_) (fun q4 => ?_)
  · skip
    refine fx_qi (c := 0 < ((X.1 b3 16)).toInt) (fx_t_gt q4) ?_
    show fx_W _ _ _ 12 lv1 [] _ _
    refine fx_i2 aj_d159 rfl (Nat.le_succ _) (fun _ => rfl) hlv1_0 ?_
    refine fx_gR aj_d159 rfl (Nat.le_succ _) rfl rfl (Or.inl ⟨_, rfl⟩) (fun _ z => absurd (by decide) z) (fun b6 q5 => ?_)
    show fx_W _ _ _ 16 lv1 [.ref b6] _ _
    refine fx_qs q5 ?_
    refine fx_n (pc' := 17) (lv' := lv1) (st' := [.ref b6, .ref b6]) aj_d159 rfl (Nat.le_succ _) (fun _ => rfl) ?_
    refine fx_gI aj_d159 rfl (Nat.le_succ _) rfl rfl (Or.inl rfl) ?_
    refine fx_n (pc' := 21) (lv' := lv1) (st' := [.int (Int32.ofInt 1), .int (X.1 b6 16), .ref b6]) aj_d159 rfl (Nat.le_succ _) (fun _ => rfl) ?_
    refine fx_n (pc' := 22) (lv' := lv1) (st' := [.int ((X.1 b6 16) - (Int32.ofInt 1)), .ref b6]) aj_d159 rfl (Nat.le_succ _) (fun _ => rfl) ?_
    refine fx_pI aj_d159 rfl (Nat.le_succ _) rfl rfl (Or.inl rfl) fx_no_7_16 (by decide) ?_
    refine fx_qX (fun X7 eX7 => ?_)
    show fx_W _ _ _ 25 lv1 [] _ _
    refine fx_i2 aj_d159 rfl (Nat.le_succ _) (fun _ => rfl) hlv1_0 ?_
    refine fx_gR aj_d159 rfl (Nat.le_succ _) rfl rfl (Or.inl ⟨_, rfl⟩) (fun _ z => absurd (by decide) z) (fun b9 q8 => ?_)
    show fx_W _ _ _ 29 lv1 [.ref b9] _ _
    refine fx_qs q8 ?_
    refine fx_cv aj_d159 rfl (Nat.le_succ _) rfl [] rfl rfl (gx_160_ok b9) ?_
    rintro _ X10 ⟨w11, rfl, hR10⟩ hok10 hle10
    refine fx_qc hR10 ?_
    show fx_W _ _ _ 32 lv1 [] _ _
    refine fx_i2 aj_d159 rfl (Nat.le_succ _) (fun _ => rfl) hlv1_0 ?_
    refine fx_cv aj_d159 rfl (Nat.le_succ _) rfl [] rfl rfl (gx_150_ok) ?_
    rintro _ X12 ⟨w13, rfl, hR12⟩ hok12 hle12
    refine fx_qc hR12 ?_
    show fx_W _ _ _ 36 lv1 [] _ _
    refine fx_n (pc' := 37) (lv' := lv1) (st' := [.int (Int32.ofInt 1)]) aj_d159 rfl (Nat.le_succ _) (fun _ => rfl) ?_
    exact fx_ri aj_d159 rfl ⟨_, rfl, 0, rfl, rfl⟩
  · skip
    refine fx_qe (c := 0 < ((X.1 b3 16)).toInt) (fx_f_gt q4) ?_
    show fx_W _ _ _ 10 lv1 [] _ _
    refine fx_n (pc' := 11) (lv' := lv1) (st' := [.int (Int32.ofInt 0)]) aj_d159 rfl (Nat.le_succ _) (fun _ => rfl) ?_
    exact fx_ri aj_d159 rfl ⟨_, rfl, 0, rfl, rfl⟩
def gxT_162_2 (p0 : Nat) (P : Nat → List Int32 → List Int64 → List Nat → fx_X → Unit → fx_X → Prop) (y2 : Int32) (X : fx_X) (v : Unit) (X' : fx_X) : Prop :=
  (if (y2).toInt < ((X.1 p0 13)).toInt then ((if (y2).toInt < 1024 then (∃ (w10 : Int32) (X9 : fx_X), gx_147 y2 X w10 X9 ∧ (0 ≤ (y2).toInt ∧ (y2).toInt < ((1024 : Nat) : Int)) ∧ ∃ X12 : fx_X, X12 = (fx_wI X9 (p0 + 7) (y2).toInt.toNat (aj_nar 2 w10)) ∧ ∃ x13 : Int32, x13 = y2 + Int32.ofInt 1 ∧ P 2 [x13] [] [] X12 v X') else (∃ X7 : fx_X, X7 = (fx_wI X p0 17 (Int32.ofInt 1)) ∧ X' = X7))) else (∃ X4 : fx_X, X4 = (fx_wI X p0 17 (Int32.ofInt 1)) ∧ X' = X4))
def gxE_162 (p0 : Nat) (P : Nat → List Int32 → List Int64 → List Nat → fx_X → Unit → fx_X → Prop) (X : fx_X) (v : Unit) (X' : fx_X) : Prop :=
  P 2 [(Int32.ofInt 0)] [] [] X v X'
noncomputable def gxF_162 (p0 : Nat) (n : Nat) : Nat → List Int32 → List Int64 → List Nat → fx_X → Unit → fx_X → Prop := Nat.rec (motive := fun _ => Nat → List Int32 → List Int64 → List Nat → fx_X → Unit → fx_X → Prop) (fun _ _ _ _ _ _ _ => False) (fun _ P l is ls rs X v X' => (l = 2 ∧ ∃ (y2 : Int32), is = [y2] ∧ ls = [] ∧ rs = [] ∧ gxT_162_2 p0 P y2 X v X')) n
theorem gxI_162_2 {p0 : Nat} {n : Nat} {y2 : Int32} {X : fx_X} {v : Unit} {X' : fx_X} (h : gxT_162_2 p0 (gxF_162 p0 n) y2 X v X') : gxF_162 p0 (n + 1) 2 [y2] [] [] X v X' := ⟨rfl, y2, rfl, rfl, rfl, h⟩
theorem gxO_162_2 {p0 : Nat} {n : Nat} {y2 : Int32} {X : fx_X} {v : Unit} {X' : fx_X} (h : gxF_162 p0 (n + 1) 2 [y2] [] [] X v X') : gxT_162_2 p0 (gxF_162 p0 n) y2 X v X' := by
  rcases h with ⟨-, _, e1, e2, e3, h⟩
  · cases e1; cases e2; cases e3; exact h
def gx_162 (p0 : Nat) (X : fx_X) (v : Unit) (X' : fx_X) : Prop := ∃ n : Nat, gxE_162 p0 (gxF_162 p0 n) X v X'
theorem gxL_162 {tb : aj_T} (p0 : Nat) : ∀ N : Nat, (∀ (lv : aj_V) (y2 : Int32) (X : fx_X), aj_lv lv 0 = some (.ref p0) → aj_lv lv 1 = some (.ref 95) → aj_lv lv 2 = some (.int y2) → fx_W tb aj_m162 N 2 lv [] X (fx_Q fx_qN (fun v X' => ∃ n : Nat, gxF_162 p0 n 2 [y2] [] [] X v X'))) := by
  intro N
  induction N with
  | zero => exact (by intros; exact fx_z)
  | succ N ih =>
    skip
    · intro lv y2 X hlv_0 hlv_1 hlv_2
      refine fx_mono (Q := fx_Q fx_qN (fun v X' => ∃ n : Nat, gxT_162_2 p0 (gxF_162 p0 n) y2 X v X')) (fun r X' ⟨v, e, n, z⟩ => ⟨v, e, n + 1, gxI_162_2 z⟩) ?_
      unfold gxT_162_2
      refine fx_i0 aj_d162 rfl (Nat.le_refl _) (fun _ => rfl) hlv_2 ?_
      refine fx_i2 aj_d162 rfl (Nat.le_succ _) (fun _ => rfl) hlv_0 ?_
      refine fx_gI aj_d162 rfl (Nat.le_succ _) rfl rfl (Or.inl rfl) ?_
      refine fx_b (tgt := 36) aj_d162 rfl (Nat.le_succ _) rfl (fun q3 => ?_) (fun q3 => ?_)
      · skip
        refine fx_qe (c := (y2).toInt < ((X.1 p0 13)).toInt) (fx_t_ge q3) ?_
        show fx_W _ _ _ 36 lv [] _ _
        refine fx_i2 aj_d162 rfl (Nat.le_succ _) (fun _ => rfl) hlv_0 ?_
        refine fx_n (pc' := 38) (lv' := lv) (st' := [.int (Int32.ofInt 1), .ref p0]) aj_d162 rfl (Nat.le_succ _) (fun _ => rfl) ?_
        refine fx_pI aj_d162 rfl (Nat.le_succ _) rfl rfl (Or.inr (Or.inl rfl)) fx_no_7_17 (by decide) ?_
        refine fx_qX (fun X4 eX4 => ?_)
        show fx_W _ _ _ 41 lv [] _ _
        exact fx_rn aj_d162 rfl ⟨(), rfl, 0, rfl⟩
      · skip
        refine fx_qi (c := (y2).toInt < ((X.1 p0 13)).toInt) (fx_f_ge q3) ?_
        show fx_W _ _ _ 10 lv [] _ _
        refine fx_i0 aj_d162 rfl (Nat.le_succ _) (fun _ => rfl) hlv_2 ?_
        refine fx_i2 aj_d162 rfl (Nat.le_succ _) (fun _ => rfl) hlv_0 ?_
        refine fx_gF aj_d162 rfl (Nat.le_succ _) rfl rfl fx_in_7_6 (t := (p0 + 7)) rfl (fun hA5 => ?_)
        refine fx_al aj_d162 rfl (Nat.le_succ _) ?_
        rw [(hA5 : X.2.2.2.1 (p0 + 7) = (2, 1024))]
        show fx_W _ _ _ 16 lv [.int (Int32.ofNat 1024), .int y2] _ _
        refine fx_b (tgt := 36) aj_d162 rfl (Nat.le_succ _) rfl (fun q6 => ?_) (fun q6 => ?_)
        · skip
          refine fx_qe (c := (y2).toInt < 1024) (fx_t_ge q6) ?_
          show fx_W _ _ _ 36 lv [] _ _
          refine fx_i2 aj_d162 rfl (Nat.le_succ _) (fun _ => rfl) hlv_0 ?_
          refine fx_n (pc' := 38) (lv' := lv) (st' := [.int (Int32.ofInt 1), .ref p0]) aj_d162 rfl (Nat.le_succ _) (fun _ => rfl) ?_
          refine fx_pI aj_d162 rfl (Nat.le_succ _) rfl rfl (Or.inr (Or.inl rfl)) fx_no_7_17 (by decide) ?_
          refine fx_qX (fun X7 eX7 => ?_)
          show fx_W _ _ _ 41 lv [] _ _
          exact fx_rn aj_d162 rfl ⟨(), rfl, 0, rfl⟩
        · skip
          refine fx_qi (c := (y2).toInt < 1024) (fx_f_ge q6) ?_
          show fx_W _ _ _ 19 lv [] _ _
          refine fx_i2 aj_d162 rfl (Nat.le_succ _) (fun _ => rfl) hlv_0 ?_
          refine fx_gF aj_d162 rfl (Nat.le_succ _) rfl rfl fx_in_7_6 (t := (p0 + 7)) rfl (fun hA8 => ?_)
          refine fx_i0 aj_d162 rfl (Nat.le_succ _) (fun _ => rfl) hlv_2 ?_
          refine fx_i2 aj_d162 rfl (Nat.le_succ _) (fun _ => rfl) hlv_1 ?_
          refine fx_i0 aj_d162 rfl (Nat.le_succ _) (fun _ => rfl) hlv_2 ?_
          refine fx_cv aj_d162 rfl (Nat.le_succ _) rfl [_] rfl rfl (gx_147_ok y2) ?_
          rintro _ X9 ⟨w10, rfl, hR9⟩ hok9 hle9
          refine fx_qc hR9 ?_
          show fx_W _ _ _ 29 lv [.int w10, .int y2, .ref (p0 + 7)] _ _
          refine fx_sb (kd := 2) aj_d162 rfl (Nat.le_succ _) ((hle9.2 _ (by rw [hA8]; decide)).trans hA8) (fun g110 g111 => ?_)
          refine fx_qa (c := 0 ≤ (y2).toInt ∧ (y2).toInt < ((1024 : Nat) : Int)) ⟨g110, fx_lnk g111 ((hle9.2 _ (by rw [hA8]; decide)).trans hA8)⟩ ?_
          refine fx_qX (fun X12 eX12 => ?_)
          show fx_W _ _ _ 30 lv [] _ _
          refine fx_incq aj_d162 rfl (Nat.le_succ _) hlv_2 (by decide) (fun x13 ex13 => ?_)
          obtain ⟨lv14, elv14⟩ : ∃ l, l = aj_set1 lv 2 (.int x13) := ⟨_, rfl⟩
          rw [← elv14]
          have hlv14_0 : aj_lv lv14 0 = some (.ref p0) := fx_e1 elv14 hlv_0 (by decide) (Or.inl (by decide))
          have hlv14_1 : aj_lv lv14 1 = some (.ref 95) := fx_e1 elv14 hlv_1 (by decide) (Or.inr rfl)
          have hlv14_2 : aj_lv lv14 2 = some (.int x13) := by rw [elv14]; exact ak_set1_eq _ _ _
          show fx_W _ _ _ 33 lv14 [] _ _
          refine fx_n (pc' := 2) (lv' := lv14) (st' := []) aj_d162 rfl (Nat.le_succ _) (fun _ => rfl) ?_
          exact (ih) lv14 (x13) X12  hlv14_0 hlv14_1 hlv14_2
theorem gx_162_ok {tb : aj_T} (p0 : Nat) {X : fx_X} : fx_K tb 162 [.ref p0, .ref 95] X (fx_Q fx_qN (fun v X' => gx_162 p0 X v X')) := by
  refine fx_m aj_m162_at rfl (fun N => ?_)
  refine fx_mono (Q := fx_Q fx_qN (fun v X' => ∃ n : Nat, gxE_162 p0 (gxF_162 p0 n) X v X')) (fun r X' h => h) ?_
  unfold gxE_162
  show fx_W _ _ _ 0 [(0, .ref p0), (1, .ref 95)] [] _ _
  obtain ⟨lv1, elv1⟩ : ∃ l : aj_V, l = [(0, .ref p0), (1, .ref 95)] := ⟨_, rfl⟩
  rw [← elv1]
  have hlv1_0 : aj_lv lv1 0 = some (.ref p0) := by rw [elv1]; rfl
  have hlv1_1 : aj_lv lv1 1 = some (.ref 95) := by rw [elv1]; rfl
  refine fx_n (pc' := 1) (lv' := lv1) (st' := [.int (Int32.ofInt 0)]) aj_d162 rfl (Nat.le_succ _) (fun _ => rfl) ?_
  refine fx_s0 (j := 2) aj_d162 rfl (Nat.le_succ _) (by decide) (fun _ => rfl) ?_
  obtain ⟨lv2, elv2⟩ : ∃ l, l = aj_set1 lv1 2 (.int (Int32.ofInt 0)) := ⟨_, rfl⟩
  rw [← elv2]
  have hlv2_0 : aj_lv lv2 0 = some (.ref p0) := fx_e1 elv2 hlv1_0 (by decide) (Or.inl (by decide))
  have hlv2_1 : aj_lv lv2 1 = some (.ref 95) := fx_e1 elv2 hlv1_1 (by decide) (Or.inr rfl)
  have hlv2_2 : aj_lv lv2 2 = some (.int (Int32.ofInt 0)) := by rw [elv2]; exact ak_set1_eq _ _ _
  show fx_W _ _ _ 2 lv2 [] _ _
  exact ((gxL_162 p0 N)) lv2 ((Int32.ofInt 0)) X  hlv2_0 hlv2_1 hlv2_2
def gx_161 (X : fx_X) (v : Int32) (X' : fx_X) : Prop :=
  ∃ b3 : Nat, X.2.2.1 52 3 = some b3 ∧ ∃ (w5 : Unit) (X4 : fx_X), gx_20 ((Int16.ofInt 138).toInt32) b3 X w5 X4 ∧ ∃ (w7 : Int32) (X6 : fx_X), gx_155 X4 w7 X6 ∧ (if (w7).toInt = 0 then (v = (Int32.ofInt (-1)) ∧ X' = X6) else (∃ b10 : Nat, X6.2.2.1 52 3 = some b10 ∧ ∃ (w13 : Unit) (X12 : fx_X), gx_162 b10 X6 w13 X12 ∧ ∃ (w16 : Unit) (X15 : fx_X), gx_152 X12 w16 X15 ∧ ∃ b18 : Nat, X15.2.2.1 52 3 = some b18 ∧ ∃ (w21 : Int32) (X20 : fx_X), gx_157 b18 X15 w21 X20 ∧ v = w21 ∧ X' = X20))
theorem gx_161_ok {tb : aj_T} {X : fx_X} : fx_K tb 161 [.ref 52] X (fx_Q fx_qI (fun v X' => gx_161 X v X')) := by
  refine fx_m aj_m161_at rfl (fun N => ?_)
  refine fx_mono (Q := fx_Q fx_qI (fun v X' => ∃ n : Nat, gx_161 X v X')) (fun r X' ⟨v, e, _, z⟩ => ⟨v, e, z⟩) ?_
  unfold gx_161
  show fx_W _ _ _ 0 [(0, .ref 52)] [] _ _
  obtain ⟨lv1, elv1⟩ : ∃ l : aj_V, l = [(0, .ref 52)] := ⟨_, rfl⟩
  rw [← elv1]
  have hlv1_0 : aj_lv lv1 0 = some (.ref 52) := by rw [elv1]; rfl
  refine fx_i2 aj_d161 rfl (Nat.le_succ _) (fun _ => rfl) hlv1_0 ?_
  refine fx_n (pc' := 4) (lv' := lv1) (st' := [.int ((Int16.ofInt 138).toInt32), .ref 52]) aj_d161 rfl (Nat.le_succ _) (fun _ => rfl) ?_
  refine fx_i2 aj_d161 rfl (Nat.le_succ _) (fun _ => rfl) hlv1_0 ?_
  refine fx_gR aj_d161 rfl (Nat.le_succ _) rfl rfl (Or.inl ⟨_, rfl⟩) (fun _ z => absurd (by decide) z) (fun b3 q2 => ?_)
  show fx_W _ _ _ 8 lv1 [.ref b3, .int ((Int16.ofInt 138).toInt32), .ref 52] _ _
  refine fx_qs q2 ?_
  refine fx_cv aj_d161 rfl (Nat.le_succ _) rfl [_, _] rfl rfl (gx_20_ok ((Int16.ofInt 138).toInt32) b3) ?_
  rintro _ X4 ⟨w5, rfl, hR4⟩ hok4 hle4
  refine fx_qc hR4 ?_
  show fx_W _ _ _ 11 lv1 [] _ _
  refine fx_i2 aj_d161 rfl (Nat.le_succ _) (fun _ => rfl) hlv1_0 ?_
  refine fx_cv aj_d161 rfl (Nat.le_succ _) rfl [] rfl rfl (gx_155_ok) ?_
  rintro _ X6 ⟨w7, rfl, hR6⟩ hok6 hle6
  refine fx_qc hR6 ?_
  show fx_W _ _ _ 15 lv1 [.int w7] _ _
  refine fx_b0 (tgt := 20) aj_d161 rfl (Nat.le_succ _) rfl (fun q8 => ?_) (fun q8 => ?_)
  · skip
    refine fx_qe (c := (w7).toInt = 0) (fx_t_ne q8) ?_
    show fx_W _ _ _ 20 lv1 [] _ _
    refine fx_i2 aj_d161 rfl (Nat.le_succ _) (fun _ => rfl) hlv1_0 ?_
    refine fx_gR aj_d161 rfl (Nat.le_succ _) rfl rfl (Or.inl ⟨_, rfl⟩) (fun _ z => absurd (by decide) z) (fun b10 q9 => ?_)
    show fx_W _ _ _ 24 lv1 [.ref b10] _ _
    refine fx_qs q9 ?_
    refine fx_i2 aj_d161 rfl (Nat.le_succ _) (fun _ => rfl) hlv1_0 ?_
    refine fx_gF aj_d161 rfl (Nat.le_succ _) rfl rfl fx_in_10_9 (t := 95) rfl (fun hA11 => ?_)
    refine fx_cv aj_d161 rfl (Nat.le_succ _) rfl [_] rfl rfl (gx_162_ok b10) ?_
    rintro _ X12 ⟨w13, rfl, hR12⟩ hok12 hle12
    refine fx_qc hR12 ?_
    show fx_W _ _ _ 31 lv1 [] _ _
    refine fx_i2 aj_d161 rfl (Nat.le_succ _) (fun _ => rfl) hlv1_0 ?_
    refine fx_gF aj_d161 rfl (Nat.le_succ _) rfl rfl fx_in_10_11 (t := 113) rfl (fun hA14 => ?_)
    refine fx_cv aj_d161 rfl (Nat.le_succ _) rfl [] rfl rfl (gx_152_ok) ?_
    rintro _ X15 ⟨w16, rfl, hR15⟩ hok15 hle15
    refine fx_qc hR15 ?_
    show fx_W _ _ _ 38 lv1 [] _ _
    refine fx_i2 aj_d161 rfl (Nat.le_succ _) (fun _ => rfl) hlv1_0 ?_
    refine fx_gR aj_d161 rfl (Nat.le_succ _) rfl rfl (Or.inl ⟨_, rfl⟩) (fun _ z => absurd (by decide) z) (fun b18 q17 => ?_)
    show fx_W _ _ _ 42 lv1 [.ref b18] _ _
    refine fx_qs q17 ?_
    refine fx_i2 aj_d161 rfl (Nat.le_succ _) (fun _ => rfl) hlv1_0 ?_
    refine fx_gF aj_d161 rfl (Nat.le_succ _) rfl rfl fx_in_10_9 (t := 95) rfl (fun hA19 => ?_)
    refine fx_cv aj_d161 rfl (Nat.le_succ _) rfl [_] rfl rfl (gx_157_ok b18) ?_
    rintro _ X20 ⟨w21, rfl, hR20⟩ hok20 hle20
    refine fx_qc hR20 ?_
    show fx_W _ _ _ 49 lv1 [.int w21] _ _
    exact fx_ri aj_d161 rfl ⟨_, rfl, 0, rfl, rfl⟩
  · skip
    refine fx_qi (c := (w7).toInt = 0) (fx_f_ne q8) ?_
    show fx_W _ _ _ 18 lv1 [] _ _
    refine fx_n (pc' := 19) (lv' := lv1) (st' := [.int (Int32.ofInt (-1))]) aj_d161 rfl (Nat.le_succ _) (fun _ => rfl) ?_
    exact fx_ri aj_d161 rfl ⟨_, rfl, 0, rfl, rfl⟩
def gx_166 (p0 : Nat) (p1 : Int32) (X : fx_X) (v : Int32) (X' : fx_X) : Prop :=
  (if (p1).toInt < 0 then (v = (Int32.ofInt 0) ∧ X' = X) else ((if (p1).toInt < 1024 then ((0 ≤ (p1).toInt ∧ (p1).toInt < ((1024 : Nat) : Int)) ∧ (if ((X.1 (p0 + 7) (p1).toInt.toNat)).toInt = 0 then (v = (Int32.ofInt 0) ∧ X' = X) else (v = (Int32.ofInt 1) ∧ X' = X))) else (v = (Int32.ofInt 0) ∧ X' = X))))
theorem gx_166_ok {tb : aj_T} (p0 : Nat) (p1 : Int32) {X : fx_X} : fx_K tb 166 [.ref p0, .int p1] X (fx_Q fx_qI (fun v X' => gx_166 p0 p1 X v X')) := by
  refine fx_m aj_m166_at rfl (fun N => ?_)
  refine fx_mono (Q := fx_Q fx_qI (fun v X' => ∃ n : Nat, gx_166 p0 p1 X v X')) (fun r X' ⟨v, e, _, z⟩ => ⟨v, e, z⟩) ?_
  unfold gx_166
  show fx_W _ _ _ 0 [(0, .ref p0), (1, .int p1)] [] _ _
  obtain ⟨lv1, elv1⟩ : ∃ l : aj_V, l = [(0, .ref p0), (1, .int p1)] := ⟨_, rfl⟩
  rw [← elv1]
  have hlv1_0 : aj_lv lv1 0 = some (.ref p0) := by rw [elv1]; rfl
  have hlv1_1 : aj_lv lv1 1 = some (.int p1) := by rw [elv1]; rfl
  refine fx_i0 aj_d166 rfl (Nat.le_succ _) (fun _ => rfl) hlv1_1 ?_
  refine fx_b0 (tgt := 26) aj_d166 rfl (Nat.le_succ _) rfl (fun q2 => ?_) (fun q2 => ?_)
  · skip
    refine fx_qi (c := (p1).toInt < 0) (fx_t_lt q2) ?_
    show fx_W _ _ _ 26 lv1 [] _ _
    refine fx_n (pc' := 27) (lv' := lv1) (st' := [.int (Int32.ofInt 0)]) aj_d166 rfl (Nat.le_succ _) (fun _ => rfl) ?_
    exact fx_ri aj_d166 rfl ⟨_, rfl, 0, rfl, rfl⟩
  · skip
    refine fx_qe (c := (p1).toInt < 0) (fx_f_lt q2) ?_
    show fx_W _ _ _ 4 lv1 [] _ _
    refine fx_i0 aj_d166 rfl (Nat.le_succ _) (fun _ => rfl) hlv1_1 ?_
    refine fx_i2 aj_d166 rfl (Nat.le_succ _) (fun _ => rfl) hlv1_0 ?_
    refine fx_gF aj_d166 rfl (Nat.le_succ _) rfl rfl fx_in_7_6 (t := (p0 + 7)) rfl (fun hA3 => ?_)
    refine fx_al aj_d166 rfl (Nat.le_succ _) ?_
    rw [(hA3 : X.2.2.2.1 (p0 + 7) = (2, 1024))]
    show fx_W _ _ _ 10 lv1 [.int (Int32.ofNat 1024), .int p1] _ _
    refine fx_b (tgt := 26) aj_d166 rfl (Nat.le_succ _) rfl (fun q4 => ?_) (fun q4 => ?_)
    · skip
      refine fx_qe (c := (p1).toInt < 1024) (fx_t_ge q4) ?_
      show fx_W _ _ _ 26 lv1 [] _ _
      refine fx_n (pc' := 27) (lv' := lv1) (st' := [.int (Int32.ofInt 0)]) aj_d166 rfl (Nat.le_succ _) (fun _ => rfl) ?_
      exact fx_ri aj_d166 rfl ⟨_, rfl, 0, rfl, rfl⟩
    · skip
      refine fx_qi (c := (p1).toInt < 1024) (fx_f_ge q4) ?_
      show fx_W _ _ _ 13 lv1 [] _ _
      refine fx_i2 aj_d166 rfl (Nat.le_succ _) (fun _ => rfl) hlv1_0 ?_
      refine fx_gF aj_d166 rfl (Nat.le_succ _) rfl rfl fx_in_7_6 (t := (p0 + 7)) rfl (fun hA5 => ?_)
      refine fx_i0 aj_d166 rfl (Nat.le_succ _) (fun _ => rfl) hlv1_1 ?_
      refine fx_ld aj_d166 (Or.inr (Or.inr rfl)) rfl (Nat.le_succ _) (fun g60 g61 => ?_)
      show fx_W _ _ _ 19 lv1 [.int (X.1 (p0 + 7) (p1).toInt.toNat)] _ _
      refine fx_qa (c := 0 ≤ (p1).toInt ∧ (p1).toInt < ((1024 : Nat) : Int)) ⟨g60, fx_lnk g61 hA5⟩ ?_
      refine fx_b0 (tgt := 26) aj_d166 rfl (Nat.le_succ _) rfl (fun q7 => ?_) (fun q7 => ?_)
      · skip
        refine fx_qi (c := ((X.1 (p0 + 7) (p1).toInt.toNat)).toInt = 0) (fx_t_eq q7) ?_
        show fx_W _ _ _ 26 lv1 [] _ _
        refine fx_n (pc' := 27) (lv' := lv1) (st' := [.int (Int32.ofInt 0)]) aj_d166 rfl (Nat.le_succ _) (fun _ => rfl) ?_
        exact fx_ri aj_d166 rfl ⟨_, rfl, 0, rfl, rfl⟩
      · skip
        refine fx_qe (c := ((X.1 (p0 + 7) (p1).toInt.toNat)).toInt = 0) (fx_f_eq q7) ?_
        show fx_W _ _ _ 22 lv1 [] _ _
        refine fx_n (pc' := 23) (lv' := lv1) (st' := [.int (Int32.ofInt 1)]) aj_d166 rfl (Nat.le_succ _) (fun _ => rfl) ?_
        refine fx_n (pc' := 27) (lv' := lv1) (st' := [.int (Int32.ofInt 1)]) aj_d166 rfl (Nat.le_succ _) (fun _ => rfl) ?_
        exact fx_ri aj_d166 rfl ⟨_, rfl, 0, rfl, rfl⟩
def gx_167 (p0 : Nat) (p1 : Int32) (X : fx_X) (v : Int32) (X' : fx_X) : Prop :=
  (if (p1).toInt < 0 then (v = (Int32.ofInt 0) ∧ X' = X) else ((if (p1).toInt < 1024 then ((0 ≤ (p1).toInt ∧ (p1).toInt < ((1024 : Nat) : Int)) ∧ v = (X.1 (p0 + 5) (p1).toInt.toNat) ∧ X' = X) else (v = (Int32.ofInt 0) ∧ X' = X))))
theorem gx_167_ok {tb : aj_T} (p0 : Nat) (p1 : Int32) {X : fx_X} : fx_K tb 167 [.ref p0, .int p1] X (fx_Q fx_qI (fun v X' => gx_167 p0 p1 X v X')) := by
  refine fx_m aj_m167_at rfl (fun N => ?_)
  refine fx_mono (Q := fx_Q fx_qI (fun v X' => ∃ n : Nat, gx_167 p0 p1 X v X')) (fun r X' ⟨v, e, _, z⟩ => ⟨v, e, z⟩) ?_
  unfold gx_167
  show fx_W _ _ _ 0 [(0, .ref p0), (1, .int p1)] [] _ _
  obtain ⟨lv1, elv1⟩ : ∃ l : aj_V, l = [(0, .ref p0), (1, .int p1)] := ⟨_, rfl⟩
  rw [← elv1]
  have hlv1_0 : aj_lv lv1 0 = some (.ref p0) := by rw [elv1]; rfl
  have hlv1_1 : aj_lv lv1 1 = some (.int p1) := by rw [elv1]; rfl
  refine fx_i0 aj_d167 rfl (Nat.le_succ _) (fun _ => rfl) hlv1_1 ?_
  refine fx_b0 (tgt := 22) aj_d167 rfl (Nat.le_succ _) rfl (fun q2 => ?_) (fun q2 => ?_)
  · skip
    refine fx_qi (c := (p1).toInt < 0) (fx_t_lt q2) ?_
    show fx_W _ _ _ 22 lv1 [] _ _
    refine fx_n (pc' := 23) (lv' := lv1) (st' := [.int (Int32.ofInt 0)]) aj_d167 rfl (Nat.le_succ _) (fun _ => rfl) ?_
    exact fx_ri aj_d167 rfl ⟨_, rfl, 0, rfl, rfl⟩
  · skip
    refine fx_qe (c := (p1).toInt < 0) (fx_f_lt q2) ?_
    show fx_W _ _ _ 4 lv1 [] _ _
    refine fx_i0 aj_d167 rfl (Nat.le_succ _) (fun _ => rfl) hlv1_1 ?_
    refine fx_i2 aj_d167 rfl (Nat.le_succ _) (fun _ => rfl) hlv1_0 ?_
    refine fx_gF aj_d167 rfl (Nat.le_succ _) rfl rfl fx_in_7_4 (t := (p0 + 5)) rfl (fun hA3 => ?_)
    refine fx_al aj_d167 rfl (Nat.le_succ _) ?_
    rw [(hA3 : X.2.2.2.1 (p0 + 5) = (0, 1024))]
    show fx_W _ _ _ 10 lv1 [.int (Int32.ofNat 1024), .int p1] _ _
    refine fx_b (tgt := 22) aj_d167 rfl (Nat.le_succ _) rfl (fun q4 => ?_) (fun q4 => ?_)
    · skip
      refine fx_qe (c := (p1).toInt < 1024) (fx_t_ge q4) ?_
      show fx_W _ _ _ 22 lv1 [] _ _
      refine fx_n (pc' := 23) (lv' := lv1) (st' := [.int (Int32.ofInt 0)]) aj_d167 rfl (Nat.le_succ _) (fun _ => rfl) ?_
      exact fx_ri aj_d167 rfl ⟨_, rfl, 0, rfl, rfl⟩
    · skip
      refine fx_qi (c := (p1).toInt < 1024) (fx_f_ge q4) ?_
      show fx_W _ _ _ 13 lv1 [] _ _
      refine fx_i2 aj_d167 rfl (Nat.le_succ _) (fun _ => rfl) hlv1_0 ?_
      refine fx_gF aj_d167 rfl (Nat.le_succ _) rfl rfl fx_in_7_4 (t := (p0 + 5)) rfl (fun hA5 => ?_)
      refine fx_i0 aj_d167 rfl (Nat.le_succ _) (fun _ => rfl) hlv1_1 ?_
      refine fx_ld aj_d167 (Or.inl rfl) rfl (Nat.le_succ _) (fun g60 g61 => ?_)
      show fx_W _ _ _ 19 lv1 [.int (X.1 (p0 + 5) (p1).toInt.toNat)] _ _
      refine fx_qa (c := 0 ≤ (p1).toInt ∧ (p1).toInt < ((1024 : Nat) : Int)) ⟨g60, fx_lnk g61 hA5⟩ ?_
      refine fx_n (pc' := 23) (lv' := lv1) (st' := [.int (X.1 (p0 + 5) (p1).toInt.toNat)]) aj_d167 rfl (Nat.le_succ _) (fun _ => rfl) ?_
      exact fx_ri aj_d167 rfl ⟨_, rfl, 0, rfl, rfl⟩
def gxT_168_4 (p1 : Int32) (P : Nat → List Int32 → List Int64 → List Nat → fx_X → Unit → fx_X → Prop) (y2 : Int32) (y3 : Int32) (X : fx_X) (v : Unit) (X' : fx_X) : Prop :=
  (if (y3).toInt < ((X.1 113 3)).toInt then ((if (y3).toInt < 1024 then ((0 ≤ (y3).toInt ∧ (y3).toInt < ((1024 : Nat) : Int)) ∧ (0 ≤ (y3).toInt ∧ (y3).toInt < ((1024 : Nat) : Int)) ∧ (if (((X.1 114 (y3).toInt.toNat) &&& p1)).toInt = ((X.1 114 (y3).toInt.toNat)).toInt then (X' = X) else (∃ x14 : Int32, x14 = y3 + Int32.ofInt 1 ∧ P 4 [y2, x14] [] [] X v X'))) else (P 47 [y2, (Int32.ofInt 0)] [] [] X v X'))) else (P 47 [y2, (Int32.ofInt 0)] [] [] X v X'))
def gxT_168_47 (p1 : Int32) (P : Nat → List Int32 → List Int64 → List Nat → fx_X → Unit → fx_X → Prop) (y2 : Int32) (y3 : Int32) (X : fx_X) (v : Unit) (X' : fx_X) : Prop :=
  (if (y3).toInt < ((X.1 113 3)).toInt then ((if (y3).toInt < 1024 then ((0 ≤ (y3).toInt ∧ (y3).toInt < ((1024 : Nat) : Int)) ∧ (if (((X.1 114 (y3).toInt.toNat) &&& p1)).toInt = (p1).toInt then (∃ x34 : Int32, x34 = y3 + Int32.ofInt 1 ∧ P 47 [y2, x34] [] [] X v X') else ((0 ≤ (y3).toInt ∧ (y3).toInt < ((1024 : Nat) : Int)) ∧ (0 ≤ (y2).toInt ∧ (y2).toInt < ((1024 : Nat) : Int)) ∧ ∃ X40 : fx_X, X40 = (fx_wI X 114 (y2).toInt.toNat (X.1 114 (y3).toInt.toNat)) ∧ ∃ x41 : Int32, x41 = y2 + Int32.ofInt 1 ∧ ∃ x43 : Int32, x43 = y3 + Int32.ofInt 1 ∧ P 47 [x41, x43] [] [] X40 v X'))) else ((if (y2).toInt < 1024 then ((0 ≤ (y2).toInt ∧ (y2).toInt < ((1024 : Nat) : Int)) ∧ ∃ X29 : fx_X, X29 = (fx_wI X 114 (y2).toInt.toNat p1) ∧ ∃ X30 : fx_X, X30 = (fx_wI X29 113 3 (y2 + (Int32.ofInt 1))) ∧ X' = X30) else (X' = X))))) else ((if (y2).toInt < 1024 then ((0 ≤ (y2).toInt ∧ (y2).toInt < ((1024 : Nat) : Int)) ∧ ∃ X21 : fx_X, X21 = (fx_wI X 114 (y2).toInt.toNat p1) ∧ ∃ X22 : fx_X, X22 = (fx_wI X21 113 3 (y2 + (Int32.ofInt 1))) ∧ X' = X22) else (X' = X))))
def gxE_168 (p1 : Int32) (P : Nat → List Int32 → List Int64 → List Nat → fx_X → Unit → fx_X → Prop) (X : fx_X) (v : Unit) (X' : fx_X) : Prop :=
  P 4 [(Int32.ofInt 0), (Int32.ofInt 0)] [] [] X v X'
noncomputable def gxF_168 (p1 : Int32) (n : Nat) : Nat → List Int32 → List Int64 → List Nat → fx_X → Unit → fx_X → Prop := Nat.rec (motive := fun _ => Nat → List Int32 → List Int64 → List Nat → fx_X → Unit → fx_X → Prop) (fun _ _ _ _ _ _ _ => False) (fun _ P l is ls rs X v X' => (l = 4 ∧ ∃ (y2 : Int32) (y3 : Int32), is = [y2, y3] ∧ ls = [] ∧ rs = [] ∧ gxT_168_4 p1 P y2 y3 X v X') ∨ (l = 47 ∧ ∃ (y2 : Int32) (y3 : Int32), is = [y2, y3] ∧ ls = [] ∧ rs = [] ∧ gxT_168_47 p1 P y2 y3 X v X')) n
theorem gxI_168_4 {p1 : Int32} {n : Nat} {y2 : Int32} {y3 : Int32} {X : fx_X} {v : Unit} {X' : fx_X} (h : gxT_168_4 p1 (gxF_168 p1 n) y2 y3 X v X') : gxF_168 p1 (n + 1) 4 [y2, y3] [] [] X v X' := Or.inl ⟨rfl, y2, y3, rfl, rfl, rfl, h⟩
theorem gxO_168_4 {p1 : Int32} {n : Nat} {y2 : Int32} {y3 : Int32} {X : fx_X} {v : Unit} {X' : fx_X} (h : gxF_168 p1 (n + 1) 4 [y2, y3] [] [] X v X') : gxT_168_4 p1 (gxF_168 p1 n) y2 y3 X v X' := by
  rcases h with ⟨-, _, _, e1, e2, e3, h⟩ | ⟨e, -⟩
  · cases e1; cases e2; cases e3; exact h
  · exact absurd e (by decide)
theorem gxI_168_47 {p1 : Int32} {n : Nat} {y2 : Int32} {y3 : Int32} {X : fx_X} {v : Unit} {X' : fx_X} (h : gxT_168_47 p1 (gxF_168 p1 n) y2 y3 X v X') : gxF_168 p1 (n + 1) 47 [y2, y3] [] [] X v X' := Or.inr (⟨rfl, y2, y3, rfl, rfl, rfl, h⟩)
theorem gxO_168_47 {p1 : Int32} {n : Nat} {y2 : Int32} {y3 : Int32} {X : fx_X} {v : Unit} {X' : fx_X} (h : gxF_168 p1 (n + 1) 47 [y2, y3] [] [] X v X') : gxT_168_47 p1 (gxF_168 p1 n) y2 y3 X v X' := by
  rcases h with ⟨e, -⟩ | ⟨-, _, _, e1, e2, e3, h⟩
  · exact absurd e (by decide)
  · cases e1; cases e2; cases e3; exact h
def gx_168 (p1 : Int32) (X : fx_X) (v : Unit) (X' : fx_X) : Prop := ∃ n : Nat, gxE_168 p1 (gxF_168 p1 n) X v X'
theorem gxL_168 {tb : aj_T} (p1 : Int32) : ∀ N : Nat, (∀ (lv : aj_V) (y2 : Int32) (y3 : Int32) (X : fx_X), aj_lv lv 0 = some (.ref 113) → aj_lv lv 1 = some (.int p1) → aj_lv lv 2 = some (.int y2) → aj_lv lv 3 = some (.int y3) → fx_W tb aj_m168 N 4 lv [] X (fx_Q fx_qN (fun v X' => ∃ n : Nat, gxF_168 p1 n 4 [y2, y3] [] [] X v X'))) ∧ (∀ (lv : aj_V) (y2 : Int32) (y3 : Int32) (X : fx_X), aj_lv lv 0 = some (.ref 113) → aj_lv lv 1 = some (.int p1) → aj_lv lv 2 = some (.int y2) → aj_lv lv 3 = some (.int y3) → fx_W tb aj_m168 N 47 lv [] X (fx_Q fx_qN (fun v X' => ∃ n : Nat, gxF_168 p1 n 47 [y2, y3] [] [] X v X'))) := by
  intro N
  induction N with
  | zero => exact ⟨(by intros; exact fx_z), (by intros; exact fx_z)⟩
  | succ N ih =>
    refine ⟨?_, ?_⟩
    · intro lv y2 y3 X hlv_0 hlv_1 hlv_2 hlv_3
      refine fx_mono (Q := fx_Q fx_qN (fun v X' => ∃ n : Nat, gxT_168_4 p1 (gxF_168 p1 n) y2 y3 X v X')) (fun r X' ⟨v, e, n, z⟩ => ⟨v, e, n + 1, gxI_168_4 z⟩) ?_
      unfold gxT_168_4
      refine fx_i0 aj_d168 rfl (Nat.le_refl _) (fun _ => rfl) hlv_3 ?_
      refine fx_i2 aj_d168 rfl (Nat.le_succ _) (fun _ => rfl) hlv_0 ?_
      refine fx_gI aj_d168 rfl (Nat.le_succ _) rfl rfl (Or.inl rfl) ?_
      refine fx_b (tgt := 45) aj_d168 rfl (Nat.le_succ _) rfl (fun q4 => ?_) (fun q4 => ?_)
      · skip
        refine fx_qe (c := (y3).toInt < ((X.1 113 3)).toInt) (fx_t_ge q4) ?_
        show fx_W _ _ _ 45 lv [] _ _
        refine fx_n (pc' := 46) (lv' := lv) (st' := [.int (Int32.ofInt 0)]) aj_d168 rfl (Nat.le_succ _) (fun _ => rfl) ?_
        refine fx_s0 (j := 3) aj_d168 rfl (Nat.le_succ _) (by decide) (fun _ => rfl) ?_
        obtain ⟨lv5, elv5⟩ : ∃ l, l = aj_set1 lv 3 (.int (Int32.ofInt 0)) := ⟨_, rfl⟩
        rw [← elv5]
        have hlv5_0 : aj_lv lv5 0 = some (.ref 113) := fx_e1 elv5 hlv_0 (by decide) (Or.inl (by decide))
        have hlv5_1 : aj_lv lv5 1 = some (.int p1) := fx_e1 elv5 hlv_1 (by decide) (Or.inl (by decide))
        have hlv5_2 : aj_lv lv5 2 = some (.int y2) := fx_e1 elv5 hlv_2 (by decide) (Or.inr rfl)
        have hlv5_3 : aj_lv lv5 3 = some (.int (Int32.ofInt 0)) := by rw [elv5]; exact ak_set1_eq _ _ _
        show fx_W _ _ _ 47 lv5 [] _ _
        exact (ih.2) lv5 (y2) ((Int32.ofInt 0)) X  hlv5_0 hlv5_1 hlv5_2 hlv5_3
      · skip
        refine fx_qi (c := (y3).toInt < ((X.1 113 3)).toInt) (fx_f_ge q4) ?_
        show fx_W _ _ _ 12 lv [] _ _
        refine fx_i0 aj_d168 rfl (Nat.le_succ _) (fun _ => rfl) hlv_3 ?_
        refine fx_i2 aj_d168 rfl (Nat.le_succ _) (fun _ => rfl) hlv_0 ?_
        refine fx_gF aj_d168 rfl (Nat.le_succ _) rfl rfl fx_in_5_2 (t := 114) rfl (fun hA6 => ?_)
        refine fx_al aj_d168 rfl (Nat.le_succ _) ?_
        rw [(hA6 : X.2.2.2.1 114 = (0, 1024))]
        show fx_W _ _ _ 18 lv [.int (Int32.ofNat 1024), .int y3] _ _
        refine fx_b (tgt := 45) aj_d168 rfl (Nat.le_succ _) rfl (fun q7 => ?_) (fun q7 => ?_)
        · skip
          refine fx_qe (c := (y3).toInt < 1024) (fx_t_ge q7) ?_
          show fx_W _ _ _ 45 lv [] _ _
          refine fx_n (pc' := 46) (lv' := lv) (st' := [.int (Int32.ofInt 0)]) aj_d168 rfl (Nat.le_succ _) (fun _ => rfl) ?_
          refine fx_s0 (j := 3) aj_d168 rfl (Nat.le_succ _) (by decide) (fun _ => rfl) ?_
          obtain ⟨lv8, elv8⟩ : ∃ l, l = aj_set1 lv 3 (.int (Int32.ofInt 0)) := ⟨_, rfl⟩
          rw [← elv8]
          have hlv8_0 : aj_lv lv8 0 = some (.ref 113) := fx_e1 elv8 hlv_0 (by decide) (Or.inl (by decide))
          have hlv8_1 : aj_lv lv8 1 = some (.int p1) := fx_e1 elv8 hlv_1 (by decide) (Or.inl (by decide))
          have hlv8_2 : aj_lv lv8 2 = some (.int y2) := fx_e1 elv8 hlv_2 (by decide) (Or.inr rfl)
          have hlv8_3 : aj_lv lv8 3 = some (.int (Int32.ofInt 0)) := by rw [elv8]; exact ak_set1_eq _ _ _
          show fx_W _ _ _ 47 lv8 [] _ _
          exact (ih.2) lv8 (y2) ((Int32.ofInt 0)) X  hlv8_0 hlv8_1 hlv8_2 hlv8_3
        · skip
          refine fx_qi (c := (y3).toInt < 1024) (fx_f_ge q7) ?_
          show fx_W _ _ _ 21 lv [] _ _
          refine fx_i2 aj_d168 rfl (Nat.le_succ _) (fun _ => rfl) hlv_0 ?_
          refine fx_gF aj_d168 rfl (Nat.le_succ _) rfl rfl fx_in_5_2 (t := 114) rfl (fun hA9 => ?_)
          refine fx_i0 aj_d168 rfl (Nat.le_succ _) (fun _ => rfl) hlv_3 ?_
          refine fx_ld aj_d168 (Or.inl rfl) rfl (Nat.le_succ _) (fun g100 g101 => ?_)
          show fx_W _ _ _ 27 lv [.int (X.1 114 (y3).toInt.toNat)] _ _
          refine fx_qa (c := 0 ≤ (y3).toInt ∧ (y3).toInt < ((1024 : Nat) : Int)) ⟨g100, fx_lnk g101 hA9⟩ ?_
          refine fx_i0 aj_d168 rfl (Nat.le_succ _) (fun _ => rfl) hlv_1 ?_
          refine fx_n (pc' := 29) (lv' := lv) (st' := [.int ((X.1 114 (y3).toInt.toNat) &&& p1)]) aj_d168 rfl (Nat.le_succ _) (fun _ => rfl) ?_
          refine fx_i2 aj_d168 rfl (Nat.le_succ _) (fun _ => rfl) hlv_0 ?_
          refine fx_gF aj_d168 rfl (Nat.le_succ _) rfl rfl fx_in_5_2 (t := 114) rfl (fun hA11 => ?_)
          refine fx_i0 aj_d168 rfl (Nat.le_succ _) (fun _ => rfl) hlv_3 ?_
          refine fx_ld aj_d168 (Or.inl rfl) rfl (Nat.le_succ _) (fun g120 g121 => ?_)
          show fx_W _ _ _ 35 lv [.int (X.1 114 (y3).toInt.toNat), .int ((X.1 114 (y3).toInt.toNat) &&& p1)] _ _
          refine fx_qa (c := 0 ≤ (y3).toInt ∧ (y3).toInt < ((1024 : Nat) : Int)) ⟨g120, fx_lnk g121 hA11⟩ ?_
          refine fx_b (tgt := 39) aj_d168 rfl (Nat.le_succ _) rfl (fun q13 => ?_) (fun q13 => ?_)
          · skip
            refine fx_qe (c := (((X.1 114 (y3).toInt.toNat) &&& p1)).toInt = ((X.1 114 (y3).toInt.toNat)).toInt) (fx_t_ne q13) ?_
            show fx_W _ _ _ 39 lv [] _ _
            refine fx_incq aj_d168 rfl (Nat.le_succ _) hlv_3 (by decide) (fun x14 ex14 => ?_)
            obtain ⟨lv15, elv15⟩ : ∃ l, l = aj_set1 lv 3 (.int x14) := ⟨_, rfl⟩
            rw [← elv15]
            have hlv15_0 : aj_lv lv15 0 = some (.ref 113) := fx_e1 elv15 hlv_0 (by decide) (Or.inl (by decide))
            have hlv15_1 : aj_lv lv15 1 = some (.int p1) := fx_e1 elv15 hlv_1 (by decide) (Or.inl (by decide))
            have hlv15_2 : aj_lv lv15 2 = some (.int y2) := fx_e1 elv15 hlv_2 (by decide) (Or.inr rfl)
            have hlv15_3 : aj_lv lv15 3 = some (.int x14) := by rw [elv15]; exact ak_set1_eq _ _ _
            show fx_W _ _ _ 42 lv15 [] _ _
            refine fx_n (pc' := 4) (lv' := lv15) (st' := []) aj_d168 rfl (Nat.le_succ _) (fun _ => rfl) ?_
            exact (ih.1) lv15 (y2) (x14) X  hlv15_0 hlv15_1 hlv15_2 hlv15_3
          · skip
            refine fx_qi (c := (((X.1 114 (y3).toInt.toNat) &&& p1)).toInt = ((X.1 114 (y3).toInt.toNat)).toInt) (fx_f_ne q13) ?_
            show fx_W _ _ _ 38 lv [] _ _
            exact fx_rn aj_d168 rfl ⟨(), rfl, 0, rfl⟩
    · intro lv y2 y3 X hlv_0 hlv_1 hlv_2 hlv_3
      refine fx_mono (Q := fx_Q fx_qN (fun v X' => ∃ n : Nat, gxT_168_47 p1 (gxF_168 p1 n) y2 y3 X v X')) (fun r X' ⟨v, e, n, z⟩ => ⟨v, e, n + 1, gxI_168_47 z⟩) ?_
      unfold gxT_168_47
      refine fx_i0 aj_d168 rfl (Nat.le_refl _) (fun _ => rfl) hlv_3 ?_
      refine fx_i2 aj_d168 rfl (Nat.le_succ _) (fun _ => rfl) hlv_0 ?_
      refine fx_gI aj_d168 rfl (Nat.le_succ _) rfl rfl (Or.inl rfl) ?_
      refine fx_b (tgt := 97) aj_d168 rfl (Nat.le_succ _) rfl (fun q16 => ?_) (fun q16 => ?_)
      · skip
        refine fx_qe (c := (y3).toInt < ((X.1 113 3)).toInt) (fx_t_ge q16) ?_
        show fx_W _ _ _ 97 lv [] _ _
        refine fx_i0 aj_d168 rfl (Nat.le_succ _) (fun _ => rfl) hlv_2 ?_
        refine fx_i2 aj_d168 rfl (Nat.le_succ _) (fun _ => rfl) hlv_0 ?_
        refine fx_gF aj_d168 rfl (Nat.le_succ _) rfl rfl fx_in_5_2 (t := 114) rfl (fun hA17 => ?_)
        refine fx_al aj_d168 rfl (Nat.le_succ _) ?_
        rw [(hA17 : X.2.2.2.1 114 = (0, 1024))]
        show fx_W _ _ _ 103 lv [.int (Int32.ofNat 1024), .int y2] _ _
        refine fx_b (tgt := 120) aj_d168 rfl (Nat.le_succ _) rfl (fun q18 => ?_) (fun q18 => ?_)
        · skip
          refine fx_qe (c := (y2).toInt < 1024) (fx_t_ge q18) ?_
          show fx_W _ _ _ 120 lv [] _ _
          exact fx_rn aj_d168 rfl ⟨(), rfl, 0, rfl⟩
        · skip
          refine fx_qi (c := (y2).toInt < 1024) (fx_f_ge q18) ?_
          show fx_W _ _ _ 106 lv [] _ _
          refine fx_i2 aj_d168 rfl (Nat.le_succ _) (fun _ => rfl) hlv_0 ?_
          refine fx_gF aj_d168 rfl (Nat.le_succ _) rfl rfl fx_in_5_2 (t := 114) rfl (fun hA19 => ?_)
          refine fx_i0 aj_d168 rfl (Nat.le_succ _) (fun _ => rfl) hlv_2 ?_
          refine fx_i0 aj_d168 rfl (Nat.le_succ _) (fun _ => rfl) hlv_1 ?_
          refine fx_st aj_d168 (Or.inl ⟨rfl, rfl⟩) rfl (Nat.le_succ _) (fun g200 g201 => ?_)
          show fx_W _ _ _ _ _ _ (fx_wI X 114 (y2).toInt.toNat p1) _
          refine fx_qa (c := 0 ≤ (y2).toInt ∧ (y2).toInt < ((1024 : Nat) : Int)) ⟨g200, fx_lnk g201 hA19⟩ ?_
          refine fx_qX (fun X21 eX21 => ?_)
          show fx_W _ _ _ 113 lv [] _ _
          refine fx_i2 aj_d168 rfl (Nat.le_succ _) (fun _ => rfl) hlv_0 ?_
          refine fx_i0 aj_d168 rfl (Nat.le_succ _) (fun _ => rfl) hlv_2 ?_
          refine fx_n (pc' := 116) (lv' := lv) (st' := [.int (Int32.ofInt 1), .int y2, .ref 113]) aj_d168 rfl (Nat.le_succ _) (fun _ => rfl) ?_
          refine fx_n (pc' := 117) (lv' := lv) (st' := [.int (y2 + (Int32.ofInt 1)), .ref 113]) aj_d168 rfl (Nat.le_succ _) (fun _ => rfl) ?_
          refine fx_pI aj_d168 rfl (Nat.le_succ _) rfl rfl (Or.inl rfl) fx_no_5_3 (by decide) ?_
          refine fx_qX (fun X22 eX22 => ?_)
          show fx_W _ _ _ 120 lv [] _ _
          exact fx_rn aj_d168 rfl ⟨(), rfl, 0, rfl⟩
      · skip
        refine fx_qi (c := (y3).toInt < ((X.1 113 3)).toInt) (fx_f_ge q16) ?_
        show fx_W _ _ _ 55 lv [] _ _
        refine fx_i0 aj_d168 rfl (Nat.le_succ _) (fun _ => rfl) hlv_3 ?_
        refine fx_i2 aj_d168 rfl (Nat.le_succ _) (fun _ => rfl) hlv_0 ?_
        refine fx_gF aj_d168 rfl (Nat.le_succ _) rfl rfl fx_in_5_2 (t := 114) rfl (fun hA23 => ?_)
        refine fx_al aj_d168 rfl (Nat.le_succ _) ?_
        rw [(hA23 : X.2.2.2.1 114 = (0, 1024))]
        show fx_W _ _ _ 61 lv [.int (Int32.ofNat 1024), .int y3] _ _
        refine fx_b (tgt := 97) aj_d168 rfl (Nat.le_succ _) rfl (fun q24 => ?_) (fun q24 => ?_)
        · skip
          refine fx_qe (c := (y3).toInt < 1024) (fx_t_ge q24) ?_
          show fx_W _ _ _ 97 lv [] _ _
          refine fx_i0 aj_d168 rfl (Nat.le_succ _) (fun _ => rfl) hlv_2 ?_
          refine fx_i2 aj_d168 rfl (Nat.le_succ _) (fun _ => rfl) hlv_0 ?_
          refine fx_gF aj_d168 rfl (Nat.le_succ _) rfl rfl fx_in_5_2 (t := 114) rfl (fun hA25 => ?_)
          refine fx_al aj_d168 rfl (Nat.le_succ _) ?_
          rw [(hA25 : X.2.2.2.1 114 = (0, 1024))]
          show fx_W _ _ _ 103 lv [.int (Int32.ofNat 1024), .int y2] _ _
          refine fx_b (tgt := 120) aj_d168 rfl (Nat.le_succ _) rfl (fun q26 => ?_) (fun q26 => ?_)
          · skip
            refine fx_qe (c := (y2).toInt < 1024) (fx_t_ge q26) ?_
            show fx_W _ _ _ 120 lv [] _ _
            exact fx_rn aj_d168 rfl ⟨(), rfl, 0, rfl⟩
          · skip
            refine fx_qi (c := (y2).toInt < 1024) (fx_f_ge q26) ?_
            show fx_W _ _ _ 106 lv [] _ _
            refine fx_i2 aj_d168 rfl (Nat.le_succ _) (fun _ => rfl) hlv_0 ?_
            refine fx_gF aj_d168 rfl (Nat.le_succ _) rfl rfl fx_in_5_2 (t := 114) rfl (fun hA27 => ?_)
            refine fx_i0 aj_d168 rfl (Nat.le_succ _) (fun _ => rfl) hlv_2 ?_
            refine fx_i0 aj_d168 rfl (Nat.le_succ _) (fun _ => rfl) hlv_1 ?_
            refine fx_st aj_d168 (Or.inl ⟨rfl, rfl⟩) rfl (Nat.le_succ _) (fun g280 g281 => ?_)
            show fx_W _ _ _ _ _ _ (fx_wI X 114 (y2).toInt.toNat p1) _
            refine fx_qa (c := 0 ≤ (y2).toInt ∧ (y2).toInt < ((1024 : Nat) : Int)) ⟨g280, fx_lnk g281 hA27⟩ ?_
            refine fx_qX (fun X29 eX29 => ?_)
            show fx_W _ _ _ 113 lv [] _ _
            refine fx_i2 aj_d168 rfl (Nat.le_succ _) (fun _ => rfl) hlv_0 ?_
            refine fx_i0 aj_d168 rfl (Nat.le_succ _) (fun _ => rfl) hlv_2 ?_
            refine fx_n (pc' := 116) (lv' := lv) (st' := [.int (Int32.ofInt 1), .int y2, .ref 113]) aj_d168 rfl (Nat.le_succ _) (fun _ => rfl) ?_
            refine fx_n (pc' := 117) (lv' := lv) (st' := [.int (y2 + (Int32.ofInt 1)), .ref 113]) aj_d168 rfl (Nat.le_succ _) (fun _ => rfl) ?_
            refine fx_pI aj_d168 rfl (Nat.le_succ _) rfl rfl (Or.inl rfl) fx_no_5_3 (by decide) ?_
            refine fx_qX (fun X30 eX30 => ?_)
            show fx_W _ _ _ 120 lv [] _ _
            exact fx_rn aj_d168 rfl ⟨(), rfl, 0, rfl⟩
        · skip
          refine fx_qi (c := (y3).toInt < 1024) (fx_f_ge q24) ?_
          show fx_W _ _ _ 64 lv [] _ _
          refine fx_i2 aj_d168 rfl (Nat.le_succ _) (fun _ => rfl) hlv_0 ?_
          refine fx_gF aj_d168 rfl (Nat.le_succ _) rfl rfl fx_in_5_2 (t := 114) rfl (fun hA31 => ?_)
          refine fx_i0 aj_d168 rfl (Nat.le_succ _) (fun _ => rfl) hlv_3 ?_
          refine fx_ld aj_d168 (Or.inl rfl) rfl (Nat.le_succ _) (fun g320 g321 => ?_)
          show fx_W _ _ _ 70 lv [.int (X.1 114 (y3).toInt.toNat)] _ _
          refine fx_qa (c := 0 ≤ (y3).toInt ∧ (y3).toInt < ((1024 : Nat) : Int)) ⟨g320, fx_lnk g321 hA31⟩ ?_
          refine fx_i0 aj_d168 rfl (Nat.le_succ _) (fun _ => rfl) hlv_1 ?_
          refine fx_n (pc' := 72) (lv' := lv) (st' := [.int ((X.1 114 (y3).toInt.toNat) &&& p1)]) aj_d168 rfl (Nat.le_succ _) (fun _ => rfl) ?_
          refine fx_i0 aj_d168 rfl (Nat.le_succ _) (fun _ => rfl) hlv_1 ?_
          refine fx_b (tgt := 91) aj_d168 rfl (Nat.le_succ _) rfl (fun q33 => ?_) (fun q33 => ?_)
          · skip
            refine fx_qi (c := (((X.1 114 (y3).toInt.toNat) &&& p1)).toInt = (p1).toInt) (fx_t_eq q33) ?_
            show fx_W _ _ _ 91 lv [] _ _
            refine fx_incq aj_d168 rfl (Nat.le_succ _) hlv_3 (by decide) (fun x34 ex34 => ?_)
            obtain ⟨lv35, elv35⟩ : ∃ l, l = aj_set1 lv 3 (.int x34) := ⟨_, rfl⟩
            rw [← elv35]
            have hlv35_0 : aj_lv lv35 0 = some (.ref 113) := fx_e1 elv35 hlv_0 (by decide) (Or.inl (by decide))
            have hlv35_1 : aj_lv lv35 1 = some (.int p1) := fx_e1 elv35 hlv_1 (by decide) (Or.inl (by decide))
            have hlv35_2 : aj_lv lv35 2 = some (.int y2) := fx_e1 elv35 hlv_2 (by decide) (Or.inr rfl)
            have hlv35_3 : aj_lv lv35 3 = some (.int x34) := by rw [elv35]; exact ak_set1_eq _ _ _
            show fx_W _ _ _ 94 lv35 [] _ _
            refine fx_n (pc' := 47) (lv' := lv35) (st' := []) aj_d168 rfl (Nat.le_succ _) (fun _ => rfl) ?_
            exact (ih.2) lv35 (y2) (x34) X  hlv35_0 hlv35_1 hlv35_2 hlv35_3
          · skip
            refine fx_qe (c := (((X.1 114 (y3).toInt.toNat) &&& p1)).toInt = (p1).toInt) (fx_f_eq q33) ?_
            show fx_W _ _ _ 76 lv [] _ _
            refine fx_i2 aj_d168 rfl (Nat.le_succ _) (fun _ => rfl) hlv_0 ?_
            refine fx_gF aj_d168 rfl (Nat.le_succ _) rfl rfl fx_in_5_2 (t := 114) rfl (fun hA36 => ?_)
            refine fx_i0 aj_d168 rfl (Nat.le_succ _) (fun _ => rfl) hlv_2 ?_
            refine fx_i2 aj_d168 rfl (Nat.le_succ _) (fun _ => rfl) hlv_0 ?_
            refine fx_gF aj_d168 rfl (Nat.le_succ _) rfl rfl fx_in_5_2 (t := 114) rfl (fun hA37 => ?_)
            refine fx_i0 aj_d168 rfl (Nat.le_succ _) (fun _ => rfl) hlv_3 ?_
            refine fx_ld aj_d168 (Or.inl rfl) rfl (Nat.le_succ _) (fun g380 g381 => ?_)
            show fx_W _ _ _ 87 lv [.int (X.1 114 (y3).toInt.toNat), .int y2, .ref 114] _ _
            refine fx_qa (c := 0 ≤ (y3).toInt ∧ (y3).toInt < ((1024 : Nat) : Int)) ⟨g380, fx_lnk g381 hA37⟩ ?_
            refine fx_st aj_d168 (Or.inl ⟨rfl, rfl⟩) rfl (Nat.le_succ _) (fun g390 g391 => ?_)
            show fx_W _ _ _ _ _ _ (fx_wI X 114 (y2).toInt.toNat (X.1 114 (y3).toInt.toNat)) _
            refine fx_qa (c := 0 ≤ (y2).toInt ∧ (y2).toInt < ((1024 : Nat) : Int)) ⟨g390, fx_lnk g391 hA36⟩ ?_
            refine fx_qX (fun X40 eX40 => ?_)
            show fx_W _ _ _ 88 lv [] _ _
            refine fx_incq aj_d168 rfl (Nat.le_succ _) hlv_2 (by decide) (fun x41 ex41 => ?_)
            obtain ⟨lv42, elv42⟩ : ∃ l, l = aj_set1 lv 2 (.int x41) := ⟨_, rfl⟩
            rw [← elv42]
            have hlv42_0 : aj_lv lv42 0 = some (.ref 113) := fx_e1 elv42 hlv_0 (by decide) (Or.inl (by decide))
            have hlv42_1 : aj_lv lv42 1 = some (.int p1) := fx_e1 elv42 hlv_1 (by decide) (Or.inr rfl)
            have hlv42_3 : aj_lv lv42 3 = some (.int y3) := fx_e1 elv42 hlv_3 (by decide) (Or.inl (by decide))
            have hlv42_2 : aj_lv lv42 2 = some (.int x41) := by rw [elv42]; exact ak_set1_eq _ _ _
            show fx_W _ _ _ 91 lv42 [] _ _
            refine fx_incq aj_d168 rfl (Nat.le_succ _) hlv42_3 (by decide) (fun x43 ex43 => ?_)
            obtain ⟨lv44, elv44⟩ : ∃ l, l = aj_set1 lv42 3 (.int x43) := ⟨_, rfl⟩
            rw [← elv44]
            have hlv44_0 : aj_lv lv44 0 = some (.ref 113) := fx_e1 elv44 hlv42_0 (by decide) (Or.inl (by decide))
            have hlv44_1 : aj_lv lv44 1 = some (.int p1) := fx_e1 elv44 hlv42_1 (by decide) (Or.inl (by decide))
            have hlv44_2 : aj_lv lv44 2 = some (.int x41) := fx_e1 elv44 hlv42_2 (by decide) (Or.inr rfl)
            have hlv44_3 : aj_lv lv44 3 = some (.int x43) := by rw [elv44]; exact ak_set1_eq _ _ _
            show fx_W _ _ _ 94 lv44 [] _ _
            refine fx_n (pc' := 47) (lv' := lv44) (st' := []) aj_d168 rfl (Nat.le_succ _) (fun _ => rfl) ?_
            exact (ih.2) lv44 (x41) (x43) X40  hlv44_0 hlv44_1 hlv44_2 hlv44_3
theorem gx_168_ok {tb : aj_T} (p1 : Int32) {X : fx_X} : fx_K tb 168 [.ref 113, .int p1] X (fx_Q fx_qN (fun v X' => gx_168 p1 X v X')) := by
  refine fx_m aj_m168_at rfl (fun N => ?_)
  refine fx_mono (Q := fx_Q fx_qN (fun v X' => ∃ n : Nat, gxE_168 p1 (gxF_168 p1 n) X v X')) (fun r X' h => h) ?_
  unfold gxE_168
  show fx_W _ _ _ 0 [(0, .ref 113), (1, .int p1)] [] _ _
  obtain ⟨lv1, elv1⟩ : ∃ l : aj_V, l = [(0, .ref 113), (1, .int p1)] := ⟨_, rfl⟩
  rw [← elv1]
  have hlv1_0 : aj_lv lv1 0 = some (.ref 113) := by rw [elv1]; rfl
  have hlv1_1 : aj_lv lv1 1 = some (.int p1) := by rw [elv1]; rfl
  refine fx_n (pc' := 1) (lv' := lv1) (st' := [.int (Int32.ofInt 0)]) aj_d168 rfl (Nat.le_succ _) (fun _ => rfl) ?_
  refine fx_s0 (j := 2) aj_d168 rfl (Nat.le_succ _) (by decide) (fun _ => rfl) ?_
  obtain ⟨lv2, elv2⟩ : ∃ l, l = aj_set1 lv1 2 (.int (Int32.ofInt 0)) := ⟨_, rfl⟩
  rw [← elv2]
  have hlv2_0 : aj_lv lv2 0 = some (.ref 113) := fx_e1 elv2 hlv1_0 (by decide) (Or.inl (by decide))
  have hlv2_1 : aj_lv lv2 1 = some (.int p1) := fx_e1 elv2 hlv1_1 (by decide) (Or.inr rfl)
  have hlv2_2 : aj_lv lv2 2 = some (.int (Int32.ofInt 0)) := by rw [elv2]; exact ak_set1_eq _ _ _
  show fx_W _ _ _ 2 lv2 [] _ _
  refine fx_n (pc' := 3) (lv' := lv2) (st' := [.int (Int32.ofInt 0)]) aj_d168 rfl (Nat.le_succ _) (fun _ => rfl) ?_
  refine fx_s0 (j := 3) aj_d168 rfl (Nat.le_succ _) (by decide) (fun _ => rfl) ?_
  obtain ⟨lv3, elv3⟩ : ∃ l, l = aj_set1 lv2 3 (.int (Int32.ofInt 0)) := ⟨_, rfl⟩
  rw [← elv3]
  have hlv3_0 : aj_lv lv3 0 = some (.ref 113) := fx_e1 elv3 hlv2_0 (by decide) (Or.inl (by decide))
  have hlv3_1 : aj_lv lv3 1 = some (.int p1) := fx_e1 elv3 hlv2_1 (by decide) (Or.inl (by decide))
  have hlv3_2 : aj_lv lv3 2 = some (.int (Int32.ofInt 0)) := fx_e1 elv3 hlv2_2 (by decide) (Or.inr rfl)
  have hlv3_3 : aj_lv lv3 3 = some (.int (Int32.ofInt 0)) := by rw [elv3]; exact ak_set1_eq _ _ _
  show fx_W _ _ _ 4 lv3 [] _ _
  exact ((gxL_168 p1 N).1) lv3 ((Int32.ofInt 0)) ((Int32.ofInt 0)) X  hlv3_0 hlv3_1 hlv3_2 hlv3_3
def gx_170 (p0 : Int32) (X : fx_X) (v : Int32) (X' : fx_X) : Prop :=
  ∃ x2 : Int32, x2 = (p0 - ((((p0).toUInt32 >>> (((Int32.ofInt 1)).toUInt32 &&& Int32.toUInt32 31)).toInt32) &&& (Int32.ofInt 1431655765))) ∧ ∃ x4 : Int32, x4 = ((x2 &&& (Int32.ofInt 858993459)) + ((((x2).toUInt32 >>> (((Int32.ofInt 2)).toUInt32 &&& Int32.toUInt32 31)).toInt32) &&& (Int32.ofInt 858993459))) ∧ ∃ x6 : Int32, x6 = ((x4 + (((x4).toUInt32 >>> (((Int32.ofInt 4)).toUInt32 &&& Int32.toUInt32 31)).toInt32)) &&& (Int32.ofInt 252645135)) ∧ ∃ x8 : Int32, x8 = (x6 + (((x6).toUInt32 >>> ((((Int8.ofInt 8).toInt32)).toUInt32 &&& Int32.toUInt32 31)).toInt32)) ∧ ∃ x10 : Int32, x10 = (x8 + (((x8).toUInt32 >>> ((((Int8.ofInt 16).toInt32)).toUInt32 &&& Int32.toUInt32 31)).toInt32)) ∧ v = (x10 &&& ((Int8.ofInt 63).toInt32)) ∧ X' = X
theorem gx_170_ok {tb : aj_T} (p0 : Int32) {X : fx_X} : fx_K tb 170 [.int p0] X (fx_Q fx_qI (fun v X' => gx_170 p0 X v X')) := by
  refine fx_m aj_m170_at rfl (fun N => ?_)
  refine fx_mono (Q := fx_Q fx_qI (fun v X' => ∃ n : Nat, gx_170 p0 X v X')) (fun r X' ⟨v, e, _, z⟩ => ⟨v, e, z⟩) ?_
  unfold gx_170
  show fx_W _ _ _ 0 [(0, .int p0)] [] _ _
  obtain ⟨lv1, elv1⟩ : ∃ l : aj_V, l = [(0, .int p0)] := ⟨_, rfl⟩
  rw [← elv1]
  have hlv1_0 : aj_lv lv1 0 = some (.int p0) := by rw [elv1]; rfl
  refine fx_i0 aj_d170 rfl (Nat.le_succ _) (fun _ => rfl) hlv1_0 ?_
  refine fx_i0 aj_d170 rfl (Nat.le_succ _) (fun _ => rfl) hlv1_0 ?_
  refine fx_n (pc' := 3) (lv' := lv1) (st' := [.int (Int32.ofInt 1), .int p0, .int p0]) aj_d170 rfl (Nat.le_succ _) (fun _ => rfl) ?_
  refine fx_n (pc' := 4) (lv' := lv1) (st' := [.int (((p0).toUInt32 >>> (((Int32.ofInt 1)).toUInt32 &&& Int32.toUInt32 31)).toInt32), .int p0]) aj_d170 rfl (Nat.le_succ _) (fun _ => rfl) ?_
  refine fx_n (pc' := 7) (lv' := lv1) (st' := [.int (Int32.ofInt 1431655765), .int (((p0).toUInt32 >>> (((Int32.ofInt 1)).toUInt32 &&& Int32.toUInt32 31)).toInt32), .int p0]) aj_d170 rfl (Nat.le_succ _) (fun _ => rfl) ?_
  refine fx_n (pc' := 8) (lv' := lv1) (st' := [.int ((((p0).toUInt32 >>> (((Int32.ofInt 1)).toUInt32 &&& Int32.toUInt32 31)).toInt32) &&& (Int32.ofInt 1431655765)), .int p0]) aj_d170 rfl (Nat.le_succ _) (fun _ => rfl) ?_
  refine fx_n (pc' := 9) (lv' := lv1) (st' := [.int (p0 - ((((p0).toUInt32 >>> (((Int32.ofInt 1)).toUInt32 &&& Int32.toUInt32 31)).toInt32) &&& (Int32.ofInt 1431655765)))]) aj_d170 rfl (Nat.le_succ _) (fun _ => rfl) ?_
  refine fx_qxI (fun x2 ex2 => ?_)
  refine fx_s0 (j := 0) aj_d170 rfl (Nat.le_succ _) (by decide) (fun _ => rfl) ?_
  obtain ⟨lv3, elv3⟩ : ∃ l, l = aj_set1 lv1 0 (.int x2) := ⟨_, rfl⟩
  rw [← elv3]
  have hlv3_0 : aj_lv lv3 0 = some (.int x2) := by rw [elv3]; exact ak_set1_eq _ _ _
  show fx_W _ _ _ 10 lv3 [] _ _
  refine fx_i0 aj_d170 rfl (Nat.le_succ _) (fun _ => rfl) hlv3_0 ?_
  refine fx_n (pc' := 14) (lv' := lv3) (st' := [.int (Int32.ofInt 858993459), .int x2]) aj_d170 rfl (Nat.le_succ _) (fun _ => rfl) ?_
  refine fx_n (pc' := 15) (lv' := lv3) (st' := [.int (x2 &&& (Int32.ofInt 858993459))]) aj_d170 rfl (Nat.le_succ _) (fun _ => rfl) ?_
  refine fx_i0 aj_d170 rfl (Nat.le_succ _) (fun _ => rfl) hlv3_0 ?_
  refine fx_n (pc' := 17) (lv' := lv3) (st' := [.int (Int32.ofInt 2), .int x2, .int (x2 &&& (Int32.ofInt 858993459))]) aj_d170 rfl (Nat.le_succ _) (fun _ => rfl) ?_
  refine fx_n (pc' := 18) (lv' := lv3) (st' := [.int (((x2).toUInt32 >>> (((Int32.ofInt 2)).toUInt32 &&& Int32.toUInt32 31)).toInt32), .int (x2 &&& (Int32.ofInt 858993459))]) aj_d170 rfl (Nat.le_succ _) (fun _ => rfl) ?_
  refine fx_n (pc' := 21) (lv' := lv3) (st' := [.int (Int32.ofInt 858993459), .int (((x2).toUInt32 >>> (((Int32.ofInt 2)).toUInt32 &&& Int32.toUInt32 31)).toInt32), .int (x2 &&& (Int32.ofInt 858993459))]) aj_d170 rfl (Nat.le_succ _) (fun _ => rfl) ?_
  refine fx_n (pc' := 22) (lv' := lv3) (st' := [.int ((((x2).toUInt32 >>> (((Int32.ofInt 2)).toUInt32 &&& Int32.toUInt32 31)).toInt32) &&& (Int32.ofInt 858993459)), .int (x2 &&& (Int32.ofInt 858993459))]) aj_d170 rfl (Nat.le_succ _) (fun _ => rfl) ?_
  refine fx_n (pc' := 23) (lv' := lv3) (st' := [.int ((x2 &&& (Int32.ofInt 858993459)) + ((((x2).toUInt32 >>> (((Int32.ofInt 2)).toUInt32 &&& Int32.toUInt32 31)).toInt32) &&& (Int32.ofInt 858993459)))]) aj_d170 rfl (Nat.le_succ _) (fun _ => rfl) ?_
  refine fx_qxI (fun x4 ex4 => ?_)
  refine fx_s0 (j := 0) aj_d170 rfl (Nat.le_succ _) (by decide) (fun _ => rfl) ?_
  obtain ⟨lv5, elv5⟩ : ∃ l, l = aj_set1 lv3 0 (.int x4) := ⟨_, rfl⟩
  rw [← elv5]
  have hlv5_0 : aj_lv lv5 0 = some (.int x4) := by rw [elv5]; exact ak_set1_eq _ _ _
  show fx_W _ _ _ 24 lv5 [] _ _
  refine fx_i0 aj_d170 rfl (Nat.le_succ _) (fun _ => rfl) hlv5_0 ?_
  refine fx_i0 aj_d170 rfl (Nat.le_succ _) (fun _ => rfl) hlv5_0 ?_
  refine fx_n (pc' := 27) (lv' := lv5) (st' := [.int (Int32.ofInt 4), .int x4, .int x4]) aj_d170 rfl (Nat.le_succ _) (fun _ => rfl) ?_
  refine fx_n (pc' := 28) (lv' := lv5) (st' := [.int (((x4).toUInt32 >>> (((Int32.ofInt 4)).toUInt32 &&& Int32.toUInt32 31)).toInt32), .int x4]) aj_d170 rfl (Nat.le_succ _) (fun _ => rfl) ?_
  refine fx_n (pc' := 29) (lv' := lv5) (st' := [.int (x4 + (((x4).toUInt32 >>> (((Int32.ofInt 4)).toUInt32 &&& Int32.toUInt32 31)).toInt32))]) aj_d170 rfl (Nat.le_succ _) (fun _ => rfl) ?_
  refine fx_n (pc' := 32) (lv' := lv5) (st' := [.int (Int32.ofInt 252645135), .int (x4 + (((x4).toUInt32 >>> (((Int32.ofInt 4)).toUInt32 &&& Int32.toUInt32 31)).toInt32))]) aj_d170 rfl (Nat.le_succ _) (fun _ => rfl) ?_
  refine fx_n (pc' := 33) (lv' := lv5) (st' := [.int ((x4 + (((x4).toUInt32 >>> (((Int32.ofInt 4)).toUInt32 &&& Int32.toUInt32 31)).toInt32)) &&& (Int32.ofInt 252645135))]) aj_d170 rfl (Nat.le_succ _) (fun _ => rfl) ?_
  refine fx_qxI (fun x6 ex6 => ?_)
  refine fx_s0 (j := 0) aj_d170 rfl (Nat.le_succ _) (by decide) (fun _ => rfl) ?_
  obtain ⟨lv7, elv7⟩ : ∃ l, l = aj_set1 lv5 0 (.int x6) := ⟨_, rfl⟩
  rw [← elv7]
  have hlv7_0 : aj_lv lv7 0 = some (.int x6) := by rw [elv7]; exact ak_set1_eq _ _ _
  show fx_W _ _ _ 34 lv7 [] _ _
  refine fx_i0 aj_d170 rfl (Nat.le_succ _) (fun _ => rfl) hlv7_0 ?_
  refine fx_i0 aj_d170 rfl (Nat.le_succ _) (fun _ => rfl) hlv7_0 ?_
  refine fx_n (pc' := 38) (lv' := lv7) (st' := [.int ((Int8.ofInt 8).toInt32), .int x6, .int x6]) aj_d170 rfl (Nat.le_succ _) (fun _ => rfl) ?_
  refine fx_n (pc' := 39) (lv' := lv7) (st' := [.int (((x6).toUInt32 >>> ((((Int8.ofInt 8).toInt32)).toUInt32 &&& Int32.toUInt32 31)).toInt32), .int x6]) aj_d170 rfl (Nat.le_succ _) (fun _ => rfl) ?_
  refine fx_n (pc' := 40) (lv' := lv7) (st' := [.int (x6 + (((x6).toUInt32 >>> ((((Int8.ofInt 8).toInt32)).toUInt32 &&& Int32.toUInt32 31)).toInt32))]) aj_d170 rfl (Nat.le_succ _) (fun _ => rfl) ?_
  refine fx_qxI (fun x8 ex8 => ?_)
  refine fx_s0 (j := 0) aj_d170 rfl (Nat.le_succ _) (by decide) (fun _ => rfl) ?_
  obtain ⟨lv9, elv9⟩ : ∃ l, l = aj_set1 lv7 0 (.int x8) := ⟨_, rfl⟩
  rw [← elv9]
  have hlv9_0 : aj_lv lv9 0 = some (.int x8) := by rw [elv9]; exact ak_set1_eq _ _ _
  show fx_W _ _ _ 41 lv9 [] _ _
  refine fx_i0 aj_d170 rfl (Nat.le_succ _) (fun _ => rfl) hlv9_0 ?_
  refine fx_i0 aj_d170 rfl (Nat.le_succ _) (fun _ => rfl) hlv9_0 ?_
  refine fx_n (pc' := 45) (lv' := lv9) (st' := [.int ((Int8.ofInt 16).toInt32), .int x8, .int x8]) aj_d170 rfl (Nat.le_succ _) (fun _ => rfl) ?_
  refine fx_n (pc' := 46) (lv' := lv9) (st' := [.int (((x8).toUInt32 >>> ((((Int8.ofInt 16).toInt32)).toUInt32 &&& Int32.toUInt32 31)).toInt32), .int x8]) aj_d170 rfl (Nat.le_succ _) (fun _ => rfl) ?_
  refine fx_n (pc' := 47) (lv' := lv9) (st' := [.int (x8 + (((x8).toUInt32 >>> ((((Int8.ofInt 16).toInt32)).toUInt32 &&& Int32.toUInt32 31)).toInt32))]) aj_d170 rfl (Nat.le_succ _) (fun _ => rfl) ?_
  refine fx_qxI (fun x10 ex10 => ?_)
  refine fx_s0 (j := 0) aj_d170 rfl (Nat.le_succ _) (by decide) (fun _ => rfl) ?_
  obtain ⟨lv11, elv11⟩ : ∃ l, l = aj_set1 lv9 0 (.int x10) := ⟨_, rfl⟩
  rw [← elv11]
  have hlv11_0 : aj_lv lv11 0 = some (.int x10) := by rw [elv11]; exact ak_set1_eq _ _ _
  show fx_W _ _ _ 48 lv11 [] _ _
  refine fx_i0 aj_d170 rfl (Nat.le_succ _) (fun _ => rfl) hlv11_0 ?_
  refine fx_n (pc' := 51) (lv' := lv11) (st' := [.int ((Int8.ofInt 63).toInt32), .int x10]) aj_d170 rfl (Nat.le_succ _) (fun _ => rfl) ?_
  refine fx_n (pc' := 52) (lv' := lv11) (st' := [.int (x10 &&& ((Int8.ofInt 63).toInt32))]) aj_d170 rfl (Nat.le_succ _) (fun _ => rfl) ?_
  exact fx_ri aj_d170 rfl ⟨_, rfl, 0, rfl, rfl⟩
def gx_172 (p1 : Int32) (p2 : Int32) (X : fx_X) (v : Int32) (X' : fx_X) : Prop :=
  ∃ b3 : Nat, X.2.2.1 52 3 = some b3 ∧ ∃ (w5 : Int32) (X4 : fx_X), gx_158 b3 p1 X w5 X4 ∧ (if (w5).toInt < 0 then (v = (Int32.ofInt (-100000)) ∧ X' = X4) else ((if (p2).toInt < 0 then (v = (Int32.ofInt (-100000)) ∧ X' = X4) else (∃ b10 : Nat, X4.2.2.1 52 3 = some b10 ∧ (if (p2).toInt < ((X4.1 b10 11)).toInt then (∃ b13 : Nat, X4.2.2.1 52 3 = some b13 ∧ ∃ (w15 : Int32) (X14 : fx_X), gx_124 b13 w5 p2 X4 w15 X14 ∧ v = w15 ∧ X' = X14) else (v = (Int32.ofInt (-100000)) ∧ X' = X4))))))
theorem gx_172_ok {tb : aj_T} (p1 : Int32) (p2 : Int32) {X : fx_X} : fx_K tb 172 [.ref 52, .int p1, .int p2] X (fx_Q fx_qI (fun v X' => gx_172 p1 p2 X v X')) := by
  refine fx_m aj_m172_at rfl (fun N => ?_)
  refine fx_mono (Q := fx_Q fx_qI (fun v X' => ∃ n : Nat, gx_172 p1 p2 X v X')) (fun r X' ⟨v, e, _, z⟩ => ⟨v, e, z⟩) ?_
  unfold gx_172
  show fx_W _ _ _ 0 [(0, .ref 52), (1, .int p1), (2, .int p2)] [] _ _
  obtain ⟨lv1, elv1⟩ : ∃ l : aj_V, l = [(0, .ref 52), (1, .int p1), (2, .int p2)] := ⟨_, rfl⟩
  rw [← elv1]
  have hlv1_0 : aj_lv lv1 0 = some (.ref 52) := by rw [elv1]; rfl
  have hlv1_1 : aj_lv lv1 1 = some (.int p1) := by rw [elv1]; rfl
  have hlv1_2 : aj_lv lv1 2 = some (.int p2) := by rw [elv1]; rfl
  refine fx_i2 aj_d172 rfl (Nat.le_succ _) (fun _ => rfl) hlv1_0 ?_
  refine fx_gR aj_d172 rfl (Nat.le_succ _) rfl rfl (Or.inl ⟨_, rfl⟩) (fun _ z => absurd (by decide) z) (fun b3 q2 => ?_)
  show fx_W _ _ _ 4 lv1 [.ref b3] _ _
  refine fx_qs q2 ?_
  refine fx_i0 aj_d172 rfl (Nat.le_succ _) (fun _ => rfl) hlv1_1 ?_
  refine fx_cv aj_d172 rfl (Nat.le_succ _) rfl [_] rfl rfl (gx_158_ok b3 p1) ?_
  rintro _ X4 ⟨w5, rfl, hR4⟩ hok4 hle4
  refine fx_qc hR4 ?_
  show fx_W _ _ _ 8 lv1 [.int w5] _ _
  refine fx_s0 (j := 3) aj_d172 rfl (Nat.le_succ _) (by decide) (fun _ => rfl) ?_
  obtain ⟨lv6, elv6⟩ : ∃ l, l = aj_set1 lv1 3 (.int w5) := ⟨_, rfl⟩
  rw [← elv6]
  have hlv6_0 : aj_lv lv6 0 = some (.ref 52) := fx_e1 elv6 hlv1_0 (by decide) (Or.inl (by decide))
  have hlv6_2 : aj_lv lv6 2 = some (.int p2) := fx_e1 elv6 hlv1_2 (by decide) (Or.inr rfl)
  have hlv6_3 : aj_lv lv6 3 = some (.int w5) := by rw [elv6]; exact ak_set1_eq _ _ _
  show fx_W _ _ _ 9 lv6 [] _ _
  refine fx_i0 aj_d172 rfl (Nat.le_succ _) (fun _ => rfl) hlv6_3 ?_
  refine fx_b0 (tgt := 28) aj_d172 rfl (Nat.le_succ _) rfl (fun q7 => ?_) (fun q7 => ?_)
  · skip
    refine fx_qi (c := (w5).toInt < 0) (fx_t_lt q7) ?_
    show fx_W _ _ _ 28 lv6 [] _ _
    refine fx_n (pc' := 30) (lv' := lv6) (st' := [.int (Int32.ofInt (-100000))]) aj_d172 rfl (Nat.le_succ _) (fun _ => rfl) ?_
    exact fx_ri aj_d172 rfl ⟨_, rfl, 0, rfl, rfl⟩
  · skip
    refine fx_qe (c := (w5).toInt < 0) (fx_f_lt q7) ?_
    show fx_W _ _ _ 13 lv6 [] _ _
    refine fx_i0 aj_d172 rfl (Nat.le_succ _) (fun _ => rfl) hlv6_2 ?_
    refine fx_b0 (tgt := 28) aj_d172 rfl (Nat.le_succ _) rfl (fun q8 => ?_) (fun q8 => ?_)
    · skip
      refine fx_qi (c := (p2).toInt < 0) (fx_t_lt q8) ?_
      show fx_W _ _ _ 28 lv6 [] _ _
      refine fx_n (pc' := 30) (lv' := lv6) (st' := [.int (Int32.ofInt (-100000))]) aj_d172 rfl (Nat.le_succ _) (fun _ => rfl) ?_
      exact fx_ri aj_d172 rfl ⟨_, rfl, 0, rfl, rfl⟩
    · skip
      refine fx_qe (c := (p2).toInt < 0) (fx_f_lt q8) ?_
      show fx_W _ _ _ 17 lv6 [] _ _
      refine fx_i0 aj_d172 rfl (Nat.le_succ _) (fun _ => rfl) hlv6_2 ?_
      refine fx_i2 aj_d172 rfl (Nat.le_succ _) (fun _ => rfl) hlv6_0 ?_
      refine fx_gR aj_d172 rfl (Nat.le_succ _) rfl rfl (Or.inl ⟨_, rfl⟩) (fun _ z => absurd (by decide) z) (fun b10 q9 => ?_)
      show fx_W _ _ _ 22 lv6 [.ref b10, .int p2] _ _
      refine fx_qs q9 ?_
      refine fx_gI aj_d172 rfl (Nat.le_succ _) rfl rfl (Or.inl rfl) ?_
      refine fx_b (tgt := 31) aj_d172 rfl (Nat.le_succ _) rfl (fun q11 => ?_) (fun q11 => ?_)
      · skip
        refine fx_qi (c := (p2).toInt < ((X4.1 b10 11)).toInt) (fx_t_lt q11) ?_
        show fx_W _ _ _ 31 lv6 [] _ _
        refine fx_i2 aj_d172 rfl (Nat.le_succ _) (fun _ => rfl) hlv6_0 ?_
        refine fx_gR aj_d172 rfl (Nat.le_succ _) rfl rfl (Or.inl ⟨_, rfl⟩) (fun _ z => absurd (by decide) z) (fun b13 q12 => ?_)
        show fx_W _ _ _ 35 lv6 [.ref b13] _ _
        refine fx_qs q12 ?_
        refine fx_i0 aj_d172 rfl (Nat.le_succ _) (fun _ => rfl) hlv6_3 ?_
        refine fx_i0 aj_d172 rfl (Nat.le_succ _) (fun _ => rfl) hlv6_2 ?_
        refine fx_cv aj_d172 rfl (Nat.le_succ _) rfl [_, _] rfl rfl (gx_124_ok b13 w5 p2) ?_
        rintro _ X14 ⟨w15, rfl, hR14⟩ hok14 hle14
        refine fx_qc hR14 ?_
        show fx_W _ _ _ 40 lv6 [.int w15] _ _
        exact fx_ri aj_d172 rfl ⟨_, rfl, 0, rfl, rfl⟩
      · skip
        refine fx_qe (c := (p2).toInt < ((X4.1 b10 11)).toInt) (fx_f_lt q11) ?_
        show fx_W _ _ _ 28 lv6 [] _ _
        refine fx_n (pc' := 30) (lv' := lv6) (st' := [.int (Int32.ofInt (-100000))]) aj_d172 rfl (Nat.le_succ _) (fun _ => rfl) ?_
        exact fx_ri aj_d172 rfl ⟨_, rfl, 0, rfl, rfl⟩
def gx_178 (p0 : Nat) (p1 : Int32) (p2 : Int32) (X : fx_X) (v : Unit) (X' : fx_X) : Prop :=
  (if (p1).toInt < 0 then (X' = X) else ((if (p1).toInt < ((Int32.ofNat (X.2.2.2.1 p0).2)).toInt then ((0 ≤ (p1).toInt) ∧ ∃ X5 : fx_X, X5 = (fx_wI X p0 (p1).toInt.toNat p2) ∧ X' = X5) else (X' = X))))
theorem gx_178_ok {tb : aj_T} (p0 : Nat) (p1 : Int32) (p2 : Int32) {X : fx_X} : fx_K tb 178 [.ref p0, .int p1, .int p2] X (fx_Q fx_qN (fun v X' => gx_178 p0 p1 p2 X v X')) := by
  refine fx_m aj_m178_at rfl (fun N => ?_)
  refine fx_mono (Q := fx_Q fx_qN (fun v X' => ∃ n : Nat, gx_178 p0 p1 p2 X v X')) (fun r X' ⟨v, e, _, z⟩ => ⟨v, e, z⟩) ?_
  unfold gx_178
  show fx_W _ _ _ 0 [(0, .ref p0), (1, .int p1), (2, .int p2)] [] _ _
  obtain ⟨lv1, elv1⟩ : ∃ l : aj_V, l = [(0, .ref p0), (1, .int p1), (2, .int p2)] := ⟨_, rfl⟩
  rw [← elv1]
  have hlv1_0 : aj_lv lv1 0 = some (.ref p0) := by rw [elv1]; rfl
  have hlv1_1 : aj_lv lv1 1 = some (.int p1) := by rw [elv1]; rfl
  have hlv1_2 : aj_lv lv1 2 = some (.int p2) := by rw [elv1]; rfl
  refine fx_i0 aj_d178 rfl (Nat.le_succ _) (fun _ => rfl) hlv1_1 ?_
  refine fx_b0 (tgt := 14) aj_d178 rfl (Nat.le_succ _) rfl (fun q2 => ?_) (fun q2 => ?_)
  · skip
    refine fx_qi (c := (p1).toInt < 0) (fx_t_lt q2) ?_
    show fx_W _ _ _ 14 lv1 [] _ _
    exact fx_rn aj_d178 rfl ⟨(), rfl, 0, rfl⟩
  · skip
    refine fx_qe (c := (p1).toInt < 0) (fx_f_lt q2) ?_
    show fx_W _ _ _ 4 lv1 [] _ _
    refine fx_i0 aj_d178 rfl (Nat.le_succ _) (fun _ => rfl) hlv1_1 ?_
    refine fx_i2 aj_d178 rfl (Nat.le_succ _) (fun _ => rfl) hlv1_0 ?_
    refine fx_al aj_d178 rfl (Nat.le_succ _) ?_
    show fx_W _ _ _ 7 lv1 [.int (Int32.ofNat (X.2.2.2.1 p0).2), .int p1] _ _
    refine fx_b (tgt := 14) aj_d178 rfl (Nat.le_succ _) rfl (fun q3 => ?_) (fun q3 => ?_)
    · skip
      refine fx_qe (c := (p1).toInt < ((Int32.ofNat (X.2.2.2.1 p0).2)).toInt) (fx_t_ge q3) ?_
      show fx_W _ _ _ 14 lv1 [] _ _
      exact fx_rn aj_d178 rfl ⟨(), rfl, 0, rfl⟩
    · skip
      refine fx_qi (c := (p1).toInt < ((Int32.ofNat (X.2.2.2.1 p0).2)).toInt) (fx_f_ge q3) ?_
      show fx_W _ _ _ 10 lv1 [] _ _
      refine fx_i2 aj_d178 rfl (Nat.le_succ _) (fun _ => rfl) hlv1_0 ?_
      refine fx_i0 aj_d178 rfl (Nat.le_succ _) (fun _ => rfl) hlv1_1 ?_
      refine fx_i0 aj_d178 rfl (Nat.le_succ _) (fun _ => rfl) hlv1_2 ?_
      refine fx_st aj_d178 (Or.inl ⟨rfl, rfl⟩) rfl (Nat.le_succ _) (fun g40 g41 => ?_)
      show fx_W _ _ _ _ _ _ (fx_wI X p0 (p1).toInt.toNat p2) _
      refine fx_qa (c := 0 ≤ (p1).toInt) g40 ?_
      refine fx_qX (fun X5 eX5 => ?_)
      show fx_W _ _ _ 14 lv1 [] _ _
      exact fx_rn aj_d178 rfl ⟨(), rfl, 0, rfl⟩
def gx_181 (p1 : Int32) (X : fx_X) (v : Int32) (X' : fx_X) : Prop :=
  (if (p1).toInt < 0 then (v = (Int32.ofInt (-1)) ∧ X' = X) else ((if (p1).toInt < ((X.1 107 3)).toInt then (∃ b5 : Nat, X.2.2.1 107 5 = some b5 ∧ (if (p1).toInt < ((Int32.ofNat (X.2.2.2.1 b5).2)).toInt then (∃ b8 : Nat, X.2.2.1 107 5 = some b8 ∧ (0 ≤ (p1).toInt) ∧ v = (X.1 b8 (p1).toInt.toNat) ∧ X' = X) else (v = (Int32.ofInt (-1)) ∧ X' = X))) else (v = (Int32.ofInt (-1)) ∧ X' = X))))
theorem gx_181_ok {tb : aj_T} (p1 : Int32) {X : fx_X} : fx_K tb 181 [.ref 107, .int p1] X (fx_Q fx_qI (fun v X' => gx_181 p1 X v X')) := by
  refine fx_m aj_m181_at rfl (fun N => ?_)
  refine fx_mono (Q := fx_Q fx_qI (fun v X' => ∃ n : Nat, gx_181 p1 X v X')) (fun r X' ⟨v, e, _, z⟩ => ⟨v, e, z⟩) ?_
  unfold gx_181
  show fx_W _ _ _ 0 [(0, .ref 107), (1, .int p1)] [] _ _
  obtain ⟨lv1, elv1⟩ : ∃ l : aj_V, l = [(0, .ref 107), (1, .int p1)] := ⟨_, rfl⟩
  rw [← elv1]
  have hlv1_0 : aj_lv lv1 0 = some (.ref 107) := by rw [elv1]; rfl
  have hlv1_1 : aj_lv lv1 1 = some (.int p1) := by rw [elv1]; rfl
  refine fx_i0 aj_d181 rfl (Nat.le_succ _) (fun _ => rfl) hlv1_1 ?_
  refine fx_b0 (tgt := 30) aj_d181 rfl (Nat.le_succ _) rfl (fun q2 => ?_) (fun q2 => ?_)
  · skip
    refine fx_qi (c := (p1).toInt < 0) (fx_t_lt q2) ?_
    show fx_W _ _ _ 30 lv1 [] _ _
    refine fx_n (pc' := 31) (lv' := lv1) (st' := [.int (Int32.ofInt (-1))]) aj_d181 rfl (Nat.le_succ _) (fun _ => rfl) ?_
    exact fx_ri aj_d181 rfl ⟨_, rfl, 0, rfl, rfl⟩
  · skip
    refine fx_qe (c := (p1).toInt < 0) (fx_f_lt q2) ?_
    show fx_W _ _ _ 4 lv1 [] _ _
    refine fx_i0 aj_d181 rfl (Nat.le_succ _) (fun _ => rfl) hlv1_1 ?_
    refine fx_i2 aj_d181 rfl (Nat.le_succ _) (fun _ => rfl) hlv1_0 ?_
    refine fx_gI aj_d181 rfl (Nat.le_succ _) rfl rfl (Or.inl rfl) ?_
    refine fx_b (tgt := 30) aj_d181 rfl (Nat.le_succ _) rfl (fun q3 => ?_) (fun q3 => ?_)
    · skip
      refine fx_qe (c := (p1).toInt < ((X.1 107 3)).toInt) (fx_t_ge q3) ?_
      show fx_W _ _ _ 30 lv1 [] _ _
      refine fx_n (pc' := 31) (lv' := lv1) (st' := [.int (Int32.ofInt (-1))]) aj_d181 rfl (Nat.le_succ _) (fun _ => rfl) ?_
      exact fx_ri aj_d181 rfl ⟨_, rfl, 0, rfl, rfl⟩
    · skip
      refine fx_qi (c := (p1).toInt < ((X.1 107 3)).toInt) (fx_f_ge q3) ?_
      show fx_W _ _ _ 12 lv1 [] _ _
      refine fx_i0 aj_d181 rfl (Nat.le_succ _) (fun _ => rfl) hlv1_1 ?_
      refine fx_i2 aj_d181 rfl (Nat.le_succ _) (fun _ => rfl) hlv1_0 ?_
      refine fx_gR aj_d181 rfl (Nat.le_succ _) rfl rfl (Or.inr ⟨_, rfl⟩) (fun _ z => absurd (by decide) z) (fun b5 q4 => ?_)
      show fx_W _ _ _ 17 lv1 [.ref b5, .int p1] _ _
      refine fx_qs q4 ?_
      refine fx_al aj_d181 rfl (Nat.le_succ _) ?_
      show fx_W _ _ _ 18 lv1 [.int (Int32.ofNat (X.2.2.2.1 b5).2), .int p1] _ _
      refine fx_b (tgt := 30) aj_d181 rfl (Nat.le_succ _) rfl (fun q6 => ?_) (fun q6 => ?_)
      · skip
        refine fx_qe (c := (p1).toInt < ((Int32.ofNat (X.2.2.2.1 b5).2)).toInt) (fx_t_ge q6) ?_
        show fx_W _ _ _ 30 lv1 [] _ _
        refine fx_n (pc' := 31) (lv' := lv1) (st' := [.int (Int32.ofInt (-1))]) aj_d181 rfl (Nat.le_succ _) (fun _ => rfl) ?_
        exact fx_ri aj_d181 rfl ⟨_, rfl, 0, rfl, rfl⟩
      · skip
        refine fx_qi (c := (p1).toInt < ((Int32.ofNat (X.2.2.2.1 b5).2)).toInt) (fx_f_ge q6) ?_
        show fx_W _ _ _ 21 lv1 [] _ _
        refine fx_i2 aj_d181 rfl (Nat.le_succ _) (fun _ => rfl) hlv1_0 ?_
        refine fx_gR aj_d181 rfl (Nat.le_succ _) rfl rfl (Or.inr ⟨_, rfl⟩) (fun _ z => absurd (by decide) z) (fun b8 q7 => ?_)
        show fx_W _ _ _ 25 lv1 [.ref b8] _ _
        refine fx_qs q7 ?_
        refine fx_i0 aj_d181 rfl (Nat.le_succ _) (fun _ => rfl) hlv1_1 ?_
        refine fx_ld aj_d181 (Or.inl rfl) rfl (Nat.le_succ _) (fun g90 g91 => ?_)
        show fx_W _ _ _ 27 lv1 [.int (X.1 b8 (p1).toInt.toNat)] _ _
        refine fx_qa (c := 0 ≤ (p1).toInt) g90 ?_
        refine fx_n (pc' := 31) (lv' := lv1) (st' := [.int (X.1 b8 (p1).toInt.toNat)]) aj_d181 rfl (Nat.le_succ _) (fun _ => rfl) ?_
        exact fx_ri aj_d181 rfl ⟨_, rfl, 0, rfl, rfl⟩
def gx_182 (p0 : Int32) (X : fx_X) (v : Int32) (X' : fx_X) : Prop :=
  v = ((p0 >>> (((Int8.ofInt 10).toInt32) &&& 31)) &&& ((Int8.ofInt 31).toInt32)) ∧ X' = X
theorem gx_182_ok {tb : aj_T} (p0 : Int32) {X : fx_X} : fx_K tb 182 [.int p0] X (fx_Q fx_qI (fun v X' => gx_182 p0 X v X')) := by
  refine fx_m aj_m182_at rfl (fun N => ?_)
  refine fx_mono (Q := fx_Q fx_qI (fun v X' => ∃ n : Nat, gx_182 p0 X v X')) (fun r X' ⟨v, e, _, z⟩ => ⟨v, e, z⟩) ?_
  unfold gx_182
  show fx_W _ _ _ 0 [(0, .int p0)] [] _ _
  obtain ⟨lv1, elv1⟩ : ∃ l : aj_V, l = [(0, .int p0)] := ⟨_, rfl⟩
  rw [← elv1]
  have hlv1_0 : aj_lv lv1 0 = some (.int p0) := by rw [elv1]; rfl
  refine fx_i0 aj_d182 rfl (Nat.le_succ _) (fun _ => rfl) hlv1_0 ?_
  refine fx_n (pc' := 3) (lv' := lv1) (st' := [.int ((Int8.ofInt 10).toInt32), .int p0]) aj_d182 rfl (Nat.le_succ _) (fun _ => rfl) ?_
  refine fx_n (pc' := 4) (lv' := lv1) (st' := [.int (p0 >>> (((Int8.ofInt 10).toInt32) &&& 31))]) aj_d182 rfl (Nat.le_succ _) (fun _ => rfl) ?_
  refine fx_n (pc' := 6) (lv' := lv1) (st' := [.int ((Int8.ofInt 31).toInt32), .int (p0 >>> (((Int8.ofInt 10).toInt32) &&& 31))]) aj_d182 rfl (Nat.le_succ _) (fun _ => rfl) ?_
  refine fx_n (pc' := 7) (lv' := lv1) (st' := [.int ((p0 >>> (((Int8.ofInt 10).toInt32) &&& 31)) &&& ((Int8.ofInt 31).toInt32))]) aj_d182 rfl (Nat.le_succ _) (fun _ => rfl) ?_
  exact fx_ri aj_d182 rfl ⟨_, rfl, 0, rfl, rfl⟩
def gx_183 (p0 : Int32) (X : fx_X) (v : Int32) (X' : fx_X) : Prop :=
  v = (p0 &&& ((Int16.ofInt 1023).toInt32)) ∧ X' = X
theorem gx_183_ok {tb : aj_T} (p0 : Int32) {X : fx_X} : fx_K tb 183 [.int p0] X (fx_Q fx_qI (fun v X' => gx_183 p0 X v X')) := by
  refine fx_m aj_m183_at rfl (fun N => ?_)
  refine fx_mono (Q := fx_Q fx_qI (fun v X' => ∃ n : Nat, gx_183 p0 X v X')) (fun r X' ⟨v, e, _, z⟩ => ⟨v, e, z⟩) ?_
  unfold gx_183
  show fx_W _ _ _ 0 [(0, .int p0)] [] _ _
  obtain ⟨lv1, elv1⟩ : ∃ l : aj_V, l = [(0, .int p0)] := ⟨_, rfl⟩
  rw [← elv1]
  have hlv1_0 : aj_lv lv1 0 = some (.int p0) := by rw [elv1]; rfl
  refine fx_i0 aj_d183 rfl (Nat.le_succ _) (fun _ => rfl) hlv1_0 ?_
  refine fx_n (pc' := 4) (lv' := lv1) (st' := [.int ((Int16.ofInt 1023).toInt32), .int p0]) aj_d183 rfl (Nat.le_succ _) (fun _ => rfl) ?_
  refine fx_n (pc' := 5) (lv' := lv1) (st' := [.int (p0 &&& ((Int16.ofInt 1023).toInt32))]) aj_d183 rfl (Nat.le_succ _) (fun _ => rfl) ?_
  exact fx_ri aj_d183 rfl ⟨_, rfl, 0, rfl, rfl⟩
def gx_184 (p0 : Int32) (X : fx_X) (v : Int32) (X' : fx_X) : Prop :=
  v = (p0 >>> (((Int8.ofInt 15).toInt32) &&& 31)) ∧ X' = X
theorem gx_184_ok {tb : aj_T} (p0 : Int32) {X : fx_X} : fx_K tb 184 [.int p0] X (fx_Q fx_qI (fun v X' => gx_184 p0 X v X')) := by
  refine fx_m aj_m184_at rfl (fun N => ?_)
  refine fx_mono (Q := fx_Q fx_qI (fun v X' => ∃ n : Nat, gx_184 p0 X v X')) (fun r X' ⟨v, e, _, z⟩ => ⟨v, e, z⟩) ?_
  unfold gx_184
  show fx_W _ _ _ 0 [(0, .int p0)] [] _ _
  obtain ⟨lv1, elv1⟩ : ∃ l : aj_V, l = [(0, .int p0)] := ⟨_, rfl⟩
  rw [← elv1]
  have hlv1_0 : aj_lv lv1 0 = some (.int p0) := by rw [elv1]; rfl
  refine fx_i0 aj_d184 rfl (Nat.le_succ _) (fun _ => rfl) hlv1_0 ?_
  refine fx_n (pc' := 3) (lv' := lv1) (st' := [.int ((Int8.ofInt 15).toInt32), .int p0]) aj_d184 rfl (Nat.le_succ _) (fun _ => rfl) ?_
  refine fx_n (pc' := 4) (lv' := lv1) (st' := [.int (p0 >>> (((Int8.ofInt 15).toInt32) &&& 31))]) aj_d184 rfl (Nat.le_succ _) (fun _ => rfl) ?_
  exact fx_ri aj_d184 rfl ⟨_, rfl, 0, rfl, rfl⟩
def gxT_180_11 (p1 : Nat) (p2 : Nat) (p3 : Int32) (p4 : Int32) (p5 : Int32) (p6 : Int32) (P : Nat → List Int32 → List Int64 → List Nat → fx_X → Int32 → fx_X → Prop) (y7 : Int32) (y8 : Int32) (y9 : Int32) (X : fx_X) (v : Int32) (X' : fx_X) : Prop :=
  (if (y7).toInt < (p4).toInt then (P 25 [y7, y8, y9] [] [] X v X') else ((if (y8).toInt < (p5).toInt then (P 25 [y7, y8, y9] [] [] X v X') else (v = y9 ∧ X' = X))))
def gxT_180_25 (p1 : Nat) (p2 : Nat) (p3 : Int32) (p4 : Int32) (p5 : Int32) (p6 : Int32) (P : Nat → List Int32 → List Int64 → List Nat → fx_X → Int32 → fx_X → Prop) (y7 : Int32) (y8 : Int32) (y9 : Int32) (X : fx_X) (v : Int32) (X' : fx_X) : Prop :=
  ∃ (w8 : Int32) (X7 : fx_X), gx_181 y7 X w8 X7 ∧ ∃ (w11 : Int32) (X10 : fx_X), gx_181 y8 X7 w11 X10 ∧ (if (y7).toInt < (p4).toInt then ((if (y8).toInt < (p5).toInt then (∃ (w16 : Int32) (X15 : fx_X), gx_182 w8 X10 w16 X15 ∧ ∃ (w18 : Int32) (X17 : fx_X), gx_183 w8 X15 w18 X17 ∧ ∃ (w20 : Int32) (X19 : fx_X), gx_182 w11 X17 w20 X19 ∧ ∃ (w22 : Int32) (X21 : fx_X), gx_183 w11 X19 w22 X21 ∧ ∃ (w24 : Int32) (X23 : fx_X), gx_130 p2 p1 w16 w18 p2 w20 w22 X21 w24 X23 ∧ (if (w24).toInt < 0 then (∃ b77 : Nat, X23.2.2.1 107 6 = some b77 ∧ ∃ (w79 : Unit) (X78 : fx_X), gx_178 b77 y9 w8 X23 w79 X78 ∧ ∃ x80 : Int32, x80 = y9 + Int32.ofInt 1 ∧ (if 0 < (w24).toInt then (∃ x83 : Int32, x83 = (y7 + (Int32.ofInt 0)) ∧ (if (w24).toInt < 0 then (∃ x86 : Int32, x86 = (y8 + (Int32.ofInt 0)) ∧ P 11 [x83, x86, x80] [] [] X78 v X') else (∃ x88 : Int32, x88 = (y8 + (Int32.ofInt 1)) ∧ P 11 [x83, x88, x80] [] [] X78 v X'))) else (∃ x90 : Int32, x90 = (y7 + (Int32.ofInt 1)) ∧ (if (w24).toInt < 0 then (∃ x93 : Int32, x93 = (y8 + (Int32.ofInt 0)) ∧ P 11 [x90, x93, x80] [] [] X78 v X') else (∃ x95 : Int32, x95 = (y8 + (Int32.ofInt 1)) ∧ P 11 [x90, x95, x80] [] [] X78 v X'))))) else ((if 0 < (w24).toInt then (∃ b55 : Nat, X23.2.2.1 107 6 = some b55 ∧ ∃ (w57 : Unit) (X56 : fx_X), gx_178 b55 y9 w11 X23 w57 X56 ∧ ∃ x58 : Int32, x58 = y9 + Int32.ofInt 1 ∧ (if 0 < (w24).toInt then (∃ x61 : Int32, x61 = (y7 + (Int32.ofInt 0)) ∧ (if (w24).toInt < 0 then (∃ x64 : Int32, x64 = (y8 + (Int32.ofInt 0)) ∧ P 11 [x61, x64, x58] [] [] X56 v X') else (∃ x66 : Int32, x66 = (y8 + (Int32.ofInt 1)) ∧ P 11 [x61, x66, x58] [] [] X56 v X'))) else (∃ x68 : Int32, x68 = (y7 + (Int32.ofInt 1)) ∧ (if (w24).toInt < 0 then (∃ x71 : Int32, x71 = (y8 + (Int32.ofInt 0)) ∧ P 11 [x68, x71, x58] [] [] X56 v X') else (∃ x73 : Int32, x73 = (y8 + (Int32.ofInt 1)) ∧ P 11 [x68, x73, x58] [] [] X56 v X'))))) else (∃ (w29 : Int32) (X28 : fx_X), gx_184 w11 X23 w29 X28 ∧ ∃ x30 : Int32, x30 = (w8 + (w29 * (Int32.ofInt 32768))) ∧ ∃ b33 : Nat, X28.2.2.1 107 6 = some b33 ∧ ∃ (w35 : Unit) (X34 : fx_X), gx_178 b33 y9 x30 X28 w35 X34 ∧ ∃ x36 : Int32, x36 = y9 + Int32.ofInt 1 ∧ (if 0 < (w24).toInt then (∃ x39 : Int32, x39 = (y7 + (Int32.ofInt 0)) ∧ (if (w24).toInt < 0 then (∃ x42 : Int32, x42 = (y8 + (Int32.ofInt 0)) ∧ P 11 [x39, x42, x36] [] [] X34 v X') else (∃ x44 : Int32, x44 = (y8 + (Int32.ofInt 1)) ∧ P 11 [x39, x44, x36] [] [] X34 v X'))) else (∃ x46 : Int32, x46 = (y7 + (Int32.ofInt 1)) ∧ (if (w24).toInt < 0 then (∃ x49 : Int32, x49 = (y8 + (Int32.ofInt 0)) ∧ P 11 [x46, x49, x36] [] [] X34 v X') else (∃ x51 : Int32, x51 = (y8 + (Int32.ofInt 1)) ∧ P 11 [x46, x51, x36] [] [] X34 v X'))))))))) else (∃ b101 : Nat, X10.2.2.1 107 6 = some b101 ∧ ∃ (w103 : Unit) (X102 : fx_X), gx_178 b101 y9 w8 X10 w103 X102 ∧ ∃ x104 : Int32, x104 = y9 + Int32.ofInt 1 ∧ ∃ x107 : Int32, x107 = (y7 + (Int32.ofInt 1)) ∧ ∃ x110 : Int32, x110 = (y8 + (Int32.ofInt 0)) ∧ P 11 [x107, x110, x104] [] [] X102 v X'))) else (∃ b117 : Nat, X10.2.2.1 107 6 = some b117 ∧ ∃ (w119 : Unit) (X118 : fx_X), gx_178 b117 y9 w11 X10 w119 X118 ∧ ∃ x120 : Int32, x120 = y9 + Int32.ofInt 1 ∧ ∃ x123 : Int32, x123 = (y7 + (Int32.ofInt 0)) ∧ ∃ x126 : Int32, x126 = (y8 + (Int32.ofInt 1)) ∧ P 11 [x123, x126, x120] [] [] X118 v X'))
def gxE_180 (p1 : Nat) (p2 : Nat) (p3 : Int32) (p4 : Int32) (p5 : Int32) (p6 : Int32) (P : Nat → List Int32 → List Int64 → List Nat → fx_X → Int32 → fx_X → Prop) (X : fx_X) (v : Int32) (X' : fx_X) : Prop :=
  P 11 [p3, p4, p6] [] [] X v X'
noncomputable def gxF_180 (p1 : Nat) (p2 : Nat) (p3 : Int32) (p4 : Int32) (p5 : Int32) (p6 : Int32) (n : Nat) : Nat → List Int32 → List Int64 → List Nat → fx_X → Int32 → fx_X → Prop := Nat.rec (motive := fun _ => Nat → List Int32 → List Int64 → List Nat → fx_X → Int32 → fx_X → Prop) (fun _ _ _ _ _ _ _ => False) (fun _ P l is ls rs X v X' => (l = 11 ∧ ∃ (y7 : Int32) (y8 : Int32) (y9 : Int32), is = [y7, y8, y9] ∧ ls = [] ∧ rs = [] ∧ gxT_180_11 p1 p2 p3 p4 p5 p6 P y7 y8 y9 X v X') ∨ (l = 25 ∧ ∃ (y7 : Int32) (y8 : Int32) (y9 : Int32), is = [y7, y8, y9] ∧ ls = [] ∧ rs = [] ∧ gxT_180_25 p1 p2 p3 p4 p5 p6 P y7 y8 y9 X v X')) n
theorem gxI_180_11 {p1 : Nat} {p2 : Nat} {p3 : Int32} {p4 : Int32} {p5 : Int32} {p6 : Int32} {n : Nat} {y7 : Int32} {y8 : Int32} {y9 : Int32} {X : fx_X} {v : Int32} {X' : fx_X} (h : gxT_180_11 p1 p2 p3 p4 p5 p6 (gxF_180 p1 p2 p3 p4 p5 p6 n) y7 y8 y9 X v X') : gxF_180 p1 p2 p3 p4 p5 p6 (n + 1) 11 [y7, y8, y9] [] [] X v X' := Or.inl ⟨rfl, y7, y8, y9, rfl, rfl, rfl, h⟩
theorem gxO_180_11 {p1 : Nat} {p2 : Nat} {p3 : Int32} {p4 : Int32} {p5 : Int32} {p6 : Int32} {n : Nat} {y7 : Int32} {y8 : Int32} {y9 : Int32} {X : fx_X} {v : Int32} {X' : fx_X} (h : gxF_180 p1 p2 p3 p4 p5 p6 (n + 1) 11 [y7, y8, y9] [] [] X v X') : gxT_180_11 p1 p2 p3 p4 p5 p6 (gxF_180 p1 p2 p3 p4 p5 p6 n) y7 y8 y9 X v X' := by
  rcases h with ⟨-, _, _, _, e1, e2, e3, h⟩ | ⟨e, -⟩
  · cases e1; cases e2; cases e3; exact h
  · exact absurd e (by decide)
theorem gxI_180_25 {p1 : Nat} {p2 : Nat} {p3 : Int32} {p4 : Int32} {p5 : Int32} {p6 : Int32} {n : Nat} {y7 : Int32} {y8 : Int32} {y9 : Int32} {X : fx_X} {v : Int32} {X' : fx_X} (h : gxT_180_25 p1 p2 p3 p4 p5 p6 (gxF_180 p1 p2 p3 p4 p5 p6 n) y7 y8 y9 X v X') : gxF_180 p1 p2 p3 p4 p5 p6 (n + 1) 25 [y7, y8, y9] [] [] X v X' := Or.inr (⟨rfl, y7, y8, y9, rfl, rfl, rfl, h⟩)
theorem gxO_180_25 {p1 : Nat} {p2 : Nat} {p3 : Int32} {p4 : Int32} {p5 : Int32} {p6 : Int32} {n : Nat} {y7 : Int32} {y8 : Int32} {y9 : Int32} {X : fx_X} {v : Int32} {X' : fx_X} (h : gxF_180 p1 p2 p3 p4 p5 p6 (n + 1) 25 [y7, y8, y9] [] [] X v X') : gxT_180_25 p1 p2 p3 p4 p5 p6 (gxF_180 p1 p2 p3 p4 p5 p6 n) y7 y8 y9 X v X' := by
  rcases h with ⟨e, -⟩ | ⟨-, _, _, _, e1, e2, e3, h⟩
  · exact absurd e (by decide)
  · cases e1; cases e2; cases e3; exact h
def gx_180 (p1 : Nat) (p2 : Nat) (p3 : Int32) (p4 : Int32) (p5 : Int32) (p6 : Int32) (X : fx_X) (v : Int32) (X' : fx_X) : Prop := ∃ n : Nat, gxE_180 p1 p2 p3 p4 p5 p6 (gxF_180 p1 p2 p3 p4 p5 p6 n) X v X'
theorem gxL_180 {tb : aj_T} (p1 : Nat) (p2 : Nat) (p3 : Int32) (p4 : Int32) (p5 : Int32) (p6 : Int32) : ∀ N : Nat, (∀ (lv : aj_V) (y7 : Int32) (y8 : Int32) (y9 : Int32) (X : fx_X), aj_lv lv 0 = some (.ref 107) → aj_lv lv 1 = some (.ref p1) → aj_lv lv 2 = some (.ref p2) → aj_lv lv 4 = some (.int p4) → aj_lv lv 5 = some (.int p5) → aj_lv lv 7 = some (.int y7) → aj_lv lv 8 = some (.int y8) → aj_lv lv 9 = some (.int y9) → fx_W tb aj_m180 N 11 lv [] X (fx_Q fx_qI (fun v X' => ∃ n : Nat, gxF_180 p1 p2 p3 p4 p5 p6 n 11 [y7, y8, y9] [] [] X v X'))) ∧ (∀ (lv : aj_V) (y7 : Int32) (y8 : Int32) (y9 : Int32) (X : fx_X), aj_lv lv 0 = some (.ref 107) → aj_lv lv 1 = some (.ref p1) → aj_lv lv 2 = some (.ref p2) → aj_lv lv 4 = some (.int p4) → aj_lv lv 5 = some (.int p5) → aj_lv lv 7 = some (.int y7) → aj_lv lv 8 = some (.int y8) → aj_lv lv 9 = some (.int y9) → fx_W tb aj_m180 N 25 lv [] X (fx_Q fx_qI (fun v X' => ∃ n : Nat, gxF_180 p1 p2 p3 p4 p5 p6 n 25 [y7, y8, y9] [] [] X v X'))) := by
  intro N
  induction N with
  | zero => exact ⟨(by intros; exact fx_z), (by intros; exact fx_z)⟩
  | succ N ih =>
    refine ⟨?_, ?_⟩
    · intro lv y7 y8 y9 X hlv_0 hlv_1 hlv_2 hlv_4 hlv_5 hlv_7 hlv_8 hlv_9
      refine fx_mono (Q := fx_Q fx_qI (fun v X' => ∃ n : Nat, gxT_180_11 p1 p2 p3 p4 p5 p6 (gxF_180 p1 p2 p3 p4 p5 p6 n) y7 y8 y9 X v X')) (fun r X' ⟨v, e, n, z⟩ => ⟨v, e, n + 1, gxI_180_11 z⟩) ?_
      unfold gxT_180_11
      refine fx_i0 aj_d180 rfl (Nat.le_refl _) (fun _ => rfl) hlv_7 ?_
      refine fx_i0 aj_d180 rfl (Nat.le_succ _) (fun _ => rfl) hlv_4 ?_
      refine fx_b (tgt := 25) aj_d180 rfl (Nat.le_succ _) rfl (fun q5 => ?_) (fun q5 => ?_)
      · skip
        refine fx_qi (c := (y7).toInt < (p4).toInt) (fx_t_lt q5) ?_
        show fx_W _ _ _ 25 lv [] _ _
        exact (ih.2) lv (y7) (y8) (y9) X  hlv_0 hlv_1 hlv_2 hlv_4 hlv_5 hlv_7 hlv_8 hlv_9
      · skip
        refine fx_qe (c := (y7).toInt < (p4).toInt) (fx_f_lt q5) ?_
        show fx_W _ _ _ 18 lv [] _ _
        refine fx_i0 aj_d180 rfl (Nat.le_succ _) (fun _ => rfl) hlv_8 ?_
        refine fx_i0 aj_d180 rfl (Nat.le_succ _) (fun _ => rfl) hlv_5 ?_
        refine fx_b (tgt := 171) aj_d180 rfl (Nat.le_succ _) rfl (fun q6 => ?_) (fun q6 => ?_)
        · skip
          refine fx_qe (c := (y8).toInt < (p5).toInt) (fx_t_ge q6) ?_
          show fx_W _ _ _ 171 lv [] _ _
          refine fx_i0 aj_d180 rfl (Nat.le_succ _) (fun _ => rfl) hlv_9 ?_
          exact fx_ri aj_d180 rfl ⟨_, rfl, 0, rfl, rfl⟩
        · skip
          refine fx_qi (c := (y8).toInt < (p5).toInt) (fx_f_ge q6) ?_
          show fx_W _ _ _ 25 lv [] _ _
          exact (ih.2) lv (y7) (y8) (y9) X  hlv_0 hlv_1 hlv_2 hlv_4 hlv_5 hlv_7 hlv_8 hlv_9
    · intro lv y7 y8 y9 X hlv_0 hlv_1 hlv_2 hlv_4 hlv_5 hlv_7 hlv_8 hlv_9
      refine fx_mono (Q := fx_Q fx_qI (fun v X' => ∃ n : Nat, gxT_180_25 p1 p2 p3 p4 p5 p6 (gxF_180 p1 p2 p3 p4 p5 p6 n) y7 y8 y9 X v X')) (fun r X' ⟨v, e, n, z⟩ => ⟨v, e, n + 1, gxI_180_25 z⟩) ?_
      unfold gxT_180_25
      refine fx_i2 aj_d180 rfl (Nat.le_refl _) (fun _ => rfl) hlv_0 ?_
      refine fx_i0 aj_d180 rfl (Nat.le_succ _) (fun _ => rfl) hlv_7 ?_
      refine fx_cv aj_d180 rfl (Nat.le_succ _) rfl [_] rfl rfl (gx_181_ok y7) ?_
      rintro _ X7 ⟨w8, rfl, hR7⟩ hok7 hle7
      refine fx_qc hR7 ?_
      show fx_W _ _ _ 31 lv [.int w8] _ _
      refine fx_s0 (j := 10) aj_d180 rfl (Nat.le_succ _) (by decide) (fun _ => rfl) ?_
      obtain ⟨lv9, elv9⟩ : ∃ l, l = aj_set1 lv 10 (.int w8) := ⟨_, rfl⟩
      rw [← elv9]
      have hlv9_0 : aj_lv lv9 0 = some (.ref 107) := fx_e1 elv9 hlv_0 (by decide) (Or.inl (by decide))
      have hlv9_1 : aj_lv lv9 1 = some (.ref p1) := fx_e1 elv9 hlv_1 (by decide) (Or.inl (by decide))
      have hlv9_2 : aj_lv lv9 2 = some (.ref p2) := fx_e1 elv9 hlv_2 (by decide) (Or.inl (by decide))
      have hlv9_4 : aj_lv lv9 4 = some (.int p4) := fx_e1 elv9 hlv_4 (by decide) (Or.inl (by decide))
      have hlv9_5 : aj_lv lv9 5 = some (.int p5) := fx_e1 elv9 hlv_5 (by decide) (Or.inl (by decide))
      have hlv9_7 : aj_lv lv9 7 = some (.int y7) := fx_e1 elv9 hlv_7 (by decide) (Or.inl (by decide))
      have hlv9_8 : aj_lv lv9 8 = some (.int y8) := fx_e1 elv9 hlv_8 (by decide) (Or.inl (by decide))
      have hlv9_9 : aj_lv lv9 9 = some (.int y9) := fx_e1 elv9 hlv_9 (by decide) (Or.inr rfl)
      have hlv9_10 : aj_lv lv9 10 = some (.int w8) := by rw [elv9]; exact ak_set1_eq _ _ _
      show fx_W _ _ _ 33 lv9 [] _ _
      refine fx_i2 aj_d180 rfl (Nat.le_succ _) (fun _ => rfl) hlv9_0 ?_
      refine fx_i0 aj_d180 rfl (Nat.le_succ _) (fun _ => rfl) hlv9_8 ?_
      refine fx_cv aj_d180 rfl (Nat.le_succ _) rfl [_] rfl rfl (gx_181_ok y8) ?_
      rintro _ X10 ⟨w11, rfl, hR10⟩ hok10 hle10
      refine fx_qc hR10 ?_
      show fx_W _ _ _ 39 lv9 [.int w11] _ _
      refine fx_s0 (j := 11) aj_d180 rfl (Nat.le_succ _) (by decide) (fun _ => rfl) ?_
      obtain ⟨lv12, elv12⟩ : ∃ l, l = aj_set1 lv9 11 (.int w11) := ⟨_, rfl⟩
      rw [← elv12]
      have hlv12_0 : aj_lv lv12 0 = some (.ref 107) := fx_e1 elv12 hlv9_0 (by decide) (Or.inl (by decide))
      have hlv12_1 : aj_lv lv12 1 = some (.ref p1) := fx_e1 elv12 hlv9_1 (by decide) (Or.inl (by decide))
      have hlv12_2 : aj_lv lv12 2 = some (.ref p2) := fx_e1 elv12 hlv9_2 (by decide) (Or.inl (by decide))
      have hlv12_4 : aj_lv lv12 4 = some (.int p4) := fx_e1 elv12 hlv9_4 (by decide) (Or.inl (by decide))
      have hlv12_5 : aj_lv lv12 5 = some (.int p5) := fx_e1 elv12 hlv9_5 (by decide) (Or.inl (by decide))
      have hlv12_7 : aj_lv lv12 7 = some (.int y7) := fx_e1 elv12 hlv9_7 (by decide) (Or.inl (by decide))
      have hlv12_8 : aj_lv lv12 8 = some (.int y8) := fx_e1 elv12 hlv9_8 (by decide) (Or.inl (by decide))
      have hlv12_9 : aj_lv lv12 9 = some (.int y9) := fx_e1 elv12 hlv9_9 (by decide) (Or.inl (by decide))
      have hlv12_10 : aj_lv lv12 10 = some (.int w8) := fx_e1 elv12 hlv9_10 (by decide) (Or.inr rfl)
      have hlv12_11 : aj_lv lv12 11 = some (.int w11) := by rw [elv12]; exact ak_set1_eq _ _ _
      show fx_W _ _ _ 41 lv12 [] _ _
      refine fx_i0 aj_d180 rfl (Nat.le_succ _) (fun _ => rfl) hlv12_7 ?_
      refine fx_i0 aj_d180 rfl (Nat.le_succ _) (fun _ => rfl) hlv12_4 ?_
      refine fx_b (tgt := 52) aj_d180 rfl (Nat.le_succ _) rfl (fun q13 => ?_) (fun q13 => ?_)
      · skip
        refine fx_qi (c := (y7).toInt < (p4).toInt) (fx_t_lt q13) ?_
        show fx_W _ _ _ 52 lv12 [] _ _
        refine fx_i0 aj_d180 rfl (Nat.le_succ _) (fun _ => rfl) hlv12_8 ?_
        refine fx_i0 aj_d180 rfl (Nat.le_succ _) (fun _ => rfl) hlv12_5 ?_
        refine fx_b (tgt := 63) aj_d180 rfl (Nat.le_succ _) rfl (fun q14 => ?_) (fun q14 => ?_)
        · skip
          refine fx_qi (c := (y8).toInt < (p5).toInt) (fx_t_lt q14) ?_
          show fx_W _ _ _ 63 lv12 [] _ _
          refine fx_i2 aj_d180 rfl (Nat.le_succ _) (fun _ => rfl) hlv12_2 ?_
          refine fx_i2 aj_d180 rfl (Nat.le_succ _) (fun _ => rfl) hlv12_1 ?_
          refine fx_i0 aj_d180 rfl (Nat.le_succ _) (fun _ => rfl) hlv12_10 ?_
          refine fx_cs aj_d180 rfl (Nat.le_succ _) rfl rfl [_] rfl rfl (gx_182_ok w8) ?_
          rintro _ X15 ⟨w16, rfl, hR15⟩ hok15 hle15
          refine fx_qc hR15 ?_
          show fx_W _ _ _ 70 lv12 [.int w16, .ref p1, .ref p2] _ _
          refine fx_i0 aj_d180 rfl (Nat.le_succ _) (fun _ => rfl) hlv12_10 ?_
          refine fx_cs aj_d180 rfl (Nat.le_succ _) rfl rfl [_] rfl rfl (gx_183_ok w8) ?_
          rintro _ X17 ⟨w18, rfl, hR17⟩ hok17 hle17
          refine fx_qc hR17 ?_
          show fx_W _ _ _ 75 lv12 [.int w18, .int w16, .ref p1, .ref p2] _ _
          refine fx_i2 aj_d180 rfl (Nat.le_succ _) (fun _ => rfl) hlv12_2 ?_
          refine fx_i0 aj_d180 rfl (Nat.le_succ _) (fun _ => rfl) hlv12_11 ?_
          refine fx_cs aj_d180 rfl (Nat.le_succ _) rfl rfl [_] rfl rfl (gx_182_ok w11) ?_
          rintro _ X19 ⟨w20, rfl, hR19⟩ hok19 hle19
          refine fx_qc hR19 ?_
          show fx_W _ _ _ 81 lv12 [.int w20, .ref p2, .int w18, .int w16, .ref p1, .ref p2] _ _
          refine fx_i0 aj_d180 rfl (Nat.le_succ _) (fun _ => rfl) hlv12_11 ?_
          refine fx_cs aj_d180 rfl (Nat.le_succ _) rfl rfl [_] rfl rfl (gx_183_ok w11) ?_
          rintro _ X21 ⟨w22, rfl, hR21⟩ hok21 hle21
          refine fx_qc hR21 ?_
          show fx_W _ _ _ 86 lv12 [.int w22, .int w20, .ref p2, .int w18, .int w16, .ref p1, .ref p2] _ _
          refine fx_cv aj_d180 rfl (Nat.le_succ _) rfl [_, _, _, _, _, _] rfl rfl (gx_130_ok p2 p1 w16 w18 p2 w20 w22) ?_
          rintro _ X23 ⟨w24, rfl, hR23⟩ hok23 hle23
          refine fx_qc hR23 ?_
          show fx_W _ _ _ 89 lv12 [.int w24] _ _
          refine fx_s0 (j := 12) aj_d180 rfl (Nat.le_succ _) (by decide) (fun _ => rfl) ?_
          obtain ⟨lv25, elv25⟩ : ∃ l, l = aj_set1 lv12 12 (.int w24) := ⟨_, rfl⟩
          rw [← elv25]
          have hlv25_0 : aj_lv lv25 0 = some (.ref 107) := fx_e1 elv25 hlv12_0 (by decide) (Or.inl (by decide))
          have hlv25_1 : aj_lv lv25 1 = some (.ref p1) := fx_e1 elv25 hlv12_1 (by decide) (Or.inl (by decide))
          have hlv25_2 : aj_lv lv25 2 = some (.ref p2) := fx_e1 elv25 hlv12_2 (by decide) (Or.inl (by decide))
          have hlv25_4 : aj_lv lv25 4 = some (.int p4) := fx_e1 elv25 hlv12_4 (by decide) (Or.inl (by decide))
          have hlv25_5 : aj_lv lv25 5 = some (.int p5) := fx_e1 elv25 hlv12_5 (by decide) (Or.inl (by decide))
          have hlv25_7 : aj_lv lv25 7 = some (.int y7) := fx_e1 elv25 hlv12_7 (by decide) (Or.inl (by decide))
          have hlv25_8 : aj_lv lv25 8 = some (.int y8) := fx_e1 elv25 hlv12_8 (by decide) (Or.inl (by decide))
          have hlv25_9 : aj_lv lv25 9 = some (.int y9) := fx_e1 elv25 hlv12_9 (by decide) (Or.inl (by decide))
          have hlv25_10 : aj_lv lv25 10 = some (.int w8) := fx_e1 elv25 hlv12_10 (by decide) (Or.inl (by decide))
          have hlv25_11 : aj_lv lv25 11 = some (.int w11) := fx_e1 elv25 hlv12_11 (by decide) (Or.inr rfl)
          have hlv25_12 : aj_lv lv25 12 = some (.int w24) := by rw [elv25]; exact ak_set1_eq _ _ _
          show fx_W _ _ _ 91 lv25 [] _ _
          refine fx_i0 aj_d180 rfl (Nat.le_succ _) (fun _ => rfl) hlv25_12 ?_
          refine fx_b0 (tgt := 101) aj_d180 rfl (Nat.le_succ _) rfl (fun q26 => ?_) (fun q26 => ?_)
          · skip
            refine fx_qe (c := (w24).toInt < 0) (fx_t_ge q26) ?_
            show fx_W _ _ _ 101 lv25 [] _ _
            refine fx_i0 aj_d180 rfl (Nat.le_succ _) (fun _ => rfl) hlv25_12 ?_
            refine fx_b0 (tgt := 111) aj_d180 rfl (Nat.le_succ _) rfl (fun q27 => ?_) (fun q27 => ?_)
            · skip
              refine fx_qe (c := 0 < (w24).toInt) (fx_t_le q27) ?_
              show fx_W _ _ _ 111 lv25 [] _ _
              refine fx_i0 aj_d180 rfl (Nat.le_succ _) (fun _ => rfl) hlv25_10 ?_
              refine fx_i0 aj_d180 rfl (Nat.le_succ _) (fun _ => rfl) hlv25_11 ?_
              refine fx_cs aj_d180 rfl (Nat.le_succ _) rfl rfl [_] rfl rfl (gx_184_ok w11) ?_
              rintro _ X28 ⟨w29, rfl, hR28⟩ hok28 hle28
              refine fx_qc hR28 ?_
              show fx_W _ _ _ 118 lv25 [.int w29, .int w8] _ _
              refine fx_n (pc' := 120) (lv' := lv25) (st' := [.int (Int32.ofInt 32768), .int w29, .int w8]) aj_d180 rfl (Nat.le_succ _) (fun _ => rfl) ?_
              refine fx_n (pc' := 121) (lv' := lv25) (st' := [.int (w29 * (Int32.ofInt 32768)), .int w8]) aj_d180 rfl (Nat.le_succ _) (fun _ => rfl) ?_
              refine fx_n (pc' := 122) (lv' := lv25) (st' := [.int (w8 + (w29 * (Int32.ofInt 32768)))]) aj_d180 rfl (Nat.le_succ _) (fun _ => rfl) ?_
              refine fx_qxI (fun x30 ex30 => ?_)
              refine fx_s0 (j := 13) aj_d180 rfl (Nat.le_succ _) (by decide) (fun _ => rfl) ?_
              obtain ⟨lv31, elv31⟩ : ∃ l, l = aj_set1 lv25 13 (.int x30) := ⟨_, rfl⟩
              rw [← elv31]
              have hlv31_0 : aj_lv lv31 0 = some (.ref 107) := fx_e1 elv31 hlv25_0 (by decide) (Or.inl (by decide))
              have hlv31_1 : aj_lv lv31 1 = some (.ref p1) := fx_e1 elv31 hlv25_1 (by decide) (Or.inl (by decide))
              have hlv31_2 : aj_lv lv31 2 = some (.ref p2) := fx_e1 elv31 hlv25_2 (by decide) (Or.inl (by decide))
              have hlv31_4 : aj_lv lv31 4 = some (.int p4) := fx_e1 elv31 hlv25_4 (by decide) (Or.inl (by decide))
              have hlv31_5 : aj_lv lv31 5 = some (.int p5) := fx_e1 elv31 hlv25_5 (by decide) (Or.inl (by decide))
              have hlv31_7 : aj_lv lv31 7 = some (.int y7) := fx_e1 elv31 hlv25_7 (by decide) (Or.inl (by decide))
              have hlv31_8 : aj_lv lv31 8 = some (.int y8) := fx_e1 elv31 hlv25_8 (by decide) (Or.inl (by decide))
              have hlv31_9 : aj_lv lv31 9 = some (.int y9) := fx_e1 elv31 hlv25_9 (by decide) (Or.inl (by decide))
              have hlv31_12 : aj_lv lv31 12 = some (.int w24) := fx_e1 elv31 hlv25_12 (by decide) (Or.inr rfl)
              have hlv31_13 : aj_lv lv31 13 = some (.int x30) := by rw [elv31]; exact ak_set1_eq _ _ _
              show fx_W _ _ _ 124 lv31 [] _ _
              refine fx_i2 aj_d180 rfl (Nat.le_succ _) (fun _ => rfl) hlv31_0 ?_
              refine fx_gR aj_d180 rfl (Nat.le_succ _) rfl rfl (Or.inr ⟨_, rfl⟩) (fun _ z => absurd (by decide) z) (fun b33 q32 => ?_)
              show fx_W _ _ _ 128 lv31 [.ref b33] _ _
              refine fx_qs q32 ?_
              refine fx_i0 aj_d180 rfl (Nat.le_succ _) (fun _ => rfl) hlv31_9 ?_
              refine fx_i0 aj_d180 rfl (Nat.le_succ _) (fun _ => rfl) hlv31_13 ?_
              refine fx_cs aj_d180 rfl (Nat.le_succ _) rfl rfl [_, _, _] rfl rfl (gx_178_ok b33 y9 x30) ?_
              rintro _ X34 ⟨w35, rfl, hR34⟩ hok34 hle34
              refine fx_qc hR34 ?_
              show fx_W _ _ _ 135 lv31 [] _ _
              refine fx_incq aj_d180 rfl (Nat.le_succ _) hlv31_9 (by decide) (fun x36 ex36 => ?_)
              obtain ⟨lv37, elv37⟩ : ∃ l, l = aj_set1 lv31 9 (.int x36) := ⟨_, rfl⟩
              rw [← elv37]
              have hlv37_0 : aj_lv lv37 0 = some (.ref 107) := fx_e1 elv37 hlv31_0 (by decide) (Or.inl (by decide))
              have hlv37_1 : aj_lv lv37 1 = some (.ref p1) := fx_e1 elv37 hlv31_1 (by decide) (Or.inl (by decide))
              have hlv37_2 : aj_lv lv37 2 = some (.ref p2) := fx_e1 elv37 hlv31_2 (by decide) (Or.inl (by decide))
              have hlv37_4 : aj_lv lv37 4 = some (.int p4) := fx_e1 elv37 hlv31_4 (by decide) (Or.inl (by decide))
              have hlv37_5 : aj_lv lv37 5 = some (.int p5) := fx_e1 elv37 hlv31_5 (by decide) (Or.inl (by decide))
              have hlv37_7 : aj_lv lv37 7 = some (.int y7) := fx_e1 elv37 hlv31_7 (by decide) (Or.inl (by decide))
              have hlv37_8 : aj_lv lv37 8 = some (.int y8) := fx_e1 elv37 hlv31_8 (by decide) (Or.inr rfl)
              have hlv37_12 : aj_lv lv37 12 = some (.int w24) := fx_e1 elv37 hlv31_12 (by decide) (Or.inl (by decide))
              have hlv37_9 : aj_lv lv37 9 = some (.int x36) := by rw [elv37]; exact ak_set1_eq _ _ _
              show fx_W _ _ _ 138 lv37 [] _ _
              refine fx_i0 aj_d180 rfl (Nat.le_succ _) (fun _ => rfl) hlv37_7 ?_
              refine fx_i0 aj_d180 rfl (Nat.le_succ _) (fun _ => rfl) hlv37_12 ?_
              refine fx_b0 (tgt := 149) aj_d180 rfl (Nat.le_succ _) rfl (fun q38 => ?_) (fun q38 => ?_)
              · skip
                refine fx_qi (c := 0 < (w24).toInt) (fx_t_gt q38) ?_
                show fx_W _ _ _ 149 lv37 [.int y7] _ _
                refine fx_n (pc' := 150) (lv' := lv37) (st' := [.int (Int32.ofInt 0), .int y7]) aj_d180 rfl (Nat.le_succ _) (fun _ => rfl) ?_
                refine fx_n (pc' := 151) (lv' := lv37) (st' := [.int (y7 + (Int32.ofInt 0))]) aj_d180 rfl (Nat.le_succ _) (fun _ => rfl) ?_
                refine fx_qxI (fun x39 ex39 => ?_)
                refine fx_s0 (j := 7) aj_d180 rfl (Nat.le_succ _) (by decide) (fun _ => rfl) ?_
                obtain ⟨lv40, elv40⟩ : ∃ l, l = aj_set1 lv37 7 (.int x39) := ⟨_, rfl⟩
                rw [← elv40]
                have hlv40_0 : aj_lv lv40 0 = some (.ref 107) := fx_e1 elv40 hlv37_0 (by decide) (Or.inl (by decide))
                have hlv40_1 : aj_lv lv40 1 = some (.ref p1) := fx_e1 elv40 hlv37_1 (by decide) (Or.inl (by decide))
                have hlv40_2 : aj_lv lv40 2 = some (.ref p2) := fx_e1 elv40 hlv37_2 (by decide) (Or.inl (by decide))
                have hlv40_4 : aj_lv lv40 4 = some (.int p4) := fx_e1 elv40 hlv37_4 (by decide) (Or.inl (by decide))
                have hlv40_5 : aj_lv lv40 5 = some (.int p5) := fx_e1 elv40 hlv37_5 (by decide) (Or.inl (by decide))
                have hlv40_8 : aj_lv lv40 8 = some (.int y8) := fx_e1 elv40 hlv37_8 (by decide) (Or.inl (by decide))
                have hlv40_12 : aj_lv lv40 12 = some (.int w24) := fx_e1 elv40 hlv37_12 (by decide) (Or.inl (by decide))
                have hlv40_9 : aj_lv lv40 9 = some (.int x36) := fx_e1 elv40 hlv37_9 (by decide) (Or.inl (by decide))
                have hlv40_7 : aj_lv lv40 7 = some (.int x39) := by rw [elv40]; exact ak_set1_eq _ _ _
                show fx_W _ _ _ 153 lv40 [] _ _
                refine fx_i0 aj_d180 rfl (Nat.le_succ _) (fun _ => rfl) hlv40_8 ?_
                refine fx_i0 aj_d180 rfl (Nat.le_succ _) (fun _ => rfl) hlv40_12 ?_
                refine fx_b0 (tgt := 164) aj_d180 rfl (Nat.le_succ _) rfl (fun q41 => ?_) (fun q41 => ?_)
                · skip
                  refine fx_qi (c := (w24).toInt < 0) (fx_t_lt q41) ?_
                  show fx_W _ _ _ 164 lv40 [.int y8] _ _
                  refine fx_n (pc' := 165) (lv' := lv40) (st' := [.int (Int32.ofInt 0), .int y8]) aj_d180 rfl (Nat.le_succ _) (fun _ => rfl) ?_
                  refine fx_n (pc' := 166) (lv' := lv40) (st' := [.int (y8 + (Int32.ofInt 0))]) aj_d180 rfl (Nat.le_succ _) (fun _ => rfl) ?_
                  refine fx_qxI (fun x42 ex42 => ?_)
                  refine fx_s0 (j := 8) aj_d180 rfl (Nat.le_succ _) (by decide) (fun _ => rfl) ?_
                  obtain ⟨lv43, elv43⟩ : ∃ l, l = aj_set1 lv40 8 (.int x42) := ⟨_, rfl⟩
                  rw [← elv43]
                  have hlv43_0 : aj_lv lv43 0 = some (.ref 107) := fx_e1 elv43 hlv40_0 (by decide) (Or.inl (by decide))
                  have hlv43_1 : aj_lv lv43 1 = some (.ref p1) := fx_e1 elv43 hlv40_1 (by decide) (Or.inl (by decide))
                  have hlv43_2 : aj_lv lv43 2 = some (.ref p2) := fx_e1 elv43 hlv40_2 (by decide) (Or.inl (by decide))
                  have hlv43_4 : aj_lv lv43 4 = some (.int p4) := fx_e1 elv43 hlv40_4 (by decide) (Or.inl (by decide))
                  have hlv43_5 : aj_lv lv43 5 = some (.int p5) := fx_e1 elv43 hlv40_5 (by decide) (Or.inl (by decide))
                  have hlv43_9 : aj_lv lv43 9 = some (.int x36) := fx_e1 elv43 hlv40_9 (by decide) (Or.inl (by decide))
                  have hlv43_7 : aj_lv lv43 7 = some (.int x39) := fx_e1 elv43 hlv40_7 (by decide) (Or.inr rfl)
                  have hlv43_8 : aj_lv lv43 8 = some (.int x42) := by rw [elv43]; exact ak_set1_eq _ _ _
                  show fx_W _ _ _ 168 lv43 [] _ _
                  refine fx_n (pc' := 11) (lv' := lv43) (st' := []) aj_d180 rfl (Nat.le_succ _) (fun _ => rfl) ?_
                  exact (ih.1) lv43 (x39) (x42) (x36) X34  hlv43_0 hlv43_1 hlv43_2 hlv43_4 hlv43_5 hlv43_7 hlv43_8 hlv43_9
                · skip
                  refine fx_qe (c := (w24).toInt < 0) (fx_f_lt q41) ?_
                  show fx_W _ _ _ 160 lv40 [.int y8] _ _
                  refine fx_n (pc' := 161) (lv' := lv40) (st' := [.int (Int32.ofInt 1), .int y8]) aj_d180 rfl (Nat.le_succ _) (fun _ => rfl) ?_
                  refine fx_n (pc' := 165) (lv' := lv40) (st' := [.int (Int32.ofInt 1), .int y8]) aj_d180 rfl (Nat.le_succ _) (fun _ => rfl) ?_
                  refine fx_n (pc' := 166) (lv' := lv40) (st' := [.int (y8 + (Int32.ofInt 1))]) aj_d180 rfl (Nat.le_succ _) (fun _ => rfl) ?_
                  refine fx_qxI (fun x44 ex44 => ?_)
                  refine fx_s0 (j := 8) aj_d180 rfl (Nat.le_succ _) (by decide) (fun _ => rfl) ?_
                  obtain ⟨lv45, elv45⟩ : ∃ l, l = aj_set1 lv40 8 (.int x44) := ⟨_, rfl⟩
                  rw [← elv45]
                  have hlv45_0 : aj_lv lv45 0 = some (.ref 107) := fx_e1 elv45 hlv40_0 (by decide) (Or.inl (by decide))
                  have hlv45_1 : aj_lv lv45 1 = some (.ref p1) := fx_e1 elv45 hlv40_1 (by decide) (Or.inl (by decide))
                  have hlv45_2 : aj_lv lv45 2 = some (.ref p2) := fx_e1 elv45 hlv40_2 (by decide) (Or.inl (by decide))
                  have hlv45_4 : aj_lv lv45 4 = some (.int p4) := fx_e1 elv45 hlv40_4 (by decide) (Or.inl (by decide))
                  have hlv45_5 : aj_lv lv45 5 = some (.int p5) := fx_e1 elv45 hlv40_5 (by decide) (Or.inl (by decide))
                  have hlv45_9 : aj_lv lv45 9 = some (.int x36) := fx_e1 elv45 hlv40_9 (by decide) (Or.inl (by decide))
                  have hlv45_7 : aj_lv lv45 7 = some (.int x39) := fx_e1 elv45 hlv40_7 (by decide) (Or.inr rfl)
                  have hlv45_8 : aj_lv lv45 8 = some (.int x44) := by rw [elv45]; exact ak_set1_eq _ _ _
                  show fx_W _ _ _ 168 lv45 [] _ _
                  refine fx_n (pc' := 11) (lv' := lv45) (st' := []) aj_d180 rfl (Nat.le_succ _) (fun _ => rfl) ?_
                  exact (ih.1) lv45 (x39) (x44) (x36) X34  hlv45_0 hlv45_1 hlv45_2 hlv45_4 hlv45_5 hlv45_7 hlv45_8 hlv45_9
              · skip
                refine fx_qe (c := 0 < (w24).toInt) (fx_f_gt q38) ?_
                show fx_W _ _ _ 145 lv37 [.int y7] _ _
                refine fx_n (pc' := 146) (lv' := lv37) (st' := [.int (Int32.ofInt 1), .int y7]) aj_d180 rfl (Nat.le_succ _) (fun _ => rfl) ?_
                refine fx_n (pc' := 150) (lv' := lv37) (st' := [.int (Int32.ofInt 1), .int y7]) aj_d180 rfl (Nat.le_succ _) (fun _ => rfl) ?_
                refine fx_n (pc' := 151) (lv' := lv37) (st' := [.int (y7 + (Int32.ofInt 1))]) aj_d180 rfl (Nat.le_succ _) (fun _ => rfl) ?_
                refine fx_qxI (fun x46 ex46 => ?_)
                refine fx_s0 (j := 7) aj_d180 rfl (Nat.le_succ _) (by decide) (fun _ => rfl) ?_
                obtain ⟨lv47, elv47⟩ : ∃ l, l = aj_set1 lv37 7 (.int x46) := ⟨_, rfl⟩
                rw [← elv47]
                have hlv47_0 : aj_lv lv47 0 = some (.ref 107) := fx_e1 elv47 hlv37_0 (by decide) (Or.inl (by decide))
                have hlv47_1 : aj_lv lv47 1 = some (.ref p1) := fx_e1 elv47 hlv37_1 (by decide) (Or.inl (by decide))
                have hlv47_2 : aj_lv lv47 2 = some (.ref p2) := fx_e1 elv47 hlv37_2 (by decide) (Or.inl (by decide))
                have hlv47_4 : aj_lv lv47 4 = some (.int p4) := fx_e1 elv47 hlv37_4 (by decide) (Or.inl (by decide))
                have hlv47_5 : aj_lv lv47 5 = some (.int p5) := fx_e1 elv47 hlv37_5 (by decide) (Or.inl (by decide))
                have hlv47_8 : aj_lv lv47 8 = some (.int y8) := fx_e1 elv47 hlv37_8 (by decide) (Or.inl (by decide))
                have hlv47_12 : aj_lv lv47 12 = some (.int w24) := fx_e1 elv47 hlv37_12 (by decide) (Or.inl (by decide))
                have hlv47_9 : aj_lv lv47 9 = some (.int x36) := fx_e1 elv47 hlv37_9 (by decide) (Or.inl (by decide))
                have hlv47_7 : aj_lv lv47 7 = some (.int x46) := by rw [elv47]; exact ak_set1_eq _ _ _
                show fx_W _ _ _ 153 lv47 [] _ _
                refine fx_i0 aj_d180 rfl (Nat.le_succ _) (fun _ => rfl) hlv47_8 ?_
                refine fx_i0 aj_d180 rfl (Nat.le_succ _) (fun _ => rfl) hlv47_12 ?_
                refine fx_b0 (tgt := 164) aj_d180 rfl (Nat.le_succ _) rfl (fun q48 => ?_) (fun q48 => ?_)
                · skip
                  refine fx_qi (c := (w24).toInt < 0) (fx_t_lt q48) ?_
                  show fx_W _ _ _ 164 lv47 [.int y8] _ _
                  refine fx_n (pc' := 165) (lv' := lv47) (st' := [.int (Int32.ofInt 0), .int y8]) aj_d180 rfl (Nat.le_succ _) (fun _ => rfl) ?_
                  refine fx_n (pc' := 166) (lv' := lv47) (st' := [.int (y8 + (Int32.ofInt 0))]) aj_d180 rfl (Nat.le_succ _) (fun _ => rfl) ?_
                  refine fx_qxI (fun x49 ex49 => ?_)
                  refine fx_s0 (j := 8) aj_d180 rfl (Nat.le_succ _) (by decide) (fun _ => rfl) ?_
                  obtain ⟨lv50, elv50⟩ : ∃ l, l = aj_set1 lv47 8 (.int x49) := ⟨_, rfl⟩
                  rw [← elv50]
                  have hlv50_0 : aj_lv lv50 0 = some (.ref 107) := fx_e1 elv50 hlv47_0 (by decide) (Or.inl (by decide))
                  have hlv50_1 : aj_lv lv50 1 = some (.ref p1) := fx_e1 elv50 hlv47_1 (by decide) (Or.inl (by decide))
                  have hlv50_2 : aj_lv lv50 2 = some (.ref p2) := fx_e1 elv50 hlv47_2 (by decide) (Or.inl (by decide))
                  have hlv50_4 : aj_lv lv50 4 = some (.int p4) := fx_e1 elv50 hlv47_4 (by decide) (Or.inl (by decide))
                  have hlv50_5 : aj_lv lv50 5 = some (.int p5) := fx_e1 elv50 hlv47_5 (by decide) (Or.inl (by decide))
                  have hlv50_9 : aj_lv lv50 9 = some (.int x36) := fx_e1 elv50 hlv47_9 (by decide) (Or.inl (by decide))
                  have hlv50_7 : aj_lv lv50 7 = some (.int x46) := fx_e1 elv50 hlv47_7 (by decide) (Or.inr rfl)
                  have hlv50_8 : aj_lv lv50 8 = some (.int x49) := by rw [elv50]; exact ak_set1_eq _ _ _
                  show fx_W _ _ _ 168 lv50 [] _ _
                  refine fx_n (pc' := 11) (lv' := lv50) (st' := []) aj_d180 rfl (Nat.le_succ _) (fun _ => rfl) ?_
                  exact (ih.1) lv50 (x46) (x49) (x36) X34  hlv50_0 hlv50_1 hlv50_2 hlv50_4 hlv50_5 hlv50_7 hlv50_8 hlv50_9
                · skip
                  refine fx_qe (c := (w24).toInt < 0) (fx_f_lt q48) ?_
                  show fx_W _ _ _ 160 lv47 [.int y8] _ _
                  refine fx_n (pc' := 161) (lv' := lv47) (st' := [.int (Int32.ofInt 1), .int y8]) aj_d180 rfl (Nat.le_succ _) (fun _ => rfl) ?_
                  refine fx_n (pc' := 165) (lv' := lv47) (st' := [.int (Int32.ofInt 1), .int y8]) aj_d180 rfl (Nat.le_succ _) (fun _ => rfl) ?_
                  refine fx_n (pc' := 166) (lv' := lv47) (st' := [.int (y8 + (Int32.ofInt 1))]) aj_d180 rfl (Nat.le_succ _) (fun _ => rfl) ?_
                  refine fx_qxI (fun x51 ex51 => ?_)
                  refine fx_s0 (j := 8) aj_d180 rfl (Nat.le_succ _) (by decide) (fun _ => rfl) ?_
                  obtain ⟨lv52, elv52⟩ : ∃ l, l = aj_set1 lv47 8 (.int x51) := ⟨_, rfl⟩
                  rw [← elv52]
                  have hlv52_0 : aj_lv lv52 0 = some (.ref 107) := fx_e1 elv52 hlv47_0 (by decide) (Or.inl (by decide))
                  have hlv52_1 : aj_lv lv52 1 = some (.ref p1) := fx_e1 elv52 hlv47_1 (by decide) (Or.inl (by decide))
                  have hlv52_2 : aj_lv lv52 2 = some (.ref p2) := fx_e1 elv52 hlv47_2 (by decide) (Or.inl (by decide))
                  have hlv52_4 : aj_lv lv52 4 = some (.int p4) := fx_e1 elv52 hlv47_4 (by decide) (Or.inl (by decide))
                  have hlv52_5 : aj_lv lv52 5 = some (.int p5) := fx_e1 elv52 hlv47_5 (by decide) (Or.inl (by decide))
                  have hlv52_9 : aj_lv lv52 9 = some (.int x36) := fx_e1 elv52 hlv47_9 (by decide) (Or.inl (by decide))
                  have hlv52_7 : aj_lv lv52 7 = some (.int x46) := fx_e1 elv52 hlv47_7 (by decide) (Or.inr rfl)
                  have hlv52_8 : aj_lv lv52 8 = some (.int x51) := by rw [elv52]; exact ak_set1_eq _ _ _
                  show fx_W _ _ _ 168 lv52 [] _ _
                  refine fx_n (pc' := 11) (lv' := lv52) (st' := []) aj_d180 rfl (Nat.le_succ _) (fun _ => rfl) ?_
                  exact (ih.1) lv52 (x46) (x51) (x36) X34  hlv52_0 hlv52_1 hlv52_2 hlv52_4 hlv52_5 hlv52_7 hlv52_8 hlv52_9
            · skip
              refine fx_qi (c := 0 < (w24).toInt) (fx_f_le q27) ?_
              show fx_W _ _ _ 106 lv25 [] _ _
              refine fx_i0 aj_d180 rfl (Nat.le_succ _) (fun _ => rfl) hlv25_11 ?_
              refine fx_n (pc' := 122) (lv' := lv25) (st' := [.int w11]) aj_d180 rfl (Nat.le_succ _) (fun _ => rfl) ?_
              refine fx_s0 (j := 13) aj_d180 rfl (Nat.le_succ _) (by decide) (fun _ => rfl) ?_
              obtain ⟨lv53, elv53⟩ : ∃ l, l = aj_set1 lv25 13 (.int w11) := ⟨_, rfl⟩
              rw [← elv53]
              have hlv53_0 : aj_lv lv53 0 = some (.ref 107) := fx_e1 elv53 hlv25_0 (by decide) (Or.inl (by decide))
              have hlv53_1 : aj_lv lv53 1 = some (.ref p1) := fx_e1 elv53 hlv25_1 (by decide) (Or.inl (by decide))
              have hlv53_2 : aj_lv lv53 2 = some (.ref p2) := fx_e1 elv53 hlv25_2 (by decide) (Or.inl (by decide))
              have hlv53_4 : aj_lv lv53 4 = some (.int p4) := fx_e1 elv53 hlv25_4 (by decide) (Or.inl (by decide))
              have hlv53_5 : aj_lv lv53 5 = some (.int p5) := fx_e1 elv53 hlv25_5 (by decide) (Or.inl (by decide))
              have hlv53_7 : aj_lv lv53 7 = some (.int y7) := fx_e1 elv53 hlv25_7 (by decide) (Or.inl (by decide))
              have hlv53_8 : aj_lv lv53 8 = some (.int y8) := fx_e1 elv53 hlv25_8 (by decide) (Or.inl (by decide))
              have hlv53_9 : aj_lv lv53 9 = some (.int y9) := fx_e1 elv53 hlv25_9 (by decide) (Or.inl (by decide))
              have hlv53_12 : aj_lv lv53 12 = some (.int w24) := fx_e1 elv53 hlv25_12 (by decide) (Or.inr rfl)
              have hlv53_13 : aj_lv lv53 13 = some (.int w11) := by rw [elv53]; exact ak_set1_eq _ _ _
              show fx_W _ _ _ 124 lv53 [] _ _
              refine fx_i2 aj_d180 rfl (Nat.le_succ _) (fun _ => rfl) hlv53_0 ?_
              refine fx_gR aj_d180 rfl (Nat.le_succ _) rfl rfl (Or.inr ⟨_, rfl⟩) (fun _ z => absurd (by decide) z) (fun b55 q54 => ?_)
              show fx_W _ _ _ 128 lv53 [.ref b55] _ _
              refine fx_qs q54 ?_
              refine fx_i0 aj_d180 rfl (Nat.le_succ _) (fun _ => rfl) hlv53_9 ?_
              refine fx_i0 aj_d180 rfl (Nat.le_succ _) (fun _ => rfl) hlv53_13 ?_
              refine fx_cs aj_d180 rfl (Nat.le_succ _) rfl rfl [_, _, _] rfl rfl (gx_178_ok b55 y9 w11) ?_
              rintro _ X56 ⟨w57, rfl, hR56⟩ hok56 hle56
              refine fx_qc hR56 ?_
              show fx_W _ _ _ 135 lv53 [] _ _
              refine fx_incq aj_d180 rfl (Nat.le_succ _) hlv53_9 (by decide) (fun x58 ex58 => ?_)
              obtain ⟨lv59, elv59⟩ : ∃ l, l = aj_set1 lv53 9 (.int x58) := ⟨_, rfl⟩
              rw [← elv59]
              have hlv59_0 : aj_lv lv59 0 = some (.ref 107) := fx_e1 elv59 hlv53_0 (by decide) (Or.inl (by decide))
              have hlv59_1 : aj_lv lv59 1 = some (.ref p1) := fx_e1 elv59 hlv53_1 (by decide) (Or.inl (by decide))
              have hlv59_2 : aj_lv lv59 2 = some (.ref p2) := fx_e1 elv59 hlv53_2 (by decide) (Or.inl (by decide))
              have hlv59_4 : aj_lv lv59 4 = some (.int p4) := fx_e1 elv59 hlv53_4 (by decide) (Or.inl (by decide))
              have hlv59_5 : aj_lv lv59 5 = some (.int p5) := fx_e1 elv59 hlv53_5 (by decide) (Or.inl (by decide))
              have hlv59_7 : aj_lv lv59 7 = some (.int y7) := fx_e1 elv59 hlv53_7 (by decide) (Or.inl (by decide))
              have hlv59_8 : aj_lv lv59 8 = some (.int y8) := fx_e1 elv59 hlv53_8 (by decide) (Or.inr rfl)
              have hlv59_12 : aj_lv lv59 12 = some (.int w24) := fx_e1 elv59 hlv53_12 (by decide) (Or.inl (by decide))
              have hlv59_9 : aj_lv lv59 9 = some (.int x58) := by rw [elv59]; exact ak_set1_eq _ _ _
              show fx_W _ _ _ 138 lv59 [] _ _
              refine fx_i0 aj_d180 rfl (Nat.le_succ _) (fun _ => rfl) hlv59_7 ?_
              refine fx_i0 aj_d180 rfl (Nat.le_succ _) (fun _ => rfl) hlv59_12 ?_
              refine fx_b0 (tgt := 149) aj_d180 rfl (Nat.le_succ _) rfl (fun q60 => ?_) (fun q60 => ?_)
              · skip
                refine fx_qi (c := 0 < (w24).toInt) (fx_t_gt q60) ?_
                show fx_W _ _ _ 149 lv59 [.int y7] _ _
                refine fx_n (pc' := 150) (lv' := lv59) (st' := [.int (Int32.ofInt 0), .int y7]) aj_d180 rfl (Nat.le_succ _) (fun _ => rfl) ?_
                refine fx_n (pc' := 151) (lv' := lv59) (st' := [.int (y7 + (Int32.ofInt 0))]) aj_d180 rfl (Nat.le_succ _) (fun _ => rfl) ?_
                refine fx_qxI (fun x61 ex61 => ?_)
                refine fx_s0 (j := 7) aj_d180 rfl (Nat.le_succ _) (by decide) (fun _ => rfl) ?_
                obtain ⟨lv62, elv62⟩ : ∃ l, l = aj_set1 lv59 7 (.int x61) := ⟨_, rfl⟩
                rw [← elv62]
                have hlv62_0 : aj_lv lv62 0 = some (.ref 107) := fx_e1 elv62 hlv59_0 (by decide) (Or.inl (by decide))
                have hlv62_1 : aj_lv lv62 1 = some (.ref p1) := fx_e1 elv62 hlv59_1 (by decide) (Or.inl (by decide))
                have hlv62_2 : aj_lv lv62 2 = some (.ref p2) := fx_e1 elv62 hlv59_2 (by decide) (Or.inl (by decide))
                have hlv62_4 : aj_lv lv62 4 = some (.int p4) := fx_e1 elv62 hlv59_4 (by decide) (Or.inl (by decide))
                have hlv62_5 : aj_lv lv62 5 = some (.int p5) := fx_e1 elv62 hlv59_5 (by decide) (Or.inl (by decide))
                have hlv62_8 : aj_lv lv62 8 = some (.int y8) := fx_e1 elv62 hlv59_8 (by decide) (Or.inl (by decide))
                have hlv62_12 : aj_lv lv62 12 = some (.int w24) := fx_e1 elv62 hlv59_12 (by decide) (Or.inl (by decide))
                have hlv62_9 : aj_lv lv62 9 = some (.int x58) := fx_e1 elv62 hlv59_9 (by decide) (Or.inl (by decide))
                have hlv62_7 : aj_lv lv62 7 = some (.int x61) := by rw [elv62]; exact ak_set1_eq _ _ _
                show fx_W _ _ _ 153 lv62 [] _ _
                refine fx_i0 aj_d180 rfl (Nat.le_succ _) (fun _ => rfl) hlv62_8 ?_
                refine fx_i0 aj_d180 rfl (Nat.le_succ _) (fun _ => rfl) hlv62_12 ?_
                refine fx_b0 (tgt := 164) aj_d180 rfl (Nat.le_succ _) rfl (fun q63 => ?_) (fun q63 => ?_)
                · skip
                  refine fx_qi (c := (w24).toInt < 0) (fx_t_lt q63) ?_
                  show fx_W _ _ _ 164 lv62 [.int y8] _ _
                  refine fx_n (pc' := 165) (lv' := lv62) (st' := [.int (Int32.ofInt 0), .int y8]) aj_d180 rfl (Nat.le_succ _) (fun _ => rfl) ?_
                  refine fx_n (pc' := 166) (lv' := lv62) (st' := [.int (y8 + (Int32.ofInt 0))]) aj_d180 rfl (Nat.le_succ _) (fun _ => rfl) ?_
                  refine fx_qxI (fun x64 ex64 => ?_)
                  refine fx_s0 (j := 8) aj_d180 rfl (Nat.le_succ _) (by decide) (fun _ => rfl) ?_
                  obtain ⟨lv65, elv65⟩ : ∃ l, l = aj_set1 lv62 8 (.int x64) := ⟨_, rfl⟩
                  rw [← elv65]
                  have hlv65_0 : aj_lv lv65 0 = some (.ref 107) := fx_e1 elv65 hlv62_0 (by decide) (Or.inl (by decide))
                  have hlv65_1 : aj_lv lv65 1 = some (.ref p1) := fx_e1 elv65 hlv62_1 (by decide) (Or.inl (by decide))
                  have hlv65_2 : aj_lv lv65 2 = some (.ref p2) := fx_e1 elv65 hlv62_2 (by decide) (Or.inl (by decide))
                  have hlv65_4 : aj_lv lv65 4 = some (.int p4) := fx_e1 elv65 hlv62_4 (by decide) (Or.inl (by decide))
                  have hlv65_5 : aj_lv lv65 5 = some (.int p5) := fx_e1 elv65 hlv62_5 (by decide) (Or.inl (by decide))
                  have hlv65_9 : aj_lv lv65 9 = some (.int x58) := fx_e1 elv65 hlv62_9 (by decide) (Or.inl (by decide))
                  have hlv65_7 : aj_lv lv65 7 = some (.int x61) := fx_e1 elv65 hlv62_7 (by decide) (Or.inr rfl)
                  have hlv65_8 : aj_lv lv65 8 = some (.int x64) := by rw [elv65]; exact ak_set1_eq _ _ _
                  show fx_W _ _ _ 168 lv65 [] _ _
                  refine fx_n (pc' := 11) (lv' := lv65) (st' := []) aj_d180 rfl (Nat.le_succ _) (fun _ => rfl) ?_
                  exact (ih.1) lv65 (x61) (x64) (x58) X56  hlv65_0 hlv65_1 hlv65_2 hlv65_4 hlv65_5 hlv65_7 hlv65_8 hlv65_9
                · skip
                  refine fx_qe (c := (w24).toInt < 0) (fx_f_lt q63) ?_
                  show fx_W _ _ _ 160 lv62 [.int y8] _ _
                  refine fx_n (pc' := 161) (lv' := lv62) (st' := [.int (Int32.ofInt 1), .int y8]) aj_d180 rfl (Nat.le_succ _) (fun _ => rfl) ?_
                  refine fx_n (pc' := 165) (lv' := lv62) (st' := [.int (Int32.ofInt 1), .int y8]) aj_d180 rfl (Nat.le_succ _) (fun _ => rfl) ?_
                  refine fx_n (pc' := 166) (lv' := lv62) (st' := [.int (y8 + (Int32.ofInt 1))]) aj_d180 rfl (Nat.le_succ _) (fun _ => rfl) ?_
                  refine fx_qxI (fun x66 ex66 => ?_)
                  refine fx_s0 (j := 8) aj_d180 rfl (Nat.le_succ _) (by decide) (fun _ => rfl) ?_
                  obtain ⟨lv67, elv67⟩ : ∃ l, l = aj_set1 lv62 8 (.int x66) := ⟨_, rfl⟩
                  rw [← elv67]
                  have hlv67_0 : aj_lv lv67 0 = some (.ref 107) := fx_e1 elv67 hlv62_0 (by decide) (Or.inl (by decide))
                  have hlv67_1 : aj_lv lv67 1 = some (.ref p1) := fx_e1 elv67 hlv62_1 (by decide) (Or.inl (by decide))
                  have hlv67_2 : aj_lv lv67 2 = some (.ref p2) := fx_e1 elv67 hlv62_2 (by decide) (Or.inl (by decide))
                  have hlv67_4 : aj_lv lv67 4 = some (.int p4) := fx_e1 elv67 hlv62_4 (by decide) (Or.inl (by decide))
                  have hlv67_5 : aj_lv lv67 5 = some (.int p5) := fx_e1 elv67 hlv62_5 (by decide) (Or.inl (by decide))
                  have hlv67_9 : aj_lv lv67 9 = some (.int x58) := fx_e1 elv67 hlv62_9 (by decide) (Or.inl (by decide))
                  have hlv67_7 : aj_lv lv67 7 = some (.int x61) := fx_e1 elv67 hlv62_7 (by decide) (Or.inr rfl)
                  have hlv67_8 : aj_lv lv67 8 = some (.int x66) := by rw [elv67]; exact ak_set1_eq _ _ _
                  show fx_W _ _ _ 168 lv67 [] _ _
                  refine fx_n (pc' := 11) (lv' := lv67) (st' := []) aj_d180 rfl (Nat.le_succ _) (fun _ => rfl) ?_
                  exact (ih.1) lv67 (x61) (x66) (x58) X56  hlv67_0 hlv67_1 hlv67_2 hlv67_4 hlv67_5 hlv67_7 hlv67_8 hlv67_9
              · skip
                refine fx_qe (c := 0 < (w24).toInt) (fx_f_gt q60) ?_
                show fx_W _ _ _ 145 lv59 [.int y7] _ _
                refine fx_n (pc' := 146) (lv' := lv59) (st' := [.int (Int32.ofInt 1), .int y7]) aj_d180 rfl (Nat.le_succ _) (fun _ => rfl) ?_
                refine fx_n (pc' := 150) (lv' := lv59) (st' := [.int (Int32.ofInt 1), .int y7]) aj_d180 rfl (Nat.le_succ _) (fun _ => rfl) ?_
                refine fx_n (pc' := 151) (lv' := lv59) (st' := [.int (y7 + (Int32.ofInt 1))]) aj_d180 rfl (Nat.le_succ _) (fun _ => rfl) ?_
                refine fx_qxI (fun x68 ex68 => ?_)
                refine fx_s0 (j := 7) aj_d180 rfl (Nat.le_succ _) (by decide) (fun _ => rfl) ?_
                obtain ⟨lv69, elv69⟩ : ∃ l, l = aj_set1 lv59 7 (.int x68) := ⟨_, rfl⟩
                rw [← elv69]
                have hlv69_0 : aj_lv lv69 0 = some (.ref 107) := fx_e1 elv69 hlv59_0 (by decide) (Or.inl (by decide))
                have hlv69_1 : aj_lv lv69 1 = some (.ref p1) := fx_e1 elv69 hlv59_1 (by decide) (Or.inl (by decide))
                have hlv69_2 : aj_lv lv69 2 = some (.ref p2) := fx_e1 elv69 hlv59_2 (by decide) (Or.inl (by decide))
                have hlv69_4 : aj_lv lv69 4 = some (.int p4) := fx_e1 elv69 hlv59_4 (by decide) (Or.inl (by decide))
                have hlv69_5 : aj_lv lv69 5 = some (.int p5) := fx_e1 elv69 hlv59_5 (by decide) (Or.inl (by decide))
                have hlv69_8 : aj_lv lv69 8 = some (.int y8) := fx_e1 elv69 hlv59_8 (by decide) (Or.inl (by decide))
                have hlv69_12 : aj_lv lv69 12 = some (.int w24) := fx_e1 elv69 hlv59_12 (by decide) (Or.inl (by decide))
                have hlv69_9 : aj_lv lv69 9 = some (.int x58) := fx_e1 elv69 hlv59_9 (by decide) (Or.inl (by decide))
                have hlv69_7 : aj_lv lv69 7 = some (.int x68) := by rw [elv69]; exact ak_set1_eq _ _ _
                show fx_W _ _ _ 153 lv69 [] _ _
                refine fx_i0 aj_d180 rfl (Nat.le_succ _) (fun _ => rfl) hlv69_8 ?_
                refine fx_i0 aj_d180 rfl (Nat.le_succ _) (fun _ => rfl) hlv69_12 ?_
                refine fx_b0 (tgt := 164) aj_d180 rfl (Nat.le_succ _) rfl (fun q70 => ?_) (fun q70 => ?_)
                · skip
                  refine fx_qi (c := (w24).toInt < 0) (fx_t_lt q70) ?_
                  show fx_W _ _ _ 164 lv69 [.int y8] _ _
                  refine fx_n (pc' := 165) (lv' := lv69) (st' := [.int (Int32.ofInt 0), .int y8]) aj_d180 rfl (Nat.le_succ _) (fun _ => rfl) ?_
                  refine fx_n (pc' := 166) (lv' := lv69) (st' := [.int (y8 + (Int32.ofInt 0))]) aj_d180 rfl (Nat.le_succ _) (fun _ => rfl) ?_
                  refine fx_qxI (fun x71 ex71 => ?_)
                  refine fx_s0 (j := 8) aj_d180 rfl (Nat.le_succ _) (by decide) (fun _ => rfl) ?_
                  obtain ⟨lv72, elv72⟩ : ∃ l, l = aj_set1 lv69 8 (.int x71) := ⟨_, rfl⟩
                  rw [← elv72]
                  have hlv72_0 : aj_lv lv72 0 = some (.ref 107) := fx_e1 elv72 hlv69_0 (by decide) (Or.inl (by decide))
                  have hlv72_1 : aj_lv lv72 1 = some (.ref p1) := fx_e1 elv72 hlv69_1 (by decide) (Or.inl (by decide))
                  have hlv72_2 : aj_lv lv72 2 = some (.ref p2) := fx_e1 elv72 hlv69_2 (by decide) (Or.inl (by decide))
                  have hlv72_4 : aj_lv lv72 4 = some (.int p4) := fx_e1 elv72 hlv69_4 (by decide) (Or.inl (by decide))
                  have hlv72_5 : aj_lv lv72 5 = some (.int p5) := fx_e1 elv72 hlv69_5 (by decide) (Or.inl (by decide))
                  have hlv72_9 : aj_lv lv72 9 = some (.int x58) := fx_e1 elv72 hlv69_9 (by decide) (Or.inl (by decide))
                  have hlv72_7 : aj_lv lv72 7 = some (.int x68) := fx_e1 elv72 hlv69_7 (by decide) (Or.inr rfl)
                  have hlv72_8 : aj_lv lv72 8 = some (.int x71) := by rw [elv72]; exact ak_set1_eq _ _ _
                  show fx_W _ _ _ 168 lv72 [] _ _
                  refine fx_n (pc' := 11) (lv' := lv72) (st' := []) aj_d180 rfl (Nat.le_succ _) (fun _ => rfl) ?_
                  exact (ih.1) lv72 (x68) (x71) (x58) X56  hlv72_0 hlv72_1 hlv72_2 hlv72_4 hlv72_5 hlv72_7 hlv72_8 hlv72_9
                · skip
                  refine fx_qe (c := (w24).toInt < 0) (fx_f_lt q70) ?_
                  show fx_W _ _ _ 160 lv69 [.int y8] _ _
                  refine fx_n (pc' := 161) (lv' := lv69) (st' := [.int (Int32.ofInt 1), .int y8]) aj_d180 rfl (Nat.le_succ _) (fun _ => rfl) ?_
                  refine fx_n (pc' := 165) (lv' := lv69) (st' := [.int (Int32.ofInt 1), .int y8]) aj_d180 rfl (Nat.le_succ _) (fun _ => rfl) ?_
                  refine fx_n (pc' := 166) (lv' := lv69) (st' := [.int (y8 + (Int32.ofInt 1))]) aj_d180 rfl (Nat.le_succ _) (fun _ => rfl) ?_
                  refine fx_qxI (fun x73 ex73 => ?_)
                  refine fx_s0 (j := 8) aj_d180 rfl (Nat.le_succ _) (by decide) (fun _ => rfl) ?_
                  obtain ⟨lv74, elv74⟩ : ∃ l, l = aj_set1 lv69 8 (.int x73) := ⟨_, rfl⟩
                  rw [← elv74]
                  have hlv74_0 : aj_lv lv74 0 = some (.ref 107) := fx_e1 elv74 hlv69_0 (by decide) (Or.inl (by decide))
                  have hlv74_1 : aj_lv lv74 1 = some (.ref p1) := fx_e1 elv74 hlv69_1 (by decide) (Or.inl (by decide))
                  have hlv74_2 : aj_lv lv74 2 = some (.ref p2) := fx_e1 elv74 hlv69_2 (by decide) (Or.inl (by decide))
                  have hlv74_4 : aj_lv lv74 4 = some (.int p4) := fx_e1 elv74 hlv69_4 (by decide) (Or.inl (by decide))
                  have hlv74_5 : aj_lv lv74 5 = some (.int p5) := fx_e1 elv74 hlv69_5 (by decide) (Or.inl (by decide))
                  have hlv74_9 : aj_lv lv74 9 = some (.int x58) := fx_e1 elv74 hlv69_9 (by decide) (Or.inl (by decide))
                  have hlv74_7 : aj_lv lv74 7 = some (.int x68) := fx_e1 elv74 hlv69_7 (by decide) (Or.inr rfl)
                  have hlv74_8 : aj_lv lv74 8 = some (.int x73) := by rw [elv74]; exact ak_set1_eq _ _ _
                  show fx_W _ _ _ 168 lv74 [] _ _
                  refine fx_n (pc' := 11) (lv' := lv74) (st' := []) aj_d180 rfl (Nat.le_succ _) (fun _ => rfl) ?_
                  exact (ih.1) lv74 (x68) (x73) (x58) X56  hlv74_0 hlv74_1 hlv74_2 hlv74_4 hlv74_5 hlv74_7 hlv74_8 hlv74_9
          · skip
            refine fx_qi (c := (w24).toInt < 0) (fx_f_ge q26) ?_
            show fx_W _ _ _ 96 lv25 [] _ _
            refine fx_i0 aj_d180 rfl (Nat.le_succ _) (fun _ => rfl) hlv25_10 ?_
            refine fx_n (pc' := 122) (lv' := lv25) (st' := [.int w8]) aj_d180 rfl (Nat.le_succ _) (fun _ => rfl) ?_
            refine fx_s0 (j := 13) aj_d180 rfl (Nat.le_succ _) (by decide) (fun _ => rfl) ?_
            obtain ⟨lv75, elv75⟩ : ∃ l, l = aj_set1 lv25 13 (.int w8) := ⟨_, rfl⟩
            rw [← elv75]
            have hlv75_0 : aj_lv lv75 0 = some (.ref 107) := fx_e1 elv75 hlv25_0 (by decide) (Or.inl (by decide))
            have hlv75_1 : aj_lv lv75 1 = some (.ref p1) := fx_e1 elv75 hlv25_1 (by decide) (Or.inl (by decide))
            have hlv75_2 : aj_lv lv75 2 = some (.ref p2) := fx_e1 elv75 hlv25_2 (by decide) (Or.inl (by decide))
            have hlv75_4 : aj_lv lv75 4 = some (.int p4) := fx_e1 elv75 hlv25_4 (by decide) (Or.inl (by decide))
            have hlv75_5 : aj_lv lv75 5 = some (.int p5) := fx_e1 elv75 hlv25_5 (by decide) (Or.inl (by decide))
            have hlv75_7 : aj_lv lv75 7 = some (.int y7) := fx_e1 elv75 hlv25_7 (by decide) (Or.inl (by decide))
            have hlv75_8 : aj_lv lv75 8 = some (.int y8) := fx_e1 elv75 hlv25_8 (by decide) (Or.inl (by decide))
            have hlv75_9 : aj_lv lv75 9 = some (.int y9) := fx_e1 elv75 hlv25_9 (by decide) (Or.inl (by decide))
            have hlv75_12 : aj_lv lv75 12 = some (.int w24) := fx_e1 elv75 hlv25_12 (by decide) (Or.inr rfl)
            have hlv75_13 : aj_lv lv75 13 = some (.int w8) := by rw [elv75]; exact ak_set1_eq _ _ _
            show fx_W _ _ _ 124 lv75 [] _ _
            refine fx_i2 aj_d180 rfl (Nat.le_succ _) (fun _ => rfl) hlv75_0 ?_
            refine fx_gR aj_d180 rfl (Nat.le_succ _) rfl rfl (Or.inr ⟨_, rfl⟩) (fun _ z => absurd (by decide) z) (fun b77 q76 => ?_)
            show fx_W _ _ _ 128 lv75 [.ref b77] _ _
            refine fx_qs q76 ?_
            refine fx_i0 aj_d180 rfl (Nat.le_succ _) (fun _ => rfl) hlv75_9 ?_
            refine fx_i0 aj_d180 rfl (Nat.le_succ _) (fun _ => rfl) hlv75_13 ?_
            refine fx_cs aj_d180 rfl (Nat.le_succ _) rfl rfl [_, _, _] rfl rfl (gx_178_ok b77 y9 w8) ?_
            rintro _ X78 ⟨w79, rfl, hR78⟩ hok78 hle78
            refine fx_qc hR78 ?_
            show fx_W _ _ _ 135 lv75 [] _ _
            refine fx_incq aj_d180 rfl (Nat.le_succ _) hlv75_9 (by decide) (fun x80 ex80 => ?_)
            obtain ⟨lv81, elv81⟩ : ∃ l, l = aj_set1 lv75 9 (.int x80) := ⟨_, rfl⟩
            rw [← elv81]
            have hlv81_0 : aj_lv lv81 0 = some (.ref 107) := fx_e1 elv81 hlv75_0 (by decide) (Or.inl (by decide))
            have hlv81_1 : aj_lv lv81 1 = some (.ref p1) := fx_e1 elv81 hlv75_1 (by decide) (Or.inl (by decide))
            have hlv81_2 : aj_lv lv81 2 = some (.ref p2) := fx_e1 elv81 hlv75_2 (by decide) (Or.inl (by decide))
            have hlv81_4 : aj_lv lv81 4 = some (.int p4) := fx_e1 elv81 hlv75_4 (by decide) (Or.inl (by decide))
            have hlv81_5 : aj_lv lv81 5 = some (.int p5) := fx_e1 elv81 hlv75_5 (by decide) (Or.inl (by decide))
            have hlv81_7 : aj_lv lv81 7 = some (.int y7) := fx_e1 elv81 hlv75_7 (by decide) (Or.inl (by decide))
            have hlv81_8 : aj_lv lv81 8 = some (.int y8) := fx_e1 elv81 hlv75_8 (by decide) (Or.inr rfl)
            have hlv81_12 : aj_lv lv81 12 = some (.int w24) := fx_e1 elv81 hlv75_12 (by decide) (Or.inl (by decide))
            have hlv81_9 : aj_lv lv81 9 = some (.int x80) := by rw [elv81]; exact ak_set1_eq _ _ _
            show fx_W _ _ _ 138 lv81 [] _ _
            refine fx_i0 aj_d180 rfl (Nat.le_succ _) (fun _ => rfl) hlv81_7 ?_
            refine fx_i0 aj_d180 rfl (Nat.le_succ _) (fun _ => rfl) hlv81_12 ?_
            refine fx_b0 (tgt := 149) aj_d180 rfl (Nat.le_succ _) rfl (fun q82 => ?_) (fun q82 => ?_)
            · skip
              refine fx_qi (c := 0 < (w24).toInt) (fx_t_gt q82) ?_
              show fx_W _ _ _ 149 lv81 [.int y7] _ _
              refine fx_n (pc' := 150) (lv' := lv81) (st' := [.int (Int32.ofInt 0), .int y7]) aj_d180 rfl (Nat.le_succ _) (fun _ => rfl) ?_
              refine fx_n (pc' := 151) (lv' := lv81) (st' := [.int (y7 + (Int32.ofInt 0))]) aj_d180 rfl (Nat.le_succ _) (fun _ => rfl) ?_
              refine fx_qxI (fun x83 ex83 => ?_)
              refine fx_s0 (j := 7) aj_d180 rfl (Nat.le_succ _) (by decide) (fun _ => rfl) ?_
              obtain ⟨lv84, elv84⟩ : ∃ l, l = aj_set1 lv81 7 (.int x83) := ⟨_, rfl⟩
              rw [← elv84]
              have hlv84_0 : aj_lv lv84 0 = some (.ref 107) := fx_e1 elv84 hlv81_0 (by decide) (Or.inl (by decide))
              have hlv84_1 : aj_lv lv84 1 = some (.ref p1) := fx_e1 elv84 hlv81_1 (by decide) (Or.inl (by decide))
              have hlv84_2 : aj_lv lv84 2 = some (.ref p2) := fx_e1 elv84 hlv81_2 (by decide) (Or.inl (by decide))
              have hlv84_4 : aj_lv lv84 4 = some (.int p4) := fx_e1 elv84 hlv81_4 (by decide) (Or.inl (by decide))
              have hlv84_5 : aj_lv lv84 5 = some (.int p5) := fx_e1 elv84 hlv81_5 (by decide) (Or.inl (by decide))
              have hlv84_8 : aj_lv lv84 8 = some (.int y8) := fx_e1 elv84 hlv81_8 (by decide) (Or.inl (by decide))
              have hlv84_12 : aj_lv lv84 12 = some (.int w24) := fx_e1 elv84 hlv81_12 (by decide) (Or.inl (by decide))
              have hlv84_9 : aj_lv lv84 9 = some (.int x80) := fx_e1 elv84 hlv81_9 (by decide) (Or.inl (by decide))
              have hlv84_7 : aj_lv lv84 7 = some (.int x83) := by rw [elv84]; exact ak_set1_eq _ _ _
              show fx_W _ _ _ 153 lv84 [] _ _
              refine fx_i0 aj_d180 rfl (Nat.le_succ _) (fun _ => rfl) hlv84_8 ?_
              refine fx_i0 aj_d180 rfl (Nat.le_succ _) (fun _ => rfl) hlv84_12 ?_
              refine fx_b0 (tgt := 164) aj_d180 rfl (Nat.le_succ _) rfl (fun q85 => ?_) (fun q85 => ?_)
              · skip
                refine fx_qi (c := (w24).toInt < 0) (fx_t_lt q85) ?_
                show fx_W _ _ _ 164 lv84 [.int y8] _ _
                refine fx_n (pc' := 165) (lv' := lv84) (st' := [.int (Int32.ofInt 0), .int y8]) aj_d180 rfl (Nat.le_succ _) (fun _ => rfl) ?_
                refine fx_n (pc' := 166) (lv' := lv84) (st' := [.int (y8 + (Int32.ofInt 0))]) aj_d180 rfl (Nat.le_succ _) (fun _ => rfl) ?_
                refine fx_qxI (fun x86 ex86 => ?_)
                refine fx_s0 (j := 8) aj_d180 rfl (Nat.le_succ _) (by decide) (fun _ => rfl) ?_
                obtain ⟨lv87, elv87⟩ : ∃ l, l = aj_set1 lv84 8 (.int x86) := ⟨_, rfl⟩
                rw [← elv87]
                have hlv87_0 : aj_lv lv87 0 = some (.ref 107) := fx_e1 elv87 hlv84_0 (by decide) (Or.inl (by decide))
                have hlv87_1 : aj_lv lv87 1 = some (.ref p1) := fx_e1 elv87 hlv84_1 (by decide) (Or.inl (by decide))
                have hlv87_2 : aj_lv lv87 2 = some (.ref p2) := fx_e1 elv87 hlv84_2 (by decide) (Or.inl (by decide))
                have hlv87_4 : aj_lv lv87 4 = some (.int p4) := fx_e1 elv87 hlv84_4 (by decide) (Or.inl (by decide))
                have hlv87_5 : aj_lv lv87 5 = some (.int p5) := fx_e1 elv87 hlv84_5 (by decide) (Or.inl (by decide))
                have hlv87_9 : aj_lv lv87 9 = some (.int x80) := fx_e1 elv87 hlv84_9 (by decide) (Or.inl (by decide))
                have hlv87_7 : aj_lv lv87 7 = some (.int x83) := fx_e1 elv87 hlv84_7 (by decide) (Or.inr rfl)
                have hlv87_8 : aj_lv lv87 8 = some (.int x86) := by rw [elv87]; exact ak_set1_eq _ _ _
                show fx_W _ _ _ 168 lv87 [] _ _
                refine fx_n (pc' := 11) (lv' := lv87) (st' := []) aj_d180 rfl (Nat.le_succ _) (fun _ => rfl) ?_
                exact (ih.1) lv87 (x83) (x86) (x80) X78  hlv87_0 hlv87_1 hlv87_2 hlv87_4 hlv87_5 hlv87_7 hlv87_8 hlv87_9
              · skip
                refine fx_qe (c := (w24).toInt < 0) (fx_f_lt q85) ?_
                show fx_W _ _ _ 160 lv84 [.int y8] _ _
                refine fx_n (pc' := 161) (lv' := lv84) (st' := [.int (Int32.ofInt 1), .int y8]) aj_d180 rfl (Nat.le_succ _) (fun _ => rfl) ?_
                refine fx_n (pc' := 165) (lv' := lv84) (st' := [.int (Int32.ofInt 1), .int y8]) aj_d180 rfl (Nat.le_succ _) (fun _ => rfl) ?_
                refine fx_n (pc' := 166) (lv' := lv84) (st' := [.int (y8 + (Int32.ofInt 1))]) aj_d180 rfl (Nat.le_succ _) (fun _ => rfl) ?_
                refine fx_qxI (fun x88 ex88 => ?_)
                refine fx_s0 (j := 8) aj_d180 rfl (Nat.le_succ _) (by decide) (fun _ => rfl) ?_
                obtain ⟨lv89, elv89⟩ : ∃ l, l = aj_set1 lv84 8 (.int x88) := ⟨_, rfl⟩
                rw [← elv89]
                have hlv89_0 : aj_lv lv89 0 = some (.ref 107) := fx_e1 elv89 hlv84_0 (by decide) (Or.inl (by decide))
                have hlv89_1 : aj_lv lv89 1 = some (.ref p1) := fx_e1 elv89 hlv84_1 (by decide) (Or.inl (by decide))
                have hlv89_2 : aj_lv lv89 2 = some (.ref p2) := fx_e1 elv89 hlv84_2 (by decide) (Or.inl (by decide))
                have hlv89_4 : aj_lv lv89 4 = some (.int p4) := fx_e1 elv89 hlv84_4 (by decide) (Or.inl (by decide))
                have hlv89_5 : aj_lv lv89 5 = some (.int p5) := fx_e1 elv89 hlv84_5 (by decide) (Or.inl (by decide))
                have hlv89_9 : aj_lv lv89 9 = some (.int x80) := fx_e1 elv89 hlv84_9 (by decide) (Or.inl (by decide))
                have hlv89_7 : aj_lv lv89 7 = some (.int x83) := fx_e1 elv89 hlv84_7 (by decide) (Or.inr rfl)
                have hlv89_8 : aj_lv lv89 8 = some (.int x88) := by rw [elv89]; exact ak_set1_eq _ _ _
                show fx_W _ _ _ 168 lv89 [] _ _
                refine fx_n (pc' := 11) (lv' := lv89) (st' := []) aj_d180 rfl (Nat.le_succ _) (fun _ => rfl) ?_
                exact (ih.1) lv89 (x83) (x88) (x80) X78  hlv89_0 hlv89_1 hlv89_2 hlv89_4 hlv89_5 hlv89_7 hlv89_8 hlv89_9
            · skip
              refine fx_qe (c := 0 < (w24).toInt) (fx_f_gt q82) ?_
              show fx_W _ _ _ 145 lv81 [.int y7] _ _
              refine fx_n (pc' := 146) (lv' := lv81) (st' := [.int (Int32.ofInt 1), .int y7]) aj_d180 rfl (Nat.le_succ _) (fun _ => rfl) ?_
              refine fx_n (pc' := 150) (lv' := lv81) (st' := [.int (Int32.ofInt 1), .int y7]) aj_d180 rfl (Nat.le_succ _) (fun _ => rfl) ?_
              refine fx_n (pc' := 151) (lv' := lv81) (st' := [.int (y7 + (Int32.ofInt 1))]) aj_d180 rfl (Nat.le_succ _) (fun _ => rfl) ?_
              refine fx_qxI (fun x90 ex90 => ?_)
              refine fx_s0 (j := 7) aj_d180 rfl (Nat.le_succ _) (by decide) (fun _ => rfl) ?_
              obtain ⟨lv91, elv91⟩ : ∃ l, l = aj_set1 lv81 7 (.int x90) := ⟨_, rfl⟩
              rw [← elv91]
              have hlv91_0 : aj_lv lv91 0 = some (.ref 107) := fx_e1 elv91 hlv81_0 (by decide) (Or.inl (by decide))
              have hlv91_1 : aj_lv lv91 1 = some (.ref p1) := fx_e1 elv91 hlv81_1 (by decide) (Or.inl (by decide))
              have hlv91_2 : aj_lv lv91 2 = some (.ref p2) := fx_e1 elv91 hlv81_2 (by decide) (Or.inl (by decide))
              have hlv91_4 : aj_lv lv91 4 = some (.int p4) := fx_e1 elv91 hlv81_4 (by decide) (Or.inl (by decide))
              have hlv91_5 : aj_lv lv91 5 = some (.int p5) := fx_e1 elv91 hlv81_5 (by decide) (Or.inl (by decide))
              have hlv91_8 : aj_lv lv91 8 = some (.int y8) := fx_e1 elv91 hlv81_8 (by decide) (Or.inl (by decide))
              have hlv91_12 : aj_lv lv91 12 = some (.int w24) := fx_e1 elv91 hlv81_12 (by decide) (Or.inl (by decide))
              have hlv91_9 : aj_lv lv91 9 = some (.int x80) := fx_e1 elv91 hlv81_9 (by decide) (Or.inl (by decide))
              have hlv91_7 : aj_lv lv91 7 = some (.int x90) := by rw [elv91]; exact ak_set1_eq _ _ _
              show fx_W _ _ _ 153 lv91 [] _ _
              refine fx_i0 aj_d180 rfl (Nat.le_succ _) (fun _ => rfl) hlv91_8 ?_
              refine fx_i0 aj_d180 rfl (Nat.le_succ _) (fun _ => rfl) hlv91_12 ?_
              refine fx_b0 (tgt := 164) aj_d180 rfl (Nat.le_succ _) rfl (fun q92 => ?_) (fun q92 => ?_)
              · skip
                refine fx_qi (c := (w24).toInt < 0) (fx_t_lt q92) ?_
                show fx_W _ _ _ 164 lv91 [.int y8] _ _
                refine fx_n (pc' := 165) (lv' := lv91) (st' := [.int (Int32.ofInt 0), .int y8]) aj_d180 rfl (Nat.le_succ _) (fun _ => rfl) ?_
                refine fx_n (pc' := 166) (lv' := lv91) (st' := [.int (y8 + (Int32.ofInt 0))]) aj_d180 rfl (Nat.le_succ _) (fun _ => rfl) ?_
                refine fx_qxI (fun x93 ex93 => ?_)
                refine fx_s0 (j := 8) aj_d180 rfl (Nat.le_succ _) (by decide) (fun _ => rfl) ?_
                obtain ⟨lv94, elv94⟩ : ∃ l, l = aj_set1 lv91 8 (.int x93) := ⟨_, rfl⟩
                rw [← elv94]
                have hlv94_0 : aj_lv lv94 0 = some (.ref 107) := fx_e1 elv94 hlv91_0 (by decide) (Or.inl (by decide))
                have hlv94_1 : aj_lv lv94 1 = some (.ref p1) := fx_e1 elv94 hlv91_1 (by decide) (Or.inl (by decide))
                have hlv94_2 : aj_lv lv94 2 = some (.ref p2) := fx_e1 elv94 hlv91_2 (by decide) (Or.inl (by decide))
                have hlv94_4 : aj_lv lv94 4 = some (.int p4) := fx_e1 elv94 hlv91_4 (by decide) (Or.inl (by decide))
                have hlv94_5 : aj_lv lv94 5 = some (.int p5) := fx_e1 elv94 hlv91_5 (by decide) (Or.inl (by decide))
                have hlv94_9 : aj_lv lv94 9 = some (.int x80) := fx_e1 elv94 hlv91_9 (by decide) (Or.inl (by decide))
                have hlv94_7 : aj_lv lv94 7 = some (.int x90) := fx_e1 elv94 hlv91_7 (by decide) (Or.inr rfl)
                have hlv94_8 : aj_lv lv94 8 = some (.int x93) := by rw [elv94]; exact ak_set1_eq _ _ _
                show fx_W _ _ _ 168 lv94 [] _ _
                refine fx_n (pc' := 11) (lv' := lv94) (st' := []) aj_d180 rfl (Nat.le_succ _) (fun _ => rfl) ?_
                exact (ih.1) lv94 (x90) (x93) (x80) X78  hlv94_0 hlv94_1 hlv94_2 hlv94_4 hlv94_5 hlv94_7 hlv94_8 hlv94_9
              · skip
                refine fx_qe (c := (w24).toInt < 0) (fx_f_lt q92) ?_
                show fx_W _ _ _ 160 lv91 [.int y8] _ _
                refine fx_n (pc' := 161) (lv' := lv91) (st' := [.int (Int32.ofInt 1), .int y8]) aj_d180 rfl (Nat.le_succ _) (fun _ => rfl) ?_
                refine fx_n (pc' := 165) (lv' := lv91) (st' := [.int (Int32.ofInt 1), .int y8]) aj_d180 rfl (Nat.le_succ _) (fun _ => rfl) ?_
                refine fx_n (pc' := 166) (lv' := lv91) (st' := [.int (y8 + (Int32.ofInt 1))]) aj_d180 rfl (Nat.le_succ _) (fun _ => rfl) ?_
                refine fx_qxI (fun x95 ex95 => ?_)
                refine fx_s0 (j := 8) aj_d180 rfl (Nat.le_succ _) (by decide) (fun _ => rfl) ?_
                obtain ⟨lv96, elv96⟩ : ∃ l, l = aj_set1 lv91 8 (.int x95) := ⟨_, rfl⟩
                rw [← elv96]
                have hlv96_0 : aj_lv lv96 0 = some (.ref 107) := fx_e1 elv96 hlv91_0 (by decide) (Or.inl (by decide))
                have hlv96_1 : aj_lv lv96 1 = some (.ref p1) := fx_e1 elv96 hlv91_1 (by decide) (Or.inl (by decide))
                have hlv96_2 : aj_lv lv96 2 = some (.ref p2) := fx_e1 elv96 hlv91_2 (by decide) (Or.inl (by decide))
                have hlv96_4 : aj_lv lv96 4 = some (.int p4) := fx_e1 elv96 hlv91_4 (by decide) (Or.inl (by decide))
                have hlv96_5 : aj_lv lv96 5 = some (.int p5) := fx_e1 elv96 hlv91_5 (by decide) (Or.inl (by decide))
                have hlv96_9 : aj_lv lv96 9 = some (.int x80) := fx_e1 elv96 hlv91_9 (by decide) (Or.inl (by decide))
                have hlv96_7 : aj_lv lv96 7 = some (.int x90) := fx_e1 elv96 hlv91_7 (by decide) (Or.inr rfl)
                have hlv96_8 : aj_lv lv96 8 = some (.int x95) := by rw [elv96]; exact ak_set1_eq _ _ _
                show fx_W _ _ _ 168 lv96 [] _ _
                refine fx_n (pc' := 11) (lv' := lv96) (st' := []) aj_d180 rfl (Nat.le_succ _) (fun _ => rfl) ?_
                exact (ih.1) lv96 (x90) (x95) (x80) X78  hlv96_0 hlv96_1 hlv96_2 hlv96_4 hlv96_5 hlv96_7 hlv96_8 hlv96_9
        · skip
          refine fx_qe (c := (y8).toInt < (p5).toInt) (fx_f_lt q14) ?_
          show fx_W _ _ _ 59 lv12 [] _ _
          refine fx_n (pc' := 60) (lv' := lv12) (st' := [.int (Int32.ofInt (-1))]) aj_d180 rfl (Nat.le_succ _) (fun _ => rfl) ?_
          refine fx_n (pc' := 89) (lv' := lv12) (st' := [.int (Int32.ofInt (-1))]) aj_d180 rfl (Nat.le_succ _) (fun _ => rfl) ?_
          refine fx_s0 (j := 12) aj_d180 rfl (Nat.le_succ _) (by decide) (fun _ => rfl) ?_
          obtain ⟨lv97, elv97⟩ : ∃ l, l = aj_set1 lv12 12 (.int (Int32.ofInt (-1))) := ⟨_, rfl⟩
          rw [← elv97]
          have hlv97_0 : aj_lv lv97 0 = some (.ref 107) := fx_e1 elv97 hlv12_0 (by decide) (Or.inl (by decide))
          have hlv97_1 : aj_lv lv97 1 = some (.ref p1) := fx_e1 elv97 hlv12_1 (by decide) (Or.inl (by decide))
          have hlv97_2 : aj_lv lv97 2 = some (.ref p2) := fx_e1 elv97 hlv12_2 (by decide) (Or.inl (by decide))
          have hlv97_4 : aj_lv lv97 4 = some (.int p4) := fx_e1 elv97 hlv12_4 (by decide) (Or.inl (by decide))
          have hlv97_5 : aj_lv lv97 5 = some (.int p5) := fx_e1 elv97 hlv12_5 (by decide) (Or.inl (by decide))
          have hlv97_7 : aj_lv lv97 7 = some (.int y7) := fx_e1 elv97 hlv12_7 (by decide) (Or.inl (by decide))
          have hlv97_8 : aj_lv lv97 8 = some (.int y8) := fx_e1 elv97 hlv12_8 (by decide) (Or.inl (by decide))
          have hlv97_9 : aj_lv lv97 9 = some (.int y9) := fx_e1 elv97 hlv12_9 (by decide) (Or.inl (by decide))
          have hlv97_10 : aj_lv lv97 10 = some (.int w8) := fx_e1 elv97 hlv12_10 (by decide) (Or.inl (by decide))
          have hlv97_11 : aj_lv lv97 11 = some (.int w11) := fx_e1 elv97 hlv12_11 (by decide) (Or.inr rfl)
          have hlv97_12 : aj_lv lv97 12 = some (.int (Int32.ofInt (-1))) := by rw [elv97]; exact ak_set1_eq _ _ _
          show fx_W _ _ _ 91 lv97 [] _ _
          refine fx_i0 aj_d180 rfl (Nat.le_succ _) (fun _ => rfl) hlv97_12 ?_
          refine fx_b0 (tgt := 101) aj_d180 rfl (Nat.le_succ _) rfl (fun q98 => ?_) (fun q98 => ?_)
          · exact absurd q98 (by decide)
          · skip
            show fx_W _ _ _ 96 lv97 [] _ _
            refine fx_i0 aj_d180 rfl (Nat.le_succ _) (fun _ => rfl) hlv97_10 ?_
            refine fx_n (pc' := 122) (lv' := lv97) (st' := [.int w8]) aj_d180 rfl (Nat.le_succ _) (fun _ => rfl) ?_
            refine fx_s0 (j := 13) aj_d180 rfl (Nat.le_succ _) (by decide) (fun _ => rfl) ?_
            obtain ⟨lv99, elv99⟩ : ∃ l, l = aj_set1 lv97 13 (.int w8) := ⟨_, rfl⟩
            rw [← elv99]
            have hlv99_0 : aj_lv lv99 0 = some (.ref 107) := fx_e1 elv99 hlv97_0 (by decide) (Or.inl (by decide))
            have hlv99_1 : aj_lv lv99 1 = some (.ref p1) := fx_e1 elv99 hlv97_1 (by decide) (Or.inl (by decide))
            have hlv99_2 : aj_lv lv99 2 = some (.ref p2) := fx_e1 elv99 hlv97_2 (by decide) (Or.inl (by decide))
            have hlv99_4 : aj_lv lv99 4 = some (.int p4) := fx_e1 elv99 hlv97_4 (by decide) (Or.inl (by decide))
            have hlv99_5 : aj_lv lv99 5 = some (.int p5) := fx_e1 elv99 hlv97_5 (by decide) (Or.inl (by decide))
            have hlv99_7 : aj_lv lv99 7 = some (.int y7) := fx_e1 elv99 hlv97_7 (by decide) (Or.inl (by decide))
            have hlv99_8 : aj_lv lv99 8 = some (.int y8) := fx_e1 elv99 hlv97_8 (by decide) (Or.inl (by decide))
            have hlv99_9 : aj_lv lv99 9 = some (.int y9) := fx_e1 elv99 hlv97_9 (by decide) (Or.inl (by decide))
            have hlv99_12 : aj_lv lv99 12 = some (.int (Int32.ofInt (-1))) := fx_e1 elv99 hlv97_12 (by decide) (Or.inr rfl)
            have hlv99_13 : aj_lv lv99 13 = some (.int w8) := by rw [elv99]; exact ak_set1_eq _ _ _
            show fx_W _ _ _ 124 lv99 [] _ _
            refine fx_i2 aj_d180 rfl (Nat.le_succ _) (fun _ => rfl) hlv99_0 ?_
            refine fx_gR aj_d180 rfl (Nat.le_succ _) rfl rfl (Or.inr ⟨_, rfl⟩) (fun _ z => absurd (by decide) z) (fun b101 q100 => ?_)
            show fx_W _ _ _ 128 lv99 [.ref b101] _ _
            refine fx_qs q100 ?_
            refine fx_i0 aj_d180 rfl (Nat.le_succ _) (fun _ => rfl) hlv99_9 ?_
            refine fx_i0 aj_d180 rfl (Nat.le_succ _) (fun _ => rfl) hlv99_13 ?_
            refine fx_cs aj_d180 rfl (Nat.le_succ _) rfl rfl [_, _, _] rfl rfl (gx_178_ok b101 y9 w8) ?_
            rintro _ X102 ⟨w103, rfl, hR102⟩ hok102 hle102
            refine fx_qc hR102 ?_
            show fx_W _ _ _ 135 lv99 [] _ _
            refine fx_incq aj_d180 rfl (Nat.le_succ _) hlv99_9 (by decide) (fun x104 ex104 => ?_)
            obtain ⟨lv105, elv105⟩ : ∃ l, l = aj_set1 lv99 9 (.int x104) := ⟨_, rfl⟩
            rw [← elv105]
            have hlv105_0 : aj_lv lv105 0 = some (.ref 107) := fx_e1 elv105 hlv99_0 (by decide) (Or.inl (by decide))
            have hlv105_1 : aj_lv lv105 1 = some (.ref p1) := fx_e1 elv105 hlv99_1 (by decide) (Or.inl (by decide))
            have hlv105_2 : aj_lv lv105 2 = some (.ref p2) := fx_e1 elv105 hlv99_2 (by decide) (Or.inl (by decide))
            have hlv105_4 : aj_lv lv105 4 = some (.int p4) := fx_e1 elv105 hlv99_4 (by decide) (Or.inl (by decide))
            have hlv105_5 : aj_lv lv105 5 = some (.int p5) := fx_e1 elv105 hlv99_5 (by decide) (Or.inl (by decide))
            have hlv105_7 : aj_lv lv105 7 = some (.int y7) := fx_e1 elv105 hlv99_7 (by decide) (Or.inl (by decide))
            have hlv105_8 : aj_lv lv105 8 = some (.int y8) := fx_e1 elv105 hlv99_8 (by decide) (Or.inr rfl)
            have hlv105_12 : aj_lv lv105 12 = some (.int (Int32.ofInt (-1))) := fx_e1 elv105 hlv99_12 (by decide) (Or.inl (by decide))
            have hlv105_9 : aj_lv lv105 9 = some (.int x104) := by rw [elv105]; exact ak_set1_eq _ _ _
            show fx_W _ _ _ 138 lv105 [] _ _
            refine fx_i0 aj_d180 rfl (Nat.le_succ _) (fun _ => rfl) hlv105_7 ?_
            refine fx_i0 aj_d180 rfl (Nat.le_succ _) (fun _ => rfl) hlv105_12 ?_
            refine fx_b0 (tgt := 149) aj_d180 rfl (Nat.le_succ _) rfl (fun q106 => ?_) (fun q106 => ?_)
            · exact absurd q106 (by decide)
            · skip
              show fx_W _ _ _ 145 lv105 [.int y7] _ _
              refine fx_n (pc' := 146) (lv' := lv105) (st' := [.int (Int32.ofInt 1), .int y7]) aj_d180 rfl (Nat.le_succ _) (fun _ => rfl) ?_
              refine fx_n (pc' := 150) (lv' := lv105) (st' := [.int (Int32.ofInt 1), .int y7]) aj_d180 rfl (Nat.le_succ _) (fun _ => rfl) ?_
              refine fx_n (pc' := 151) (lv' := lv105) (st' := [.int (y7 + (Int32.ofInt 1))]) aj_d180 rfl (Nat.le_succ _) (fun _ => rfl) ?_
              refine fx_qxI (fun x107 ex107 => ?_)
              refine fx_s0 (j := 7) aj_d180 rfl (Nat.le_succ _) (by decide) (fun _ => rfl) ?_
              obtain ⟨lv108, elv108⟩ : ∃ l, l = aj_set1 lv105 7 (.int x107) := ⟨_, rfl⟩
              rw [← elv108]
              have hlv108_0 : aj_lv lv108 0 = some (.ref 107) := fx_e1 elv108 hlv105_0 (by decide) (Or.inl (by decide))
              have hlv108_1 : aj_lv lv108 1 = some (.ref p1) := fx_e1 elv108 hlv105_1 (by decide) (Or.inl (by decide))
              have hlv108_2 : aj_lv lv108 2 = some (.ref p2) := fx_e1 elv108 hlv105_2 (by decide) (Or.inl (by decide))
              have hlv108_4 : aj_lv lv108 4 = some (.int p4) := fx_e1 elv108 hlv105_4 (by decide) (Or.inl (by decide))
              have hlv108_5 : aj_lv lv108 5 = some (.int p5) := fx_e1 elv108 hlv105_5 (by decide) (Or.inl (by decide))
              have hlv108_8 : aj_lv lv108 8 = some (.int y8) := fx_e1 elv108 hlv105_8 (by decide) (Or.inl (by decide))
              have hlv108_12 : aj_lv lv108 12 = some (.int (Int32.ofInt (-1))) := fx_e1 elv108 hlv105_12 (by decide) (Or.inl (by decide))
              have hlv108_9 : aj_lv lv108 9 = some (.int x104) := fx_e1 elv108 hlv105_9 (by decide) (Or.inl (by decide))
              have hlv108_7 : aj_lv lv108 7 = some (.int x107) := by rw [elv108]; exact ak_set1_eq _ _ _
              show fx_W _ _ _ 153 lv108 [] _ _
              refine fx_i0 aj_d180 rfl (Nat.le_succ _) (fun _ => rfl) hlv108_8 ?_
              refine fx_i0 aj_d180 rfl (Nat.le_succ _) (fun _ => rfl) hlv108_12 ?_
              refine fx_b0 (tgt := 164) aj_d180 rfl (Nat.le_succ _) rfl (fun q109 => ?_) (fun q109 => ?_)
              · skip
                show fx_W _ _ _ 164 lv108 [.int y8] _ _
                refine fx_n (pc' := 165) (lv' := lv108) (st' := [.int (Int32.ofInt 0), .int y8]) aj_d180 rfl (Nat.le_succ _) (fun _ => rfl) ?_
                refine fx_n (pc' := 166) (lv' := lv108) (st' := [.int (y8 + (Int32.ofInt 0))]) aj_d180 rfl (Nat.le_succ _) (fun _ => rfl) ?_
                refine fx_qxI (fun x110 ex110 => ?_)
                refine fx_s0 (j := 8) aj_d180 rfl (Nat.le_succ _) (by decide) (fun _ => rfl) ?_
                obtain ⟨lv111, elv111⟩ : ∃ l, l = aj_set1 lv108 8 (.int x110) := ⟨_, rfl⟩
                rw [← elv111]
                have hlv111_0 : aj_lv lv111 0 = some (.ref 107) := fx_e1 elv111 hlv108_0 (by decide) (Or.inl (by decide))
                have hlv111_1 : aj_lv lv111 1 = some (.ref p1) := fx_e1 elv111 hlv108_1 (by decide) (Or.inl (by decide))
                have hlv111_2 : aj_lv lv111 2 = some (.ref p2) := fx_e1 elv111 hlv108_2 (by decide) (Or.inl (by decide))
                have hlv111_4 : aj_lv lv111 4 = some (.int p4) := fx_e1 elv111 hlv108_4 (by decide) (Or.inl (by decide))
                have hlv111_5 : aj_lv lv111 5 = some (.int p5) := fx_e1 elv111 hlv108_5 (by decide) (Or.inl (by decide))
                have hlv111_9 : aj_lv lv111 9 = some (.int x104) := fx_e1 elv111 hlv108_9 (by decide) (Or.inl (by decide))
                have hlv111_7 : aj_lv lv111 7 = some (.int x107) := fx_e1 elv111 hlv108_7 (by decide) (Or.inr rfl)
                have hlv111_8 : aj_lv lv111 8 = some (.int x110) := by rw [elv111]; exact ak_set1_eq _ _ _
                show fx_W _ _ _ 168 lv111 [] _ _
                refine fx_n (pc' := 11) (lv' := lv111) (st' := []) aj_d180 rfl (Nat.le_succ _) (fun _ => rfl) ?_
                exact (ih.1) lv111 (x107) (x110) (x104) X102  hlv111_0 hlv111_1 hlv111_2 hlv111_4 hlv111_5 hlv111_7 hlv111_8 hlv111_9
              · exact absurd q109 (by decide)
      · skip
        refine fx_qe (c := (y7).toInt < (p4).toInt) (fx_f_lt q13) ?_
        show fx_W _ _ _ 48 lv12 [] _ _
        refine fx_n (pc' := 49) (lv' := lv12) (st' := [.int (Int32.ofInt 1)]) aj_d180 rfl (Nat.le_succ _) (fun _ => rfl) ?_
        refine fx_n (pc' := 89) (lv' := lv12) (st' := [.int (Int32.ofInt 1)]) aj_d180 rfl (Nat.le_succ _) (fun _ => rfl) ?_
        refine fx_s0 (j := 12) aj_d180 rfl (Nat.le_succ _) (by decide) (fun _ => rfl) ?_
        obtain ⟨lv112, elv112⟩ : ∃ l, l = aj_set1 lv12 12 (.int (Int32.ofInt 1)) := ⟨_, rfl⟩
        rw [← elv112]
        have hlv112_0 : aj_lv lv112 0 = some (.ref 107) := fx_e1 elv112 hlv12_0 (by decide) (Or.inl (by decide))
        have hlv112_1 : aj_lv lv112 1 = some (.ref p1) := fx_e1 elv112 hlv12_1 (by decide) (Or.inl (by decide))
        have hlv112_2 : aj_lv lv112 2 = some (.ref p2) := fx_e1 elv112 hlv12_2 (by decide) (Or.inl (by decide))
        have hlv112_4 : aj_lv lv112 4 = some (.int p4) := fx_e1 elv112 hlv12_4 (by decide) (Or.inl (by decide))
        have hlv112_5 : aj_lv lv112 5 = some (.int p5) := fx_e1 elv112 hlv12_5 (by decide) (Or.inl (by decide))
        have hlv112_7 : aj_lv lv112 7 = some (.int y7) := fx_e1 elv112 hlv12_7 (by decide) (Or.inl (by decide))
        have hlv112_8 : aj_lv lv112 8 = some (.int y8) := fx_e1 elv112 hlv12_8 (by decide) (Or.inl (by decide))
        have hlv112_9 : aj_lv lv112 9 = some (.int y9) := fx_e1 elv112 hlv12_9 (by decide) (Or.inl (by decide))
        have hlv112_10 : aj_lv lv112 10 = some (.int w8) := fx_e1 elv112 hlv12_10 (by decide) (Or.inl (by decide))
        have hlv112_11 : aj_lv lv112 11 = some (.int w11) := fx_e1 elv112 hlv12_11 (by decide) (Or.inr rfl)
        have hlv112_12 : aj_lv lv112 12 = some (.int (Int32.ofInt 1)) := by rw [elv112]; exact ak_set1_eq _ _ _
        show fx_W _ _ _ 91 lv112 [] _ _
        refine fx_i0 aj_d180 rfl (Nat.le_succ _) (fun _ => rfl) hlv112_12 ?_
        refine fx_b0 (tgt := 101) aj_d180 rfl (Nat.le_succ _) rfl (fun q113 => ?_) (fun q113 => ?_)
        · skip
          show fx_W _ _ _ 101 lv112 [] _ _
          refine fx_i0 aj_d180 rfl (Nat.le_succ _) (fun _ => rfl) hlv112_12 ?_
          refine fx_b0 (tgt := 111) aj_d180 rfl (Nat.le_succ _) rfl (fun q114 => ?_) (fun q114 => ?_)
          · exact absurd q114 (by decide)
          · skip
            show fx_W _ _ _ 106 lv112 [] _ _
            refine fx_i0 aj_d180 rfl (Nat.le_succ _) (fun _ => rfl) hlv112_11 ?_
            refine fx_n (pc' := 122) (lv' := lv112) (st' := [.int w11]) aj_d180 rfl (Nat.le_succ _) (fun _ => rfl) ?_
            refine fx_s0 (j := 13) aj_d180 rfl (Nat.le_succ _) (by decide) (fun _ => rfl) ?_
            obtain ⟨lv115, elv115⟩ : ∃ l, l = aj_set1 lv112 13 (.int w11) := ⟨_, rfl⟩
            rw [← elv115]
            have hlv115_0 : aj_lv lv115 0 = some (.ref 107) := fx_e1 elv115 hlv112_0 (by decide) (Or.inl (by decide))
            have hlv115_1 : aj_lv lv115 1 = some (.ref p1) := fx_e1 elv115 hlv112_1 (by decide) (Or.inl (by decide))
            have hlv115_2 : aj_lv lv115 2 = some (.ref p2) := fx_e1 elv115 hlv112_2 (by decide) (Or.inl (by decide))
            have hlv115_4 : aj_lv lv115 4 = some (.int p4) := fx_e1 elv115 hlv112_4 (by decide) (Or.inl (by decide))
            have hlv115_5 : aj_lv lv115 5 = some (.int p5) := fx_e1 elv115 hlv112_5 (by decide) (Or.inl (by decide))
            have hlv115_7 : aj_lv lv115 7 = some (.int y7) := fx_e1 elv115 hlv112_7 (by decide) (Or.inl (by decide))
            have hlv115_8 : aj_lv lv115 8 = some (.int y8) := fx_e1 elv115 hlv112_8 (by decide) (Or.inl (by decide))
            have hlv115_9 : aj_lv lv115 9 = some (.int y9) := fx_e1 elv115 hlv112_9 (by decide) (Or.inl (by decide))
            have hlv115_12 : aj_lv lv115 12 = some (.int (Int32.ofInt 1)) := fx_e1 elv115 hlv112_12 (by decide) (Or.inr rfl)
            have hlv115_13 : aj_lv lv115 13 = some (.int w11) := by rw [elv115]; exact ak_set1_eq _ _ _
            show fx_W _ _ _ 124 lv115 [] _ _
            refine fx_i2 aj_d180 rfl (Nat.le_succ _) (fun _ => rfl) hlv115_0 ?_
            refine fx_gR aj_d180 rfl (Nat.le_succ _) rfl rfl (Or.inr ⟨_, rfl⟩) (fun _ z => absurd (by decide) z) (fun b117 q116 => ?_)
            show fx_W _ _ _ 128 lv115 [.ref b117] _ _
            refine fx_qs q116 ?_
            refine fx_i0 aj_d180 rfl (Nat.le_succ _) (fun _ => rfl) hlv115_9 ?_
            refine fx_i0 aj_d180 rfl (Nat.le_succ _) (fun _ => rfl) hlv115_13 ?_
            refine fx_cs aj_d180 rfl (Nat.le_succ _) rfl rfl [_, _, _] rfl rfl (gx_178_ok b117 y9 w11) ?_
            rintro _ X118 ⟨w119, rfl, hR118⟩ hok118 hle118
            refine fx_qc hR118 ?_
            show fx_W _ _ _ 135 lv115 [] _ _
            refine fx_incq aj_d180 rfl (Nat.le_succ _) hlv115_9 (by decide) (fun x120 ex120 => ?_)
            obtain ⟨lv121, elv121⟩ : ∃ l, l = aj_set1 lv115 9 (.int x120) := ⟨_, rfl⟩
            rw [← elv121]
            have hlv121_0 : aj_lv lv121 0 = some (.ref 107) := fx_e1 elv121 hlv115_0 (by decide) (Or.inl (by decide))
            have hlv121_1 : aj_lv lv121 1 = some (.ref p1) := fx_e1 elv121 hlv115_1 (by decide) (Or.inl (by decide))
            have hlv121_2 : aj_lv lv121 2 = some (.ref p2) := fx_e1 elv121 hlv115_2 (by decide) (Or.inl (by decide))
            have hlv121_4 : aj_lv lv121 4 = some (.int p4) := fx_e1 elv121 hlv115_4 (by decide) (Or.inl (by decide))
            have hlv121_5 : aj_lv lv121 5 = some (.int p5) := fx_e1 elv121 hlv115_5 (by decide) (Or.inl (by decide))
            have hlv121_7 : aj_lv lv121 7 = some (.int y7) := fx_e1 elv121 hlv115_7 (by decide) (Or.inl (by decide))
            have hlv121_8 : aj_lv lv121 8 = some (.int y8) := fx_e1 elv121 hlv115_8 (by decide) (Or.inr rfl)
            have hlv121_12 : aj_lv lv121 12 = some (.int (Int32.ofInt 1)) := fx_e1 elv121 hlv115_12 (by decide) (Or.inl (by decide))
            have hlv121_9 : aj_lv lv121 9 = some (.int x120) := by rw [elv121]; exact ak_set1_eq _ _ _
            show fx_W _ _ _ 138 lv121 [] _ _
            refine fx_i0 aj_d180 rfl (Nat.le_succ _) (fun _ => rfl) hlv121_7 ?_
            refine fx_i0 aj_d180 rfl (Nat.le_succ _) (fun _ => rfl) hlv121_12 ?_
            refine fx_b0 (tgt := 149) aj_d180 rfl (Nat.le_succ _) rfl (fun q122 => ?_) (fun q122 => ?_)
            · skip
              show fx_W _ _ _ 149 lv121 [.int y7] _ _
              refine fx_n (pc' := 150) (lv' := lv121) (st' := [.int (Int32.ofInt 0), .int y7]) aj_d180 rfl (Nat.le_succ _) (fun _ => rfl) ?_
              refine fx_n (pc' := 151) (lv' := lv121) (st' := [.int (y7 + (Int32.ofInt 0))]) aj_d180 rfl (Nat.le_succ _) (fun _ => rfl) ?_
              refine fx_qxI (fun x123 ex123 => ?_)
              refine fx_s0 (j := 7) aj_d180 rfl (Nat.le_succ _) (by decide) (fun _ => rfl) ?_
              obtain ⟨lv124, elv124⟩ : ∃ l, l = aj_set1 lv121 7 (.int x123) := ⟨_, rfl⟩
              rw [← elv124]
              have hlv124_0 : aj_lv lv124 0 = some (.ref 107) := fx_e1 elv124 hlv121_0 (by decide) (Or.inl (by decide))
              have hlv124_1 : aj_lv lv124 1 = some (.ref p1) := fx_e1 elv124 hlv121_1 (by decide) (Or.inl (by decide))
              have hlv124_2 : aj_lv lv124 2 = some (.ref p2) := fx_e1 elv124 hlv121_2 (by decide) (Or.inl (by decide))
              have hlv124_4 : aj_lv lv124 4 = some (.int p4) := fx_e1 elv124 hlv121_4 (by decide) (Or.inl (by decide))
              have hlv124_5 : aj_lv lv124 5 = some (.int p5) := fx_e1 elv124 hlv121_5 (by decide) (Or.inl (by decide))
              have hlv124_8 : aj_lv lv124 8 = some (.int y8) := fx_e1 elv124 hlv121_8 (by decide) (Or.inl (by decide))
              have hlv124_12 : aj_lv lv124 12 = some (.int (Int32.ofInt 1)) := fx_e1 elv124 hlv121_12 (by decide) (Or.inl (by decide))
              have hlv124_9 : aj_lv lv124 9 = some (.int x120) := fx_e1 elv124 hlv121_9 (by decide) (Or.inl (by decide))
              have hlv124_7 : aj_lv lv124 7 = some (.int x123) := by rw [elv124]; exact ak_set1_eq _ _ _
              show fx_W _ _ _ 153 lv124 [] _ _
              refine fx_i0 aj_d180 rfl (Nat.le_succ _) (fun _ => rfl) hlv124_8 ?_
              refine fx_i0 aj_d180 rfl (Nat.le_succ _) (fun _ => rfl) hlv124_12 ?_
              refine fx_b0 (tgt := 164) aj_d180 rfl (Nat.le_succ _) rfl (fun q125 => ?_) (fun q125 => ?_)
              · exact absurd q125 (by decide)
              · skip
                show fx_W _ _ _ 160 lv124 [.int y8] _ _
                refine fx_n (pc' := 161) (lv' := lv124) (st' := [.int (Int32.ofInt 1), .int y8]) aj_d180 rfl (Nat.le_succ _) (fun _ => rfl) ?_
                refine fx_n (pc' := 165) (lv' := lv124) (st' := [.int (Int32.ofInt 1), .int y8]) aj_d180 rfl (Nat.le_succ _) (fun _ => rfl) ?_
                refine fx_n (pc' := 166) (lv' := lv124) (st' := [.int (y8 + (Int32.ofInt 1))]) aj_d180 rfl (Nat.le_succ _) (fun _ => rfl) ?_
                refine fx_qxI (fun x126 ex126 => ?_)
                refine fx_s0 (j := 8) aj_d180 rfl (Nat.le_succ _) (by decide) (fun _ => rfl) ?_
                obtain ⟨lv127, elv127⟩ : ∃ l, l = aj_set1 lv124 8 (.int x126) := ⟨_, rfl⟩
                rw [← elv127]
                have hlv127_0 : aj_lv lv127 0 = some (.ref 107) := fx_e1 elv127 hlv124_0 (by decide) (Or.inl (by decide))
                have hlv127_1 : aj_lv lv127 1 = some (.ref p1) := fx_e1 elv127 hlv124_1 (by decide) (Or.inl (by decide))
                have hlv127_2 : aj_lv lv127 2 = some (.ref p2) := fx_e1 elv127 hlv124_2 (by decide) (Or.inl (by decide))
                have hlv127_4 : aj_lv lv127 4 = some (.int p4) := fx_e1 elv127 hlv124_4 (by decide) (Or.inl (by decide))
                have hlv127_5 : aj_lv lv127 5 = some (.int p5) := fx_e1 elv127 hlv124_5 (by decide) (Or.inl (by decide))
                have hlv127_9 : aj_lv lv127 9 = some (.int x120) := fx_e1 elv127 hlv124_9 (by decide) (Or.inl (by decide))
                have hlv127_7 : aj_lv lv127 7 = some (.int x123) := fx_e1 elv127 hlv124_7 (by decide) (Or.inr rfl)
                have hlv127_8 : aj_lv lv127 8 = some (.int x126) := by rw [elv127]; exact ak_set1_eq _ _ _
                show fx_W _ _ _ 168 lv127 [] _ _
                refine fx_n (pc' := 11) (lv' := lv127) (st' := []) aj_d180 rfl (Nat.le_succ _) (fun _ => rfl) ?_
                exact (ih.1) lv127 (x123) (x126) (x120) X118  hlv127_0 hlv127_1 hlv127_2 hlv127_4 hlv127_5 hlv127_7 hlv127_8 hlv127_9
            · exact absurd q122 (by decide)
        · exact absurd q113 (by decide)
theorem gx_180_ok {tb : aj_T} (p1 : Nat) (p2 : Nat) (p3 : Int32) (p4 : Int32) (p5 : Int32) (p6 : Int32) {X : fx_X} : fx_K tb 180 [.ref 107, .ref p1, .ref p2, .int p3, .int p4, .int p5, .int p6] X (fx_Q fx_qI (fun v X' => gx_180 p1 p2 p3 p4 p5 p6 X v X')) := by
  refine fx_m aj_m180_at rfl (fun N => ?_)
  refine fx_mono (Q := fx_Q fx_qI (fun v X' => ∃ n : Nat, gxE_180 p1 p2 p3 p4 p5 p6 (gxF_180 p1 p2 p3 p4 p5 p6 n) X v X')) (fun r X' h => h) ?_
  unfold gxE_180
  show fx_W _ _ _ 0 [(0, .ref 107), (1, .ref p1), (2, .ref p2), (3, .int p3), (4, .int p4), (5, .int p5), (6, .int p6)] [] _ _
  obtain ⟨lv1, elv1⟩ : ∃ l : aj_V, l = [(0, .ref 107), (1, .ref p1), (2, .ref p2), (3, .int p3), (4, .int p4), (5, .int p5), (6, .int p6)] := ⟨_, rfl⟩
  rw [← elv1]
  have hlv1_0 : aj_lv lv1 0 = some (.ref 107) := by rw [elv1]; rfl
  have hlv1_1 : aj_lv lv1 1 = some (.ref p1) := by rw [elv1]; rfl
  have hlv1_2 : aj_lv lv1 2 = some (.ref p2) := by rw [elv1]; rfl
  have hlv1_3 : aj_lv lv1 3 = some (.int p3) := by rw [elv1]; rfl
  have hlv1_4 : aj_lv lv1 4 = some (.int p4) := by rw [elv1]; rfl
  have hlv1_5 : aj_lv lv1 5 = some (.int p5) := by rw [elv1]; rfl
  have hlv1_6 : aj_lv lv1 6 = some (.int p6) := by rw [elv1]; rfl
  refine fx_i0 aj_d180 rfl (Nat.le_succ _) (fun _ => rfl) hlv1_3 ?_
  refine fx_s0 (j := 7) aj_d180 rfl (Nat.le_succ _) (by decide) (fun _ => rfl) ?_
  obtain ⟨lv2, elv2⟩ : ∃ l, l = aj_set1 lv1 7 (.int p3) := ⟨_, rfl⟩
  rw [← elv2]
  have hlv2_0 : aj_lv lv2 0 = some (.ref 107) := fx_e1 elv2 hlv1_0 (by decide) (Or.inl (by decide))
  have hlv2_1 : aj_lv lv2 1 = some (.ref p1) := fx_e1 elv2 hlv1_1 (by decide) (Or.inl (by decide))
  have hlv2_2 : aj_lv lv2 2 = some (.ref p2) := fx_e1 elv2 hlv1_2 (by decide) (Or.inl (by decide))
  have hlv2_4 : aj_lv lv2 4 = some (.int p4) := fx_e1 elv2 hlv1_4 (by decide) (Or.inl (by decide))
  have hlv2_5 : aj_lv lv2 5 = some (.int p5) := fx_e1 elv2 hlv1_5 (by decide) (Or.inl (by decide))
  have hlv2_6 : aj_lv lv2 6 = some (.int p6) := fx_e1 elv2 hlv1_6 (by decide) (Or.inr rfl)
  have hlv2_7 : aj_lv lv2 7 = some (.int p3) := by rw [elv2]; exact ak_set1_eq _ _ _
  show fx_W _ _ _ 3 lv2 [] _ _
  refine fx_i0 aj_d180 rfl (Nat.le_succ _) (fun _ => rfl) hlv2_4 ?_
  refine fx_s0 (j := 8) aj_d180 rfl (Nat.le_succ _) (by decide) (fun _ => rfl) ?_
  obtain ⟨lv3, elv3⟩ : ∃ l, l = aj_set1 lv2 8 (.int p4) := ⟨_, rfl⟩
  rw [← elv3]
  have hlv3_0 : aj_lv lv3 0 = some (.ref 107) := fx_e1 elv3 hlv2_0 (by decide) (Or.inl (by decide))
  have hlv3_1 : aj_lv lv3 1 = some (.ref p1) := fx_e1 elv3 hlv2_1 (by decide) (Or.inl (by decide))
  have hlv3_2 : aj_lv lv3 2 = some (.ref p2) := fx_e1 elv3 hlv2_2 (by decide) (Or.inl (by decide))
  have hlv3_4 : aj_lv lv3 4 = some (.int p4) := fx_e1 elv3 hlv2_4 (by decide) (Or.inl (by decide))
  have hlv3_5 : aj_lv lv3 5 = some (.int p5) := fx_e1 elv3 hlv2_5 (by decide) (Or.inl (by decide))
  have hlv3_6 : aj_lv lv3 6 = some (.int p6) := fx_e1 elv3 hlv2_6 (by decide) (Or.inl (by decide))
  have hlv3_7 : aj_lv lv3 7 = some (.int p3) := fx_e1 elv3 hlv2_7 (by decide) (Or.inr rfl)
  have hlv3_8 : aj_lv lv3 8 = some (.int p4) := by rw [elv3]; exact ak_set1_eq _ _ _
  show fx_W _ _ _ 7 lv3 [] _ _
  refine fx_i0 aj_d180 rfl (Nat.le_succ _) (fun _ => rfl) hlv3_6 ?_
  refine fx_s0 (j := 9) aj_d180 rfl (Nat.le_succ _) (by decide) (fun _ => rfl) ?_
  obtain ⟨lv4, elv4⟩ : ∃ l, l = aj_set1 lv3 9 (.int p6) := ⟨_, rfl⟩
  rw [← elv4]
  have hlv4_0 : aj_lv lv4 0 = some (.ref 107) := fx_e1 elv4 hlv3_0 (by decide) (Or.inl (by decide))
  have hlv4_1 : aj_lv lv4 1 = some (.ref p1) := fx_e1 elv4 hlv3_1 (by decide) (Or.inl (by decide))
  have hlv4_2 : aj_lv lv4 2 = some (.ref p2) := fx_e1 elv4 hlv3_2 (by decide) (Or.inl (by decide))
  have hlv4_4 : aj_lv lv4 4 = some (.int p4) := fx_e1 elv4 hlv3_4 (by decide) (Or.inl (by decide))
  have hlv4_5 : aj_lv lv4 5 = some (.int p5) := fx_e1 elv4 hlv3_5 (by decide) (Or.inl (by decide))
  have hlv4_7 : aj_lv lv4 7 = some (.int p3) := fx_e1 elv4 hlv3_7 (by decide) (Or.inl (by decide))
  have hlv4_8 : aj_lv lv4 8 = some (.int p4) := fx_e1 elv4 hlv3_8 (by decide) (Or.inr rfl)
  have hlv4_9 : aj_lv lv4 9 = some (.int p6) := by rw [elv4]; exact ak_set1_eq _ _ _
  show fx_W _ _ _ 11 lv4 [] _ _
  exact ((gxL_180 p1 p2 p3 p4 p5 p6 N).1) lv4 (p3) (p4) (p6) X  hlv4_0 hlv4_1 hlv4_2 hlv4_4 hlv4_5 hlv4_7 hlv4_8 hlv4_9
def gxT_179_11 (p1 : Nat) (p2 : Nat) (P : Nat → List Int32 → List Int64 → List Nat → fx_X → Unit → fx_X → Prop) (y3 : Int32) (y4 : Int32) (y5 : Int32) (y6 : Int32) (X : fx_X) (v : Unit) (X' : fx_X) : Prop :=
  (if (y6).toInt < ((X.1 107 8)).toInt then ((if (y6).toInt < 1024 then ((0 ≤ (y6).toInt ∧ (y6).toInt < ((1024 : Nat) : Int)) ∧ ∃ x29 : Int32, x29 = (X.1 110 (y6).toInt.toNat) ∧ (if ((y6 + (Int32.ofInt 1))).toInt < ((X.1 107 8)).toInt then ((if ((y6 + (Int32.ofInt 1))).toInt < 1024 then ((0 ≤ ((y6 + (Int32.ofInt 1))).toInt ∧ ((y6 + (Int32.ofInt 1))).toInt < ((1024 : Nat) : Int)) ∧ ∃ x60 : Int32, x60 = (X.1 110 ((y6 + (Int32.ofInt 1))).toInt.toNat) ∧ ∃ (w63 : Int32) (X62 : fx_X), gx_180 p1 p2 y3 x29 x60 y4 X w63 X62 ∧ (0 ≤ (y5).toInt ∧ (y5).toInt < ((1024 : Nat) : Int)) ∧ ∃ X68 : fx_X, X68 = (fx_wI X62 110 (y5).toInt.toNat w63) ∧ ∃ x69 : Int32, x69 = y5 + Int32.ofInt 1 ∧ ∃ x71 : Int32, x71 = y6 + Int32.ofInt 2 ∧ P 11 [x60, w63, x69, x71] [] [] X68 v X') else (∃ (w48 : Int32) (X47 : fx_X), gx_180 p1 p2 y3 x29 x29 y4 X w48 X47 ∧ (0 ≤ (y5).toInt ∧ (y5).toInt < ((1024 : Nat) : Int)) ∧ ∃ X53 : fx_X, X53 = (fx_wI X47 110 (y5).toInt.toNat w48) ∧ ∃ x54 : Int32, x54 = y5 + Int32.ofInt 1 ∧ ∃ x56 : Int32, x56 = y6 + Int32.ofInt 2 ∧ P 11 [x29, w48, x54, x56] [] [] X53 v X'))) else (∃ (w34 : Int32) (X33 : fx_X), gx_180 p1 p2 y3 x29 x29 y4 X w34 X33 ∧ (0 ≤ (y5).toInt ∧ (y5).toInt < ((1024 : Nat) : Int)) ∧ ∃ X39 : fx_X, X39 = (fx_wI X33 110 (y5).toInt.toNat w34) ∧ ∃ x40 : Int32, x40 = y5 + Int32.ofInt 1 ∧ ∃ x42 : Int32, x42 = y6 + Int32.ofInt 2 ∧ P 11 [x29, w34, x40, x42] [] [] X39 v X'))) else (∃ X18 : fx_X, X18 = (fx_wI X 107 8 y5) ∧ ∃ X19 : fx_X, X19 = (fx_wI X18 107 3 y4) ∧ ∃ b21 : Nat, X19.2.2.1 107 5 = some b21 ∧ ∃ b24 : Nat, X19.2.2.1 107 6 = some b24 ∧ ∃ X25 : fx_X, X25 = (fx_wR X19 107 5 (some b24)) ∧ ∃ X26 : fx_X, X26 = (fx_wR X25 107 6 (some b21)) ∧ X' = X26))) else (∃ X7 : fx_X, X7 = (fx_wI X 107 8 y5) ∧ ∃ X8 : fx_X, X8 = (fx_wI X7 107 3 y4) ∧ ∃ b10 : Nat, X8.2.2.1 107 5 = some b10 ∧ ∃ b13 : Nat, X8.2.2.1 107 6 = some b13 ∧ ∃ X14 : fx_X, X14 = (fx_wR X8 107 5 (some b13)) ∧ ∃ X15 : fx_X, X15 = (fx_wR X14 107 6 (some b10)) ∧ X' = X15))
def gxE_179 (p1 : Nat) (p2 : Nat) (P : Nat → List Int32 → List Int64 → List Nat → fx_X → Unit → fx_X → Prop) (X : fx_X) (v : Unit) (X' : fx_X) : Prop :=
  P 11 [(Int32.ofInt 0), (Int32.ofInt 0), (Int32.ofInt 0), (Int32.ofInt 0)] [] [] X v X'
noncomputable def gxF_179 (p1 : Nat) (p2 : Nat) (n : Nat) : Nat → List Int32 → List Int64 → List Nat → fx_X → Unit → fx_X → Prop := Nat.rec (motive := fun _ => Nat → List Int32 → List Int64 → List Nat → fx_X → Unit → fx_X → Prop) (fun _ _ _ _ _ _ _ => False) (fun _ P l is ls rs X v X' => (l = 11 ∧ ∃ (y3 : Int32) (y4 : Int32) (y5 : Int32) (y6 : Int32), is = [y3, y4, y5, y6] ∧ ls = [] ∧ rs = [] ∧ gxT_179_11 p1 p2 P y3 y4 y5 y6 X v X')) n
theorem gxI_179_11 {p1 : Nat} {p2 : Nat} {n : Nat} {y3 : Int32} {y4 : Int32} {y5 : Int32} {y6 : Int32} {X : fx_X} {v : Unit} {X' : fx_X} (h : gxT_179_11 p1 p2 (gxF_179 p1 p2 n) y3 y4 y5 y6 X v X') : gxF_179 p1 p2 (n + 1) 11 [y3, y4, y5, y6] [] [] X v X' := ⟨rfl, y3, y4, y5, y6, rfl, rfl, rfl, h⟩
theorem gxO_179_11 {p1 : Nat} {p2 : Nat} {n : Nat} {y3 : Int32} {y4 : Int32} {y5 : Int32} {y6 : Int32} {X : fx_X} {v : Unit} {X' : fx_X} (h : gxF_179 p1 p2 (n + 1) 11 [y3, y4, y5, y6] [] [] X v X') : gxT_179_11 p1 p2 (gxF_179 p1 p2 n) y3 y4 y5 y6 X v X' := by
  rcases h with ⟨-, _, _, _, _, e1, e2, e3, h⟩
  · cases e1; cases e2; cases e3; exact h
def gx_179 (p1 : Nat) (p2 : Nat) (X : fx_X) (v : Unit) (X' : fx_X) : Prop := ∃ n : Nat, gxE_179 p1 p2 (gxF_179 p1 p2 n) X v X'
theorem gxL_179 {tb : aj_T} (p1 : Nat) (p2 : Nat) : ∀ N : Nat, (∀ (lv : aj_V) (y3 : Int32) (y4 : Int32) (y5 : Int32) (y6 : Int32) (X : fx_X), aj_lv lv 0 = some (.ref 107) → aj_lv lv 1 = some (.ref p1) → aj_lv lv 2 = some (.ref p2) → aj_lv lv 3 = some (.int y3) → aj_lv lv 4 = some (.int y4) → aj_lv lv 5 = some (.int y5) → aj_lv lv 6 = some (.int y6) → fx_W tb aj_m179 N 11 lv [] X (fx_Q fx_qN (fun v X' => ∃ n : Nat, gxF_179 p1 p2 n 11 [y3, y4, y5, y6] [] [] X v X'))) := by
  intro N
  induction N with
  | zero => exact (by intros; exact fx_z)
  | succ N ih =>
    skip
    · intro lv y3 y4 y5 y6 X hlv_0 hlv_1 hlv_2 hlv_3 hlv_4 hlv_5 hlv_6
      refine fx_mono (Q := fx_Q fx_qN (fun v X' => ∃ n : Nat, gxT_179_11 p1 p2 (gxF_179 p1 p2 n) y3 y4 y5 y6 X v X')) (fun r X' ⟨v, e, n, z⟩ => ⟨v, e, n + 1, gxI_179_11 z⟩) ?_
      unfold gxT_179_11
      refine fx_i0 aj_d179 rfl (Nat.le_refl _) (fun _ => rfl) hlv_6 ?_
      refine fx_i2 aj_d179 rfl (Nat.le_succ _) (fun _ => rfl) hlv_0 ?_
      refine fx_gI aj_d179 rfl (Nat.le_succ _) rfl rfl (Or.inl rfl) ?_
      refine fx_b (tgt := 114) aj_d179 rfl (Nat.le_succ _) rfl (fun q6 => ?_) (fun q6 => ?_)
      · skip
        refine fx_qe (c := (y6).toInt < ((X.1 107 8)).toInt) (fx_t_ge q6) ?_
        show fx_W _ _ _ 114 lv [] _ _
        refine fx_i2 aj_d179 rfl (Nat.le_succ _) (fun _ => rfl) hlv_0 ?_
        refine fx_i0 aj_d179 rfl (Nat.le_succ _) (fun _ => rfl) hlv_5 ?_
        refine fx_pI aj_d179 rfl (Nat.le_succ _) rfl rfl (Or.inl rfl) fx_no_2_8 (by decide) ?_
        refine fx_qX (fun X7 eX7 => ?_)
        show fx_W _ _ _ 120 lv [] _ _
        refine fx_i2 aj_d179 rfl (Nat.le_succ _) (fun _ => rfl) hlv_0 ?_
        refine fx_i0 aj_d179 rfl (Nat.le_succ _) (fun _ => rfl) hlv_4 ?_
        refine fx_pI aj_d179 rfl (Nat.le_succ _) rfl rfl (Or.inl rfl) fx_no_2_3 (by decide) ?_
        refine fx_qX (fun X8 eX8 => ?_)
        show fx_W _ _ _ 126 lv [] _ _
        refine fx_i2 aj_d179 rfl (Nat.le_succ _) (fun _ => rfl) hlv_0 ?_
        refine fx_gR aj_d179 rfl (Nat.le_succ _) rfl rfl (Or.inr ⟨_, rfl⟩) (fun _ z => absurd (by decide) z) (fun b10 q9 => ?_)
        show fx_W _ _ _ 130 lv [.ref b10] _ _
        refine fx_qs q9 ?_
        refine fx_s2 (j := 6) aj_d179 rfl (Nat.le_succ _) (by decide) (fun _ => rfl) ?_
        obtain ⟨lv11, elv11⟩ : ∃ l, l = aj_set1 lv 6 (.ref b10) := ⟨_, rfl⟩
        rw [← elv11]
        have hlv11_0 : aj_lv lv11 0 = some (.ref 107) := fx_e1 elv11 hlv_0 (by decide) (Or.inl (by decide))
        have hlv11_6 : aj_lv lv11 6 = some (.ref b10) := by rw [elv11]; exact ak_set1_eq _ _ _
        show fx_W _ _ _ 132 lv11 [] _ _
        refine fx_i2 aj_d179 rfl (Nat.le_succ _) (fun _ => rfl) hlv11_0 ?_
        refine fx_i2 aj_d179 rfl (Nat.le_succ _) (fun _ => rfl) hlv11_0 ?_
        refine fx_gR aj_d179 rfl (Nat.le_succ _) rfl rfl (Or.inr ⟨_, rfl⟩) (fun _ z => absurd (by decide) z) (fun b13 q12 => ?_)
        show fx_W _ _ _ 137 lv11 [.ref b13, .ref 107] _ _
        refine fx_qs q12 ?_
        refine fx_pR aj_d179 rfl (Nat.le_succ _) rfl rfl (Or.inr ⟨_, rfl⟩) fx_no_2_5 (o := (some b13)) rfl (fun _ z => by cases z) ?_
        refine fx_qX (fun X14 eX14 => ?_)
        show fx_W _ _ _ 140 lv11 [] _ _
        refine fx_i2 aj_d179 rfl (Nat.le_succ _) (fun _ => rfl) hlv11_0 ?_
        refine fx_i2 aj_d179 rfl (Nat.le_succ _) (fun _ => rfl) hlv11_6 ?_
        refine fx_pR aj_d179 rfl (Nat.le_succ _) rfl rfl (Or.inr ⟨_, rfl⟩) fx_no_2_6 (o := (some b10)) rfl (fun _ z => by cases z) ?_
        refine fx_qX (fun X15 eX15 => ?_)
        show fx_W _ _ _ 146 lv11 [] _ _
        exact fx_rn aj_d179 rfl ⟨(), rfl, 0, rfl⟩
      · skip
        refine fx_qi (c := (y6).toInt < ((X.1 107 8)).toInt) (fx_f_ge q6) ?_
        show fx_W _ _ _ 20 lv [] _ _
        refine fx_i0 aj_d179 rfl (Nat.le_succ _) (fun _ => rfl) hlv_6 ?_
        refine fx_i2 aj_d179 rfl (Nat.le_succ _) (fun _ => rfl) hlv_0 ?_
        refine fx_gF aj_d179 rfl (Nat.le_succ _) rfl rfl fx_in_2_7 (t := 110) rfl (fun hA16 => ?_)
        refine fx_al aj_d179 rfl (Nat.le_succ _) ?_
        rw [(hA16 : X.2.2.2.1 110 = (0, 1024))]
        show fx_W _ _ _ 27 lv [.int (Int32.ofNat 1024), .int y6] _ _
        refine fx_b (tgt := 114) aj_d179 rfl (Nat.le_succ _) rfl (fun q17 => ?_) (fun q17 => ?_)
        · skip
          refine fx_qe (c := (y6).toInt < 1024) (fx_t_ge q17) ?_
          show fx_W _ _ _ 114 lv [] _ _
          refine fx_i2 aj_d179 rfl (Nat.le_succ _) (fun _ => rfl) hlv_0 ?_
          refine fx_i0 aj_d179 rfl (Nat.le_succ _) (fun _ => rfl) hlv_5 ?_
          refine fx_pI aj_d179 rfl (Nat.le_succ _) rfl rfl (Or.inl rfl) fx_no_2_8 (by decide) ?_
          refine fx_qX (fun X18 eX18 => ?_)
          show fx_W _ _ _ 120 lv [] _ _
          refine fx_i2 aj_d179 rfl (Nat.le_succ _) (fun _ => rfl) hlv_0 ?_
          refine fx_i0 aj_d179 rfl (Nat.le_succ _) (fun _ => rfl) hlv_4 ?_
          refine fx_pI aj_d179 rfl (Nat.le_succ _) rfl rfl (Or.inl rfl) fx_no_2_3 (by decide) ?_
          refine fx_qX (fun X19 eX19 => ?_)
          show fx_W _ _ _ 126 lv [] _ _
          refine fx_i2 aj_d179 rfl (Nat.le_succ _) (fun _ => rfl) hlv_0 ?_
          refine fx_gR aj_d179 rfl (Nat.le_succ _) rfl rfl (Or.inr ⟨_, rfl⟩) (fun _ z => absurd (by decide) z) (fun b21 q20 => ?_)
          show fx_W _ _ _ 130 lv [.ref b21] _ _
          refine fx_qs q20 ?_
          refine fx_s2 (j := 6) aj_d179 rfl (Nat.le_succ _) (by decide) (fun _ => rfl) ?_
          obtain ⟨lv22, elv22⟩ : ∃ l, l = aj_set1 lv 6 (.ref b21) := ⟨_, rfl⟩
          rw [← elv22]
          have hlv22_0 : aj_lv lv22 0 = some (.ref 107) := fx_e1 elv22 hlv_0 (by decide) (Or.inl (by decide))
          have hlv22_6 : aj_lv lv22 6 = some (.ref b21) := by rw [elv22]; exact ak_set1_eq _ _ _
          show fx_W _ _ _ 132 lv22 [] _ _
          refine fx_i2 aj_d179 rfl (Nat.le_succ _) (fun _ => rfl) hlv22_0 ?_
          refine fx_i2 aj_d179 rfl (Nat.le_succ _) (fun _ => rfl) hlv22_0 ?_
          refine fx_gR aj_d179 rfl (Nat.le_succ _) rfl rfl (Or.inr ⟨_, rfl⟩) (fun _ z => absurd (by decide) z) (fun b24 q23 => ?_)
          show fx_W _ _ _ 137 lv22 [.ref b24, .ref 107] _ _
          refine fx_qs q23 ?_
          refine fx_pR aj_d179 rfl (Nat.le_succ _) rfl rfl (Or.inr ⟨_, rfl⟩) fx_no_2_5 (o := (some b24)) rfl (fun _ z => by cases z) ?_
          refine fx_qX (fun X25 eX25 => ?_)
          show fx_W _ _ _ 140 lv22 [] _ _
          refine fx_i2 aj_d179 rfl (Nat.le_succ _) (fun _ => rfl) hlv22_0 ?_
          refine fx_i2 aj_d179 rfl (Nat.le_succ _) (fun _ => rfl) hlv22_6 ?_
          refine fx_pR aj_d179 rfl (Nat.le_succ _) rfl rfl (Or.inr ⟨_, rfl⟩) fx_no_2_6 (o := (some b21)) rfl (fun _ z => by cases z) ?_
          refine fx_qX (fun X26 eX26 => ?_)
          show fx_W _ _ _ 146 lv22 [] _ _
          exact fx_rn aj_d179 rfl ⟨(), rfl, 0, rfl⟩
        · skip
          refine fx_qi (c := (y6).toInt < 1024) (fx_f_ge q17) ?_
          show fx_W _ _ _ 30 lv [] _ _
          refine fx_i2 aj_d179 rfl (Nat.le_succ _) (fun _ => rfl) hlv_0 ?_
          refine fx_gF aj_d179 rfl (Nat.le_succ _) rfl rfl fx_in_2_7 (t := 110) rfl (fun hA27 => ?_)
          refine fx_i0 aj_d179 rfl (Nat.le_succ _) (fun _ => rfl) hlv_6 ?_
          refine fx_ld aj_d179 (Or.inl rfl) rfl (Nat.le_succ _) (fun g280 g281 => ?_)
          show fx_W _ _ _ 37 lv [.int (X.1 110 (y6).toInt.toNat)] _ _
          refine fx_qa (c := 0 ≤ (y6).toInt ∧ (y6).toInt < ((1024 : Nat) : Int)) ⟨g280, fx_lnk g281 hA27⟩ ?_
          refine fx_qxI (fun x29 ex29 => ?_)
          refine fx_s0 (j := 7) aj_d179 rfl (Nat.le_succ _) (by decide) (fun _ => rfl) ?_
          obtain ⟨lv30, elv30⟩ : ∃ l, l = aj_set1 lv 7 (.int x29) := ⟨_, rfl⟩
          rw [← elv30]
          have hlv30_0 : aj_lv lv30 0 = some (.ref 107) := fx_e1 elv30 hlv_0 (by decide) (Or.inl (by decide))
          have hlv30_1 : aj_lv lv30 1 = some (.ref p1) := fx_e1 elv30 hlv_1 (by decide) (Or.inl (by decide))
          have hlv30_2 : aj_lv lv30 2 = some (.ref p2) := fx_e1 elv30 hlv_2 (by decide) (Or.inl (by decide))
          have hlv30_3 : aj_lv lv30 3 = some (.int y3) := fx_e1 elv30 hlv_3 (by decide) (Or.inl (by decide))
          have hlv30_4 : aj_lv lv30 4 = some (.int y4) := fx_e1 elv30 hlv_4 (by decide) (Or.inl (by decide))
          have hlv30_5 : aj_lv lv30 5 = some (.int y5) := fx_e1 elv30 hlv_5 (by decide) (Or.inl (by decide))
          have hlv30_6 : aj_lv lv30 6 = some (.int y6) := fx_e1 elv30 hlv_6 (by decide) (Or.inr rfl)
          have hlv30_7 : aj_lv lv30 7 = some (.int x29) := by rw [elv30]; exact ak_set1_eq _ _ _
          show fx_W _ _ _ 39 lv30 [] _ _
          refine fx_i0 aj_d179 rfl (Nat.le_succ _) (fun _ => rfl) hlv30_6 ?_
          refine fx_n (pc' := 42) (lv' := lv30) (st' := [.int (Int32.ofInt 1), .int y6]) aj_d179 rfl (Nat.le_succ _) (fun _ => rfl) ?_
          refine fx_n (pc' := 43) (lv' := lv30) (st' := [.int (y6 + (Int32.ofInt 1))]) aj_d179 rfl (Nat.le_succ _) (fun _ => rfl) ?_
          refine fx_i2 aj_d179 rfl (Nat.le_succ _) (fun _ => rfl) hlv30_0 ?_
          refine fx_gI aj_d179 rfl (Nat.le_succ _) rfl rfl (Or.inl rfl) ?_
          refine fx_b (tgt := 74) aj_d179 rfl (Nat.le_succ _) rfl (fun q31 => ?_) (fun q31 => ?_)
          · skip
            refine fx_qe (c := ((y6 + (Int32.ofInt 1))).toInt < ((X.1 107 8)).toInt) (fx_t_ge q31) ?_
            show fx_W _ _ _ 74 lv30 [] _ _
            refine fx_i0 aj_d179 rfl (Nat.le_succ _) (fun _ => rfl) hlv30_7 ?_
            refine fx_s0 (j := 8) aj_d179 rfl (Nat.le_succ _) (by decide) (fun _ => rfl) ?_
            obtain ⟨lv32, elv32⟩ : ∃ l, l = aj_set1 lv30 8 (.int x29) := ⟨_, rfl⟩
            rw [← elv32]
            have hlv32_0 : aj_lv lv32 0 = some (.ref 107) := fx_e1 elv32 hlv30_0 (by decide) (Or.inl (by decide))
            have hlv32_1 : aj_lv lv32 1 = some (.ref p1) := fx_e1 elv32 hlv30_1 (by decide) (Or.inl (by decide))
            have hlv32_2 : aj_lv lv32 2 = some (.ref p2) := fx_e1 elv32 hlv30_2 (by decide) (Or.inl (by decide))
            have hlv32_3 : aj_lv lv32 3 = some (.int y3) := fx_e1 elv32 hlv30_3 (by decide) (Or.inl (by decide))
            have hlv32_4 : aj_lv lv32 4 = some (.int y4) := fx_e1 elv32 hlv30_4 (by decide) (Or.inl (by decide))
            have hlv32_5 : aj_lv lv32 5 = some (.int y5) := fx_e1 elv32 hlv30_5 (by decide) (Or.inl (by decide))
            have hlv32_6 : aj_lv lv32 6 = some (.int y6) := fx_e1 elv32 hlv30_6 (by decide) (Or.inl (by decide))
            have hlv32_7 : aj_lv lv32 7 = some (.int x29) := fx_e1 elv32 hlv30_7 (by decide) (Or.inr rfl)
            have hlv32_8 : aj_lv lv32 8 = some (.int x29) := by rw [elv32]; exact ak_set1_eq _ _ _
            show fx_W _ _ _ 78 lv32 [] _ _
            refine fx_i2 aj_d179 rfl (Nat.le_succ _) (fun _ => rfl) hlv32_0 ?_
            refine fx_i2 aj_d179 rfl (Nat.le_succ _) (fun _ => rfl) hlv32_1 ?_
            refine fx_i2 aj_d179 rfl (Nat.le_succ _) (fun _ => rfl) hlv32_2 ?_
            refine fx_i0 aj_d179 rfl (Nat.le_succ _) (fun _ => rfl) hlv32_3 ?_
            refine fx_i0 aj_d179 rfl (Nat.le_succ _) (fun _ => rfl) hlv32_7 ?_
            refine fx_i0 aj_d179 rfl (Nat.le_succ _) (fun _ => rfl) hlv32_8 ?_
            refine fx_i0 aj_d179 rfl (Nat.le_succ _) (fun _ => rfl) hlv32_4 ?_
            refine fx_cv aj_d179 rfl (Nat.le_succ _) rfl [_, _, _, _, _, _] rfl rfl (gx_180_ok p1 p2 y3 x29 x29 y4) ?_
            rintro _ X33 ⟨w34, rfl, hR33⟩ hok33 hle33
            refine fx_qc hR33 ?_
            show fx_W _ _ _ 91 lv32 [.int w34] _ _
            refine fx_s0 (j := 4) aj_d179 rfl (Nat.le_succ _) (by decide) (fun _ => rfl) ?_
            obtain ⟨lv35, elv35⟩ : ∃ l, l = aj_set1 lv32 4 (.int w34) := ⟨_, rfl⟩
            rw [← elv35]
            have hlv35_0 : aj_lv lv35 0 = some (.ref 107) := fx_e1 elv35 hlv32_0 (by decide) (Or.inl (by decide))
            have hlv35_1 : aj_lv lv35 1 = some (.ref p1) := fx_e1 elv35 hlv32_1 (by decide) (Or.inl (by decide))
            have hlv35_2 : aj_lv lv35 2 = some (.ref p2) := fx_e1 elv35 hlv32_2 (by decide) (Or.inl (by decide))
            have hlv35_5 : aj_lv lv35 5 = some (.int y5) := fx_e1 elv35 hlv32_5 (by decide) (Or.inl (by decide))
            have hlv35_6 : aj_lv lv35 6 = some (.int y6) := fx_e1 elv35 hlv32_6 (by decide) (Or.inl (by decide))
            have hlv35_8 : aj_lv lv35 8 = some (.int x29) := fx_e1 elv35 hlv32_8 (by decide) (Or.inl (by decide))
            have hlv35_4 : aj_lv lv35 4 = some (.int w34) := by rw [elv35]; exact ak_set1_eq _ _ _
            show fx_W _ _ _ 93 lv35 [] _ _
            refine fx_i0 aj_d179 rfl (Nat.le_succ _) (fun _ => rfl) hlv35_8 ?_
            refine fx_s0 (j := 3) aj_d179 rfl (Nat.le_succ _) (by decide) (fun _ => rfl) ?_
            obtain ⟨lv36, elv36⟩ : ∃ l, l = aj_set1 lv35 3 (.int x29) := ⟨_, rfl⟩
            rw [← elv36]
            have hlv36_0 : aj_lv lv36 0 = some (.ref 107) := fx_e1 elv36 hlv35_0 (by decide) (Or.inl (by decide))
            have hlv36_1 : aj_lv lv36 1 = some (.ref p1) := fx_e1 elv36 hlv35_1 (by decide) (Or.inl (by decide))
            have hlv36_2 : aj_lv lv36 2 = some (.ref p2) := fx_e1 elv36 hlv35_2 (by decide) (Or.inr rfl)
            have hlv36_5 : aj_lv lv36 5 = some (.int y5) := fx_e1 elv36 hlv35_5 (by decide) (Or.inl (by decide))
            have hlv36_6 : aj_lv lv36 6 = some (.int y6) := fx_e1 elv36 hlv35_6 (by decide) (Or.inl (by decide))
            have hlv36_4 : aj_lv lv36 4 = some (.int w34) := fx_e1 elv36 hlv35_4 (by decide) (Or.inl (by decide))
            have hlv36_3 : aj_lv lv36 3 = some (.int x29) := by rw [elv36]; exact ak_set1_eq _ _ _
            show fx_W _ _ _ 96 lv36 [] _ _
            refine fx_i2 aj_d179 rfl (Nat.le_succ _) (fun _ => rfl) hlv36_0 ?_
            refine fx_gF aj_d179 rfl (Nat.le_succ _) rfl rfl fx_in_2_7 (t := 110) rfl (fun hA37 => ?_)
            refine fx_i0 aj_d179 rfl (Nat.le_succ _) (fun _ => rfl) hlv36_5 ?_
            refine fx_i0 aj_d179 rfl (Nat.le_succ _) (fun _ => rfl) hlv36_4 ?_
            refine fx_st aj_d179 (Or.inl ⟨rfl, rfl⟩) rfl (Nat.le_succ _) (fun g380 g381 => ?_)
            show fx_W _ _ _ _ _ _ (fx_wI X33 110 (y5).toInt.toNat w34) _
            refine fx_qa (c := 0 ≤ (y5).toInt ∧ (y5).toInt < ((1024 : Nat) : Int)) ⟨g380, fx_lnk g381 hA37⟩ ?_
            refine fx_qX (fun X39 eX39 => ?_)
            show fx_W _ _ _ 105 lv36 [] _ _
            refine fx_incq aj_d179 rfl (Nat.le_succ _) hlv36_5 (by decide) (fun x40 ex40 => ?_)
            obtain ⟨lv41, elv41⟩ : ∃ l, l = aj_set1 lv36 5 (.int x40) := ⟨_, rfl⟩
            rw [← elv41]
            have hlv41_0 : aj_lv lv41 0 = some (.ref 107) := fx_e1 elv41 hlv36_0 (by decide) (Or.inl (by decide))
            have hlv41_1 : aj_lv lv41 1 = some (.ref p1) := fx_e1 elv41 hlv36_1 (by decide) (Or.inl (by decide))
            have hlv41_2 : aj_lv lv41 2 = some (.ref p2) := fx_e1 elv41 hlv36_2 (by decide) (Or.inl (by decide))
            have hlv41_6 : aj_lv lv41 6 = some (.int y6) := fx_e1 elv41 hlv36_6 (by decide) (Or.inl (by decide))
            have hlv41_4 : aj_lv lv41 4 = some (.int w34) := fx_e1 elv41 hlv36_4 (by decide) (Or.inr rfl)
            have hlv41_3 : aj_lv lv41 3 = some (.int x29) := fx_e1 elv41 hlv36_3 (by decide) (Or.inl (by decide))
            have hlv41_5 : aj_lv lv41 5 = some (.int x40) := by rw [elv41]; exact ak_set1_eq _ _ _
            show fx_W _ _ _ 108 lv41 [] _ _
            refine fx_incq aj_d179 rfl (Nat.le_succ _) hlv41_6 (by decide) (fun x42 ex42 => ?_)
            obtain ⟨lv43, elv43⟩ : ∃ l, l = aj_set1 lv41 6 (.int x42) := ⟨_, rfl⟩
            rw [← elv43]
            have hlv43_0 : aj_lv lv43 0 = some (.ref 107) := fx_e1 elv43 hlv41_0 (by decide) (Or.inl (by decide))
            have hlv43_1 : aj_lv lv43 1 = some (.ref p1) := fx_e1 elv43 hlv41_1 (by decide) (Or.inl (by decide))
            have hlv43_2 : aj_lv lv43 2 = some (.ref p2) := fx_e1 elv43 hlv41_2 (by decide) (Or.inl (by decide))
            have hlv43_4 : aj_lv lv43 4 = some (.int w34) := fx_e1 elv43 hlv41_4 (by decide) (Or.inl (by decide))
            have hlv43_3 : aj_lv lv43 3 = some (.int x29) := fx_e1 elv43 hlv41_3 (by decide) (Or.inl (by decide))
            have hlv43_5 : aj_lv lv43 5 = some (.int x40) := fx_e1 elv43 hlv41_5 (by decide) (Or.inr rfl)
            have hlv43_6 : aj_lv lv43 6 = some (.int x42) := by rw [elv43]; exact ak_set1_eq _ _ _
            show fx_W _ _ _ 111 lv43 [] _ _
            refine fx_n (pc' := 11) (lv' := lv43) (st' := []) aj_d179 rfl (Nat.le_succ _) (fun _ => rfl) ?_
            exact (ih) lv43 (x29) (w34) (x40) (x42) X39  hlv43_0 hlv43_1 hlv43_2 hlv43_3 hlv43_4 hlv43_5 hlv43_6
          · skip
            refine fx_qi (c := ((y6 + (Int32.ofInt 1))).toInt < ((X.1 107 8)).toInt) (fx_f_ge q31) ?_
            show fx_W _ _ _ 50 lv30 [] _ _
            refine fx_i0 aj_d179 rfl (Nat.le_succ _) (fun _ => rfl) hlv30_6 ?_
            refine fx_n (pc' := 53) (lv' := lv30) (st' := [.int (Int32.ofInt 1), .int y6]) aj_d179 rfl (Nat.le_succ _) (fun _ => rfl) ?_
            refine fx_n (pc' := 54) (lv' := lv30) (st' := [.int (y6 + (Int32.ofInt 1))]) aj_d179 rfl (Nat.le_succ _) (fun _ => rfl) ?_
            refine fx_i2 aj_d179 rfl (Nat.le_succ _) (fun _ => rfl) hlv30_0 ?_
            refine fx_gF aj_d179 rfl (Nat.le_succ _) rfl rfl fx_in_2_7 (t := 110) rfl (fun hA44 => ?_)
            refine fx_al aj_d179 rfl (Nat.le_succ _) ?_
            rw [(hA44 : X.2.2.2.1 110 = (0, 1024))]
            show fx_W _ _ _ 59 lv30 [.int (Int32.ofNat 1024), .int (y6 + (Int32.ofInt 1))] _ _
            refine fx_b (tgt := 74) aj_d179 rfl (Nat.le_succ _) rfl (fun q45 => ?_) (fun q45 => ?_)
            · skip
              refine fx_qe (c := ((y6 + (Int32.ofInt 1))).toInt < 1024) (fx_t_ge q45) ?_
              show fx_W _ _ _ 74 lv30 [] _ _
              refine fx_i0 aj_d179 rfl (Nat.le_succ _) (fun _ => rfl) hlv30_7 ?_
              refine fx_s0 (j := 8) aj_d179 rfl (Nat.le_succ _) (by decide) (fun _ => rfl) ?_
              obtain ⟨lv46, elv46⟩ : ∃ l, l = aj_set1 lv30 8 (.int x29) := ⟨_, rfl⟩
              rw [← elv46]
              have hlv46_0 : aj_lv lv46 0 = some (.ref 107) := fx_e1 elv46 hlv30_0 (by decide) (Or.inl (by decide))
              have hlv46_1 : aj_lv lv46 1 = some (.ref p1) := fx_e1 elv46 hlv30_1 (by decide) (Or.inl (by decide))
              have hlv46_2 : aj_lv lv46 2 = some (.ref p2) := fx_e1 elv46 hlv30_2 (by decide) (Or.inl (by decide))
              have hlv46_3 : aj_lv lv46 3 = some (.int y3) := fx_e1 elv46 hlv30_3 (by decide) (Or.inl (by decide))
              have hlv46_4 : aj_lv lv46 4 = some (.int y4) := fx_e1 elv46 hlv30_4 (by decide) (Or.inl (by decide))
              have hlv46_5 : aj_lv lv46 5 = some (.int y5) := fx_e1 elv46 hlv30_5 (by decide) (Or.inl (by decide))
              have hlv46_6 : aj_lv lv46 6 = some (.int y6) := fx_e1 elv46 hlv30_6 (by decide) (Or.inl (by decide))
              have hlv46_7 : aj_lv lv46 7 = some (.int x29) := fx_e1 elv46 hlv30_7 (by decide) (Or.inr rfl)
              have hlv46_8 : aj_lv lv46 8 = some (.int x29) := by rw [elv46]; exact ak_set1_eq _ _ _
              show fx_W _ _ _ 78 lv46 [] _ _
              refine fx_i2 aj_d179 rfl (Nat.le_succ _) (fun _ => rfl) hlv46_0 ?_
              refine fx_i2 aj_d179 rfl (Nat.le_succ _) (fun _ => rfl) hlv46_1 ?_
              refine fx_i2 aj_d179 rfl (Nat.le_succ _) (fun _ => rfl) hlv46_2 ?_
              refine fx_i0 aj_d179 rfl (Nat.le_succ _) (fun _ => rfl) hlv46_3 ?_
              refine fx_i0 aj_d179 rfl (Nat.le_succ _) (fun _ => rfl) hlv46_7 ?_
              refine fx_i0 aj_d179 rfl (Nat.le_succ _) (fun _ => rfl) hlv46_8 ?_
              refine fx_i0 aj_d179 rfl (Nat.le_succ _) (fun _ => rfl) hlv46_4 ?_
              refine fx_cv aj_d179 rfl (Nat.le_succ _) rfl [_, _, _, _, _, _] rfl rfl (gx_180_ok p1 p2 y3 x29 x29 y4) ?_
              rintro _ X47 ⟨w48, rfl, hR47⟩ hok47 hle47
              refine fx_qc hR47 ?_
              show fx_W _ _ _ 91 lv46 [.int w48] _ _
              refine fx_s0 (j := 4) aj_d179 rfl (Nat.le_succ _) (by decide) (fun _ => rfl) ?_
              obtain ⟨lv49, elv49⟩ : ∃ l, l = aj_set1 lv46 4 (.int w48) := ⟨_, rfl⟩
              rw [← elv49]
              have hlv49_0 : aj_lv lv49 0 = some (.ref 107) := fx_e1 elv49 hlv46_0 (by decide) (Or.inl (by decide))
              have hlv49_1 : aj_lv lv49 1 = some (.ref p1) := fx_e1 elv49 hlv46_1 (by decide) (Or.inl (by decide))
              have hlv49_2 : aj_lv lv49 2 = some (.ref p2) := fx_e1 elv49 hlv46_2 (by decide) (Or.inl (by decide))
              have hlv49_5 : aj_lv lv49 5 = some (.int y5) := fx_e1 elv49 hlv46_5 (by decide) (Or.inl (by decide))
              have hlv49_6 : aj_lv lv49 6 = some (.int y6) := fx_e1 elv49 hlv46_6 (by decide) (Or.inl (by decide))
              have hlv49_8 : aj_lv lv49 8 = some (.int x29) := fx_e1 elv49 hlv46_8 (by decide) (Or.inl (by decide))
              have hlv49_4 : aj_lv lv49 4 = some (.int w48) := by rw [elv49]; exact ak_set1_eq _ _ _
              show fx_W _ _ _ 93 lv49 [] _ _
              refine fx_i0 aj_d179 rfl (Nat.le_succ _) (fun _ => rfl) hlv49_8 ?_
              refine fx_s0 (j := 3) aj_d179 rfl (Nat.le_succ _) (by decide) (fun _ => rfl) ?_
              obtain ⟨lv50, elv50⟩ : ∃ l, l = aj_set1 lv49 3 (.int x29) := ⟨_, rfl⟩
              rw [← elv50]
              have hlv50_0 : aj_lv lv50 0 = some (.ref 107) := fx_e1 elv50 hlv49_0 (by decide) (Or.inl (by decide))
              have hlv50_1 : aj_lv lv50 1 = some (.ref p1) := fx_e1 elv50 hlv49_1 (by decide) (Or.inl (by decide))
              have hlv50_2 : aj_lv lv50 2 = some (.ref p2) := fx_e1 elv50 hlv49_2 (by decide) (Or.inr rfl)
              have hlv50_5 : aj_lv lv50 5 = some (.int y5) := fx_e1 elv50 hlv49_5 (by decide) (Or.inl (by decide))
              have hlv50_6 : aj_lv lv50 6 = some (.int y6) := fx_e1 elv50 hlv49_6 (by decide) (Or.inl (by decide))
              have hlv50_4 : aj_lv lv50 4 = some (.int w48) := fx_e1 elv50 hlv49_4 (by decide) (Or.inl (by decide))
              have hlv50_3 : aj_lv lv50 3 = some (.int x29) := by rw [elv50]; exact ak_set1_eq _ _ _
              show fx_W _ _ _ 96 lv50 [] _ _
              refine fx_i2 aj_d179 rfl (Nat.le_succ _) (fun _ => rfl) hlv50_0 ?_
              refine fx_gF aj_d179 rfl (Nat.le_succ _) rfl rfl fx_in_2_7 (t := 110) rfl (fun hA51 => ?_)
              refine fx_i0 aj_d179 rfl (Nat.le_succ _) (fun _ => rfl) hlv50_5 ?_
              refine fx_i0 aj_d179 rfl (Nat.le_succ _) (fun _ => rfl) hlv50_4 ?_
              refine fx_st aj_d179 (Or.inl ⟨rfl, rfl⟩) rfl (Nat.le_succ _) (fun g520 g521 => ?_)
              show fx_W _ _ _ _ _ _ (fx_wI X47 110 (y5).toInt.toNat w48) _
              refine fx_qa (c := 0 ≤ (y5).toInt ∧ (y5).toInt < ((1024 : Nat) : Int)) ⟨g520, fx_lnk g521 hA51⟩ ?_
              refine fx_qX (fun X53 eX53 => ?_)
              show fx_W _ _ _ 105 lv50 [] _ _
              refine fx_incq aj_d179 rfl (Nat.le_succ _) hlv50_5 (by decide) (fun x54 ex54 => ?_)
              obtain ⟨lv55, elv55⟩ : ∃ l, l = aj_set1 lv50 5 (.int x54) := ⟨_, rfl⟩
              rw [← elv55]
              have hlv55_0 : aj_lv lv55 0 = some (.ref 107) := fx_e1 elv55 hlv50_0 (by decide) (Or.inl (by decide))
              have hlv55_1 : aj_lv lv55 1 = some (.ref p1) := fx_e1 elv55 hlv50_1 (by decide) (Or.inl (by decide))
              have hlv55_2 : aj_lv lv55 2 = some (.ref p2) := fx_e1 elv55 hlv50_2 (by decide) (Or.inl (by decide))
              have hlv55_6 : aj_lv lv55 6 = some (.int y6) := fx_e1 elv55 hlv50_6 (by decide) (Or.inl (by decide))
              have hlv55_4 : aj_lv lv55 4 = some (.int w48) := fx_e1 elv55 hlv50_4 (by decide) (Or.inr rfl)
              have hlv55_3 : aj_lv lv55 3 = some (.int x29) := fx_e1 elv55 hlv50_3 (by decide) (Or.inl (by decide))
              have hlv55_5 : aj_lv lv55 5 = some (.int x54) := by rw [elv55]; exact ak_set1_eq _ _ _
              show fx_W _ _ _ 108 lv55 [] _ _
              refine fx_incq aj_d179 rfl (Nat.le_succ _) hlv55_6 (by decide) (fun x56 ex56 => ?_)
              obtain ⟨lv57, elv57⟩ : ∃ l, l = aj_set1 lv55 6 (.int x56) := ⟨_, rfl⟩
              rw [← elv57]
              have hlv57_0 : aj_lv lv57 0 = some (.ref 107) := fx_e1 elv57 hlv55_0 (by decide) (Or.inl (by decide))
              have hlv57_1 : aj_lv lv57 1 = some (.ref p1) := fx_e1 elv57 hlv55_1 (by decide) (Or.inl (by decide))
              have hlv57_2 : aj_lv lv57 2 = some (.ref p2) := fx_e1 elv57 hlv55_2 (by decide) (Or.inl (by decide))
              have hlv57_4 : aj_lv lv57 4 = some (.int w48) := fx_e1 elv57 hlv55_4 (by decide) (Or.inl (by decide))
              have hlv57_3 : aj_lv lv57 3 = some (.int x29) := fx_e1 elv57 hlv55_3 (by decide) (Or.inl (by decide))
              have hlv57_5 : aj_lv lv57 5 = some (.int x54) := fx_e1 elv57 hlv55_5 (by decide) (Or.inr rfl)
              have hlv57_6 : aj_lv lv57 6 = some (.int x56) := by rw [elv57]; exact ak_set1_eq _ _ _
              show fx_W _ _ _ 111 lv57 [] _ _
              refine fx_n (pc' := 11) (lv' := lv57) (st' := []) aj_d179 rfl (Nat.le_succ _) (fun _ => rfl) ?_
              exact (ih) lv57 (x29) (w48) (x54) (x56) X53  hlv57_0 hlv57_1 hlv57_2 hlv57_3 hlv57_4 hlv57_5 hlv57_6
            · skip
              refine fx_qi (c := ((y6 + (Int32.ofInt 1))).toInt < 1024) (fx_f_ge q45) ?_
              show fx_W _ _ _ 62 lv30 [] _ _
              refine fx_i2 aj_d179 rfl (Nat.le_succ _) (fun _ => rfl) hlv30_0 ?_
              refine fx_gF aj_d179 rfl (Nat.le_succ _) rfl rfl fx_in_2_7 (t := 110) rfl (fun hA58 => ?_)
              refine fx_i0 aj_d179 rfl (Nat.le_succ _) (fun _ => rfl) hlv30_6 ?_
              refine fx_n (pc' := 69) (lv' := lv30) (st' := [.int (Int32.ofInt 1), .int y6, .ref 110]) aj_d179 rfl (Nat.le_succ _) (fun _ => rfl) ?_
              refine fx_n (pc' := 70) (lv' := lv30) (st' := [.int (y6 + (Int32.ofInt 1)), .ref 110]) aj_d179 rfl (Nat.le_succ _) (fun _ => rfl) ?_
              refine fx_ld aj_d179 (Or.inl rfl) rfl (Nat.le_succ _) (fun g590 g591 => ?_)
              show fx_W _ _ _ 71 lv30 [.int (X.1 110 ((y6 + (Int32.ofInt 1))).toInt.toNat)] _ _
              refine fx_qa (c := 0 ≤ ((y6 + (Int32.ofInt 1))).toInt ∧ ((y6 + (Int32.ofInt 1))).toInt < ((1024 : Nat) : Int)) ⟨g590, fx_lnk g591 hA58⟩ ?_
              refine fx_n (pc' := 76) (lv' := lv30) (st' := [.int (X.1 110 ((y6 + (Int32.ofInt 1))).toInt.toNat)]) aj_d179 rfl (Nat.le_succ _) (fun _ => rfl) ?_
              refine fx_qxI (fun x60 ex60 => ?_)
              refine fx_s0 (j := 8) aj_d179 rfl (Nat.le_succ _) (by decide) (fun _ => rfl) ?_
              obtain ⟨lv61, elv61⟩ : ∃ l, l = aj_set1 lv30 8 (.int x60) := ⟨_, rfl⟩
              rw [← elv61]
              have hlv61_0 : aj_lv lv61 0 = some (.ref 107) := fx_e1 elv61 hlv30_0 (by decide) (Or.inl (by decide))
              have hlv61_1 : aj_lv lv61 1 = some (.ref p1) := fx_e1 elv61 hlv30_1 (by decide) (Or.inl (by decide))
              have hlv61_2 : aj_lv lv61 2 = some (.ref p2) := fx_e1 elv61 hlv30_2 (by decide) (Or.inl (by decide))
              have hlv61_3 : aj_lv lv61 3 = some (.int y3) := fx_e1 elv61 hlv30_3 (by decide) (Or.inl (by decide))
              have hlv61_4 : aj_lv lv61 4 = some (.int y4) := fx_e1 elv61 hlv30_4 (by decide) (Or.inl (by decide))
              have hlv61_5 : aj_lv lv61 5 = some (.int y5) := fx_e1 elv61 hlv30_5 (by decide) (Or.inl (by decide))
              have hlv61_6 : aj_lv lv61 6 = some (.int y6) := fx_e1 elv61 hlv30_6 (by decide) (Or.inl (by decide))
              have hlv61_7 : aj_lv lv61 7 = some (.int x29) := fx_e1 elv61 hlv30_7 (by decide) (Or.inr rfl)
              have hlv61_8 : aj_lv lv61 8 = some (.int x60) := by rw [elv61]; exact ak_set1_eq _ _ _
              show fx_W _ _ _ 78 lv61 [] _ _
              refine fx_i2 aj_d179 rfl (Nat.le_succ _) (fun _ => rfl) hlv61_0 ?_
              refine fx_i2 aj_d179 rfl (Nat.le_succ _) (fun _ => rfl) hlv61_1 ?_
              refine fx_i2 aj_d179 rfl (Nat.le_succ _) (fun _ => rfl) hlv61_2 ?_
              refine fx_i0 aj_d179 rfl (Nat.le_succ _) (fun _ => rfl) hlv61_3 ?_
              refine fx_i0 aj_d179 rfl (Nat.le_succ _) (fun _ => rfl) hlv61_7 ?_
              refine fx_i0 aj_d179 rfl (Nat.le_succ _) (fun _ => rfl) hlv61_8 ?_
              refine fx_i0 aj_d179 rfl (Nat.le_succ _) (fun _ => rfl) hlv61_4 ?_
              refine fx_cv aj_d179 rfl (Nat.le_succ _) rfl [_, _, _, _, _, _] rfl rfl (gx_180_ok p1 p2 y3 x29 x60 y4) ?_
              rintro _ X62 ⟨w63, rfl, hR62⟩ hok62 hle62
              refine fx_qc hR62 ?_
              show fx_W _ _ _ 91 lv61 [.int w63] _ _
              refine fx_s0 (j := 4) aj_d179 rfl (Nat.le_succ _) (by decide) (fun _ => rfl) ?_
              obtain ⟨lv64, elv64⟩ : ∃ l, l = aj_set1 lv61 4 (.int w63) := ⟨_, rfl⟩
              rw [← elv64]
              have hlv64_0 : aj_lv lv64 0 = some (.ref 107) := fx_e1 elv64 hlv61_0 (by decide) (Or.inl (by decide))
              have hlv64_1 : aj_lv lv64 1 = some (.ref p1) := fx_e1 elv64 hlv61_1 (by decide) (Or.inl (by decide))
              have hlv64_2 : aj_lv lv64 2 = some (.ref p2) := fx_e1 elv64 hlv61_2 (by decide) (Or.inl (by decide))
              have hlv64_5 : aj_lv lv64 5 = some (.int y5) := fx_e1 elv64 hlv61_5 (by decide) (Or.inl (by decide))
              have hlv64_6 : aj_lv lv64 6 = some (.int y6) := fx_e1 elv64 hlv61_6 (by decide) (Or.inl (by decide))
              have hlv64_8 : aj_lv lv64 8 = some (.int x60) := fx_e1 elv64 hlv61_8 (by decide) (Or.inl (by decide))
              have hlv64_4 : aj_lv lv64 4 = some (.int w63) := by rw [elv64]; exact ak_set1_eq _ _ _
              show fx_W _ _ _ 93 lv64 [] _ _
              refine fx_i0 aj_d179 rfl (Nat.le_succ _) (fun _ => rfl) hlv64_8 ?_
              refine fx_s0 (j := 3) aj_d179 rfl (Nat.le_succ _) (by decide) (fun _ => rfl) ?_
              obtain ⟨lv65, elv65⟩ : ∃ l, l = aj_set1 lv64 3 (.int x60) := ⟨_, rfl⟩
              rw [← elv65]
              have hlv65_0 : aj_lv lv65 0 = some (.ref 107) := fx_e1 elv65 hlv64_0 (by decide) (Or.inl (by decide))
              have hlv65_1 : aj_lv lv65 1 = some (.ref p1) := fx_e1 elv65 hlv64_1 (by decide) (Or.inl (by decide))
              have hlv65_2 : aj_lv lv65 2 = some (.ref p2) := fx_e1 elv65 hlv64_2 (by decide) (Or.inr rfl)
              have hlv65_5 : aj_lv lv65 5 = some (.int y5) := fx_e1 elv65 hlv64_5 (by decide) (Or.inl (by decide))
              have hlv65_6 : aj_lv lv65 6 = some (.int y6) := fx_e1 elv65 hlv64_6 (by decide) (Or.inl (by decide))
              have hlv65_4 : aj_lv lv65 4 = some (.int w63) := fx_e1 elv65 hlv64_4 (by decide) (Or.inl (by decide))
              have hlv65_3 : aj_lv lv65 3 = some (.int x60) := by rw [elv65]; exact ak_set1_eq _ _ _
              show fx_W _ _ _ 96 lv65 [] _ _
              refine fx_i2 aj_d179 rfl (Nat.le_succ _) (fun _ => rfl) hlv65_0 ?_
              refine fx_gF aj_d179 rfl (Nat.le_succ _) rfl rfl fx_in_2_7 (t := 110) rfl (fun hA66 => ?_)
              refine fx_i0 aj_d179 rfl (Nat.le_succ _) (fun _ => rfl) hlv65_5 ?_
              refine fx_i0 aj_d179 rfl (Nat.le_succ _) (fun _ => rfl) hlv65_4 ?_
              refine fx_st aj_d179 (Or.inl ⟨rfl, rfl⟩) rfl (Nat.le_succ _) (fun g670 g671 => ?_)
              show fx_W _ _ _ _ _ _ (fx_wI X62 110 (y5).toInt.toNat w63) _
              refine fx_qa (c := 0 ≤ (y5).toInt ∧ (y5).toInt < ((1024 : Nat) : Int)) ⟨g670, fx_lnk g671 hA66⟩ ?_
              refine fx_qX (fun X68 eX68 => ?_)
              show fx_W _ _ _ 105 lv65 [] _ _
              refine fx_incq aj_d179 rfl (Nat.le_succ _) hlv65_5 (by decide) (fun x69 ex69 => ?_)
              obtain ⟨lv70, elv70⟩ : ∃ l, l = aj_set1 lv65 5 (.int x69) := ⟨_, rfl⟩
              rw [← elv70]
              have hlv70_0 : aj_lv lv70 0 = some (.ref 107) := fx_e1 elv70 hlv65_0 (by decide) (Or.inl (by decide))
              have hlv70_1 : aj_lv lv70 1 = some (.ref p1) := fx_e1 elv70 hlv65_1 (by decide) (Or.inl (by decide))
              have hlv70_2 : aj_lv lv70 2 = some (.ref p2) := fx_e1 elv70 hlv65_2 (by decide) (Or.inl (by decide))
              have hlv70_6 : aj_lv lv70 6 = some (.int y6) := fx_e1 elv70 hlv65_6 (by decide) (Or.inl (by decide))
              have hlv70_4 : aj_lv lv70 4 = some (.int w63) := fx_e1 elv70 hlv65_4 (by decide) (Or.inr rfl)
              have hlv70_3 : aj_lv lv70 3 = some (.int x60) := fx_e1 elv70 hlv65_3 (by decide) (Or.inl (by decide))
              have hlv70_5 : aj_lv lv70 5 = some (.int x69) := by rw [elv70]; exact ak_set1_eq _ _ _
              show fx_W _ _ _ 108 lv70 [] _ _
              refine fx_incq aj_d179 rfl (Nat.le_succ _) hlv70_6 (by decide) (fun x71 ex71 => ?_)
              obtain ⟨lv72, elv72⟩ : ∃ l, l = aj_set1 lv70 6 (.int x71) := ⟨_, rfl⟩
              rw [← elv72]
              have hlv72_0 : aj_lv lv72 0 = some (.ref 107) := fx_e1 elv72 hlv70_0 (by decide) (Or.inl (by decide))
              have hlv72_1 : aj_lv lv72 1 = some (.ref p1) := fx_e1 elv72 hlv70_1 (by decide) (Or.inl (by decide))
              have hlv72_2 : aj_lv lv72 2 = some (.ref p2) := fx_e1 elv72 hlv70_2 (by decide) (Or.inl (by decide))
              have hlv72_4 : aj_lv lv72 4 = some (.int w63) := fx_e1 elv72 hlv70_4 (by decide) (Or.inl (by decide))
              have hlv72_3 : aj_lv lv72 3 = some (.int x60) := fx_e1 elv72 hlv70_3 (by decide) (Or.inl (by decide))
              have hlv72_5 : aj_lv lv72 5 = some (.int x69) := fx_e1 elv72 hlv70_5 (by decide) (Or.inr rfl)
              have hlv72_6 : aj_lv lv72 6 = some (.int x71) := by rw [elv72]; exact ak_set1_eq _ _ _
              show fx_W _ _ _ 111 lv72 [] _ _
              refine fx_n (pc' := 11) (lv' := lv72) (st' := []) aj_d179 rfl (Nat.le_succ _) (fun _ => rfl) ?_
              exact (ih) lv72 (x60) (w63) (x69) (x71) X68  hlv72_0 hlv72_1 hlv72_2 hlv72_3 hlv72_4 hlv72_5 hlv72_6
theorem gx_179_ok {tb : aj_T} (p1 : Nat) (p2 : Nat) {X : fx_X} : fx_K tb 179 [.ref 107, .ref p1, .ref p2] X (fx_Q fx_qN (fun v X' => gx_179 p1 p2 X v X')) := by
  refine fx_m aj_m179_at rfl (fun N => ?_)
  refine fx_mono (Q := fx_Q fx_qN (fun v X' => ∃ n : Nat, gxE_179 p1 p2 (gxF_179 p1 p2 n) X v X')) (fun r X' h => h) ?_
  unfold gxE_179
  show fx_W _ _ _ 0 [(0, .ref 107), (1, .ref p1), (2, .ref p2)] [] _ _
  obtain ⟨lv1, elv1⟩ : ∃ l : aj_V, l = [(0, .ref 107), (1, .ref p1), (2, .ref p2)] := ⟨_, rfl⟩
  rw [← elv1]
  have hlv1_0 : aj_lv lv1 0 = some (.ref 107) := by rw [elv1]; rfl
  have hlv1_1 : aj_lv lv1 1 = some (.ref p1) := by rw [elv1]; rfl
  have hlv1_2 : aj_lv lv1 2 = some (.ref p2) := by rw [elv1]; rfl
  refine fx_n (pc' := 1) (lv' := lv1) (st' := [.int (Int32.ofInt 0)]) aj_d179 rfl (Nat.le_succ _) (fun _ => rfl) ?_
  refine fx_s0 (j := 3) aj_d179 rfl (Nat.le_succ _) (by decide) (fun _ => rfl) ?_
  obtain ⟨lv2, elv2⟩ : ∃ l, l = aj_set1 lv1 3 (.int (Int32.ofInt 0)) := ⟨_, rfl⟩
  rw [← elv2]
  have hlv2_0 : aj_lv lv2 0 = some (.ref 107) := fx_e1 elv2 hlv1_0 (by decide) (Or.inl (by decide))
  have hlv2_1 : aj_lv lv2 1 = some (.ref p1) := fx_e1 elv2 hlv1_1 (by decide) (Or.inl (by decide))
  have hlv2_2 : aj_lv lv2 2 = some (.ref p2) := fx_e1 elv2 hlv1_2 (by decide) (Or.inr rfl)
  have hlv2_3 : aj_lv lv2 3 = some (.int (Int32.ofInt 0)) := by rw [elv2]; exact ak_set1_eq _ _ _
  show fx_W _ _ _ 2 lv2 [] _ _
  refine fx_n (pc' := 3) (lv' := lv2) (st' := [.int (Int32.ofInt 0)]) aj_d179 rfl (Nat.le_succ _) (fun _ => rfl) ?_
  refine fx_s0 (j := 4) aj_d179 rfl (Nat.le_succ _) (by decide) (fun _ => rfl) ?_
  obtain ⟨lv3, elv3⟩ : ∃ l, l = aj_set1 lv2 4 (.int (Int32.ofInt 0)) := ⟨_, rfl⟩
  rw [← elv3]
  have hlv3_0 : aj_lv lv3 0 = some (.ref 107) := fx_e1 elv3 hlv2_0 (by decide) (Or.inl (by decide))
  have hlv3_1 : aj_lv lv3 1 = some (.ref p1) := fx_e1 elv3 hlv2_1 (by decide) (Or.inl (by decide))
  have hlv3_2 : aj_lv lv3 2 = some (.ref p2) := fx_e1 elv3 hlv2_2 (by decide) (Or.inl (by decide))
  have hlv3_3 : aj_lv lv3 3 = some (.int (Int32.ofInt 0)) := fx_e1 elv3 hlv2_3 (by decide) (Or.inr rfl)
  have hlv3_4 : aj_lv lv3 4 = some (.int (Int32.ofInt 0)) := by rw [elv3]; exact ak_set1_eq _ _ _
  show fx_W _ _ _ 5 lv3 [] _ _
  refine fx_n (pc' := 6) (lv' := lv3) (st' := [.int (Int32.ofInt 0)]) aj_d179 rfl (Nat.le_succ _) (fun _ => rfl) ?_
  refine fx_s0 (j := 5) aj_d179 rfl (Nat.le_succ _) (by decide) (fun _ => rfl) ?_
  obtain ⟨lv4, elv4⟩ : ∃ l, l = aj_set1 lv3 5 (.int (Int32.ofInt 0)) := ⟨_, rfl⟩
  rw [← elv4]
  have hlv4_0 : aj_lv lv4 0 = some (.ref 107) := fx_e1 elv4 hlv3_0 (by decide) (Or.inl (by decide))
  have hlv4_1 : aj_lv lv4 1 = some (.ref p1) := fx_e1 elv4 hlv3_1 (by decide) (Or.inl (by decide))
  have hlv4_2 : aj_lv lv4 2 = some (.ref p2) := fx_e1 elv4 hlv3_2 (by decide) (Or.inl (by decide))
  have hlv4_3 : aj_lv lv4 3 = some (.int (Int32.ofInt 0)) := fx_e1 elv4 hlv3_3 (by decide) (Or.inl (by decide))
  have hlv4_4 : aj_lv lv4 4 = some (.int (Int32.ofInt 0)) := fx_e1 elv4 hlv3_4 (by decide) (Or.inr rfl)
  have hlv4_5 : aj_lv lv4 5 = some (.int (Int32.ofInt 0)) := by rw [elv4]; exact ak_set1_eq _ _ _
  show fx_W _ _ _ 8 lv4 [] _ _
  refine fx_n (pc' := 9) (lv' := lv4) (st' := [.int (Int32.ofInt 0)]) aj_d179 rfl (Nat.le_succ _) (fun _ => rfl) ?_
  refine fx_s0 (j := 6) aj_d179 rfl (Nat.le_succ _) (by decide) (fun _ => rfl) ?_
  obtain ⟨lv5, elv5⟩ : ∃ l, l = aj_set1 lv4 6 (.int (Int32.ofInt 0)) := ⟨_, rfl⟩
  rw [← elv5]
  have hlv5_0 : aj_lv lv5 0 = some (.ref 107) := fx_e1 elv5 hlv4_0 (by decide) (Or.inl (by decide))
  have hlv5_1 : aj_lv lv5 1 = some (.ref p1) := fx_e1 elv5 hlv4_1 (by decide) (Or.inl (by decide))
  have hlv5_2 : aj_lv lv5 2 = some (.ref p2) := fx_e1 elv5 hlv4_2 (by decide) (Or.inl (by decide))
  have hlv5_3 : aj_lv lv5 3 = some (.int (Int32.ofInt 0)) := fx_e1 elv5 hlv4_3 (by decide) (Or.inl (by decide))
  have hlv5_4 : aj_lv lv5 4 = some (.int (Int32.ofInt 0)) := fx_e1 elv5 hlv4_4 (by decide) (Or.inl (by decide))
  have hlv5_5 : aj_lv lv5 5 = some (.int (Int32.ofInt 0)) := fx_e1 elv5 hlv4_5 (by decide) (Or.inr rfl)
  have hlv5_6 : aj_lv lv5 6 = some (.int (Int32.ofInt 0)) := by rw [elv5]; exact ak_set1_eq _ _ _
  show fx_W _ _ _ 11 lv5 [] _ _
  exact ((gxL_179 p1 p2 N)) lv5 ((Int32.ofInt 0)) ((Int32.ofInt 0)) ((Int32.ofInt 0)) ((Int32.ofInt 0)) X  hlv5_0 hlv5_1 hlv5_2 hlv5_3 hlv5_4 hlv5_5 hlv5_6
def gxT_185_7 (p1 : Int32) (P : Nat → List Int32 → List Int64 → List Nat → fx_X → Unit → fx_X → Prop) (y2 : Int32) (X : fx_X) (v : Unit) (X' : fx_X) : Prop :=
  (if (y2).toInt < ((X.1 107 3)).toInt then (∃ (w6 : Int32) (X5 : fx_X), gx_181 y2 X w6 X5 ∧ ∃ (w8 : Int32) (X7 : fx_X), gx_184 w6 X5 w8 X7 ∧ (if (w8).toInt = (p1).toInt then ((if ((X7.1 107 4)).toInt < 30 then ((0 ≤ ((X7.1 107 4)).toInt ∧ ((X7.1 107 4)).toInt < ((30 : Nat) : Int)) ∧ ∃ X18 : fx_X, X18 = (fx_wI X7 111 ((X7.1 107 4)).toInt.toNat y2) ∧ ∃ X19 : fx_X, X19 = (fx_wI X18 107 4 ((X18.1 107 4) + (Int32.ofInt 1))) ∧ ∃ x20 : Int32, x20 = y2 + Int32.ofInt 1 ∧ P 7 [x20] [] [] X19 v X') else (∃ x14 : Int32, x14 = y2 + Int32.ofInt 1 ∧ P 7 [x14] [] [] X7 v X'))) else (∃ x10 : Int32, x10 = y2 + Int32.ofInt 1 ∧ P 7 [x10] [] [] X7 v X'))) else (X' = X))
def gxE_185 (p1 : Int32) (P : Nat → List Int32 → List Int64 → List Nat → fx_X → Unit → fx_X → Prop) (X : fx_X) (v : Unit) (X' : fx_X) : Prop :=
  ∃ X2 : fx_X, X2 = (fx_wI X 107 4 (Int32.ofInt 0)) ∧ P 7 [(Int32.ofInt 0)] [] [] X2 v X'
noncomputable def gxF_185 (p1 : Int32) (n : Nat) : Nat → List Int32 → List Int64 → List Nat → fx_X → Unit → fx_X → Prop := Nat.rec (motive := fun _ => Nat → List Int32 → List Int64 → List Nat → fx_X → Unit → fx_X → Prop) (fun _ _ _ _ _ _ _ => False) (fun _ P l is ls rs X v X' => (l = 7 ∧ ∃ (y2 : Int32), is = [y2] ∧ ls = [] ∧ rs = [] ∧ gxT_185_7 p1 P y2 X v X')) n
theorem gxI_185_7 {p1 : Int32} {n : Nat} {y2 : Int32} {X : fx_X} {v : Unit} {X' : fx_X} (h : gxT_185_7 p1 (gxF_185 p1 n) y2 X v X') : gxF_185 p1 (n + 1) 7 [y2] [] [] X v X' := ⟨rfl, y2, rfl, rfl, rfl, h⟩
theorem gxO_185_7 {p1 : Int32} {n : Nat} {y2 : Int32} {X : fx_X} {v : Unit} {X' : fx_X} (h : gxF_185 p1 (n + 1) 7 [y2] [] [] X v X') : gxT_185_7 p1 (gxF_185 p1 n) y2 X v X' := by
  rcases h with ⟨-, _, e1, e2, e3, h⟩
  · cases e1; cases e2; cases e3; exact h
def gx_185 (p1 : Int32) (X : fx_X) (v : Unit) (X' : fx_X) : Prop := ∃ n : Nat, gxE_185 p1 (gxF_185 p1 n) X v X'
theorem gxL_185 {tb : aj_T} (p1 : Int32) : ∀ N : Nat, (∀ (lv : aj_V) (y2 : Int32) (X : fx_X), aj_lv lv 0 = some (.ref 107) → aj_lv lv 1 = some (.int p1) → aj_lv lv 2 = some (.int y2) → fx_W tb aj_m185 N 7 lv [] X (fx_Q fx_qN (fun v X' => ∃ n : Nat, gxF_185 p1 n 7 [y2] [] [] X v X'))) := by
  intro N
  induction N with
  | zero => exact (by intros; exact fx_z)
  | succ N ih =>
    skip
    · intro lv y2 X hlv_0 hlv_1 hlv_2
      refine fx_mono (Q := fx_Q fx_qN (fun v X' => ∃ n : Nat, gxT_185_7 p1 (gxF_185 p1 n) y2 X v X')) (fun r X' ⟨v, e, n, z⟩ => ⟨v, e, n + 1, gxI_185_7 z⟩) ?_
      unfold gxT_185_7
      refine fx_i0 aj_d185 rfl (Nat.le_refl _) (fun _ => rfl) hlv_2 ?_
      refine fx_i2 aj_d185 rfl (Nat.le_succ _) (fun _ => rfl) hlv_0 ?_
      refine fx_gI aj_d185 rfl (Nat.le_succ _) rfl rfl (Or.inl rfl) ?_
      refine fx_b (tgt := 65) aj_d185 rfl (Nat.le_succ _) rfl (fun q4 => ?_) (fun q4 => ?_)
      · skip
        refine fx_qe (c := (y2).toInt < ((X.1 107 3)).toInt) (fx_t_ge q4) ?_
        show fx_W _ _ _ 65 lv [] _ _
        exact fx_rn aj_d185 rfl ⟨(), rfl, 0, rfl⟩
      · skip
        refine fx_qi (c := (y2).toInt < ((X.1 107 3)).toInt) (fx_f_ge q4) ?_
        show fx_W _ _ _ 15 lv [] _ _
        refine fx_i2 aj_d185 rfl (Nat.le_succ _) (fun _ => rfl) hlv_0 ?_
        refine fx_i0 aj_d185 rfl (Nat.le_succ _) (fun _ => rfl) hlv_2 ?_
        refine fx_cv aj_d185 rfl (Nat.le_succ _) rfl [_] rfl rfl (gx_181_ok y2) ?_
        rintro _ X5 ⟨w6, rfl, hR5⟩ hok5 hle5
        refine fx_qc hR5 ?_
        show fx_W _ _ _ 20 lv [.int w6] _ _
        refine fx_cs aj_d185 rfl (Nat.le_succ _) rfl rfl [_] rfl rfl (gx_184_ok w6) ?_
        rintro _ X7 ⟨w8, rfl, hR7⟩ hok7 hle7
        refine fx_qc hR7 ?_
        show fx_W _ _ _ 23 lv [.int w8] _ _
        refine fx_i0 aj_d185 rfl (Nat.le_succ _) (fun _ => rfl) hlv_1 ?_
        refine fx_b (tgt := 59) aj_d185 rfl (Nat.le_succ _) rfl (fun q9 => ?_) (fun q9 => ?_)
        · skip
          refine fx_qe (c := (w8).toInt = (p1).toInt) (fx_t_ne q9) ?_
          show fx_W _ _ _ 59 lv [] _ _
          refine fx_incq aj_d185 rfl (Nat.le_succ _) hlv_2 (by decide) (fun x10 ex10 => ?_)
          obtain ⟨lv11, elv11⟩ : ∃ l, l = aj_set1 lv 2 (.int x10) := ⟨_, rfl⟩
          rw [← elv11]
          have hlv11_0 : aj_lv lv11 0 = some (.ref 107) := fx_e1 elv11 hlv_0 (by decide) (Or.inl (by decide))
          have hlv11_1 : aj_lv lv11 1 = some (.int p1) := fx_e1 elv11 hlv_1 (by decide) (Or.inr rfl)
          have hlv11_2 : aj_lv lv11 2 = some (.int x10) := by rw [elv11]; exact ak_set1_eq _ _ _
          show fx_W _ _ _ 62 lv11 [] _ _
          refine fx_n (pc' := 7) (lv' := lv11) (st' := []) aj_d185 rfl (Nat.le_succ _) (fun _ => rfl) ?_
          exact (ih) lv11 (x10) X7  hlv11_0 hlv11_1 hlv11_2
        · skip
          refine fx_qi (c := (w8).toInt = (p1).toInt) (fx_f_ne q9) ?_
          show fx_W _ _ _ 27 lv [] _ _
          refine fx_i2 aj_d185 rfl (Nat.le_succ _) (fun _ => rfl) hlv_0 ?_
          refine fx_gI aj_d185 rfl (Nat.le_succ _) rfl rfl (Or.inl rfl) ?_
          refine fx_i2 aj_d185 rfl (Nat.le_succ _) (fun _ => rfl) hlv_0 ?_
          refine fx_gF aj_d185 rfl (Nat.le_succ _) rfl rfl fx_in_2_9 (t := 111) rfl (fun hA12 => ?_)
          refine fx_al aj_d185 rfl (Nat.le_succ _) ?_
          rw [(hA12 : X7.2.2.2.1 111 = (0, 30))]
          show fx_W _ _ _ 36 lv [.int (Int32.ofNat 30), .int (X7.1 107 4)] _ _
          refine fx_b (tgt := 59) aj_d185 rfl (Nat.le_succ _) rfl (fun q13 => ?_) (fun q13 => ?_)
          · skip
            refine fx_qe (c := ((X7.1 107 4)).toInt < 30) (fx_t_ge q13) ?_
            show fx_W _ _ _ 59 lv [] _ _
            refine fx_incq aj_d185 rfl (Nat.le_succ _) hlv_2 (by decide) (fun x14 ex14 => ?_)
            obtain ⟨lv15, elv15⟩ : ∃ l, l = aj_set1 lv 2 (.int x14) := ⟨_, rfl⟩
            rw [← elv15]
            have hlv15_0 : aj_lv lv15 0 = some (.ref 107) := fx_e1 elv15 hlv_0 (by decide) (Or.inl (by decide))
            have hlv15_1 : aj_lv lv15 1 = some (.int p1) := fx_e1 elv15 hlv_1 (by decide) (Or.inr rfl)
            have hlv15_2 : aj_lv lv15 2 = some (.int x14) := by rw [elv15]; exact ak_set1_eq _ _ _
            show fx_W _ _ _ 62 lv15 [] _ _
            refine fx_n (pc' := 7) (lv' := lv15) (st' := []) aj_d185 rfl (Nat.le_succ _) (fun _ => rfl) ?_
            exact (ih) lv15 (x14) X7  hlv15_0 hlv15_1 hlv15_2
          · skip
            refine fx_qi (c := ((X7.1 107 4)).toInt < 30) (fx_f_ge q13) ?_
            show fx_W _ _ _ 39 lv [] _ _
            refine fx_i2 aj_d185 rfl (Nat.le_succ _) (fun _ => rfl) hlv_0 ?_
            refine fx_gF aj_d185 rfl (Nat.le_succ _) rfl rfl fx_in_2_9 (t := 111) rfl (fun hA16 => ?_)
            refine fx_i2 aj_d185 rfl (Nat.le_succ _) (fun _ => rfl) hlv_0 ?_
            refine fx_gI aj_d185 rfl (Nat.le_succ _) rfl rfl (Or.inl rfl) ?_
            refine fx_i0 aj_d185 rfl (Nat.le_succ _) (fun _ => rfl) hlv_2 ?_
            refine fx_st aj_d185 (Or.inl ⟨rfl, rfl⟩) rfl (Nat.le_succ _) (fun g170 g171 => ?_)
            show fx_W _ _ _ _ _ _ (fx_wI X7 111 ((X7.1 107 4)).toInt.toNat y2) _
            refine fx_qa (c := 0 ≤ ((X7.1 107 4)).toInt ∧ ((X7.1 107 4)).toInt < ((30 : Nat) : Int)) ⟨g170, fx_lnk g171 hA16⟩ ?_
            refine fx_qX (fun X18 eX18 => ?_)
            show fx_W _ _ _ 49 lv [] _ _
            refine fx_i2 aj_d185 rfl (Nat.le_succ _) (fun _ => rfl) hlv_0 ?_
            refine fx_n (pc' := 51) (lv' := lv) (st' := [.ref 107, .ref 107]) aj_d185 rfl (Nat.le_succ _) (fun _ => rfl) ?_
            refine fx_gI aj_d185 rfl (Nat.le_succ _) rfl rfl (Or.inl rfl) ?_
            refine fx_n (pc' := 55) (lv' := lv) (st' := [.int (Int32.ofInt 1), .int (X18.1 107 4), .ref 107]) aj_d185 rfl (Nat.le_succ _) (fun _ => rfl) ?_
            refine fx_n (pc' := 56) (lv' := lv) (st' := [.int ((X18.1 107 4) + (Int32.ofInt 1)), .ref 107]) aj_d185 rfl (Nat.le_succ _) (fun _ => rfl) ?_
            refine fx_pI aj_d185 rfl (Nat.le_succ _) rfl rfl (Or.inl rfl) fx_no_2_4 (by decide) ?_
            refine fx_qX (fun X19 eX19 => ?_)
            show fx_W _ _ _ 59 lv [] _ _
            refine fx_incq aj_d185 rfl (Nat.le_succ _) hlv_2 (by decide) (fun x20 ex20 => ?_)
            obtain ⟨lv21, elv21⟩ : ∃ l, l = aj_set1 lv 2 (.int x20) := ⟨_, rfl⟩
            rw [← elv21]
            have hlv21_0 : aj_lv lv21 0 = some (.ref 107) := fx_e1 elv21 hlv_0 (by decide) (Or.inl (by decide))
            have hlv21_1 : aj_lv lv21 1 = some (.int p1) := fx_e1 elv21 hlv_1 (by decide) (Or.inr rfl)
            have hlv21_2 : aj_lv lv21 2 = some (.int x20) := by rw [elv21]; exact ak_set1_eq _ _ _
            show fx_W _ _ _ 62 lv21 [] _ _
            refine fx_n (pc' := 7) (lv' := lv21) (st' := []) aj_d185 rfl (Nat.le_succ _) (fun _ => rfl) ?_
            exact (ih) lv21 (x20) X19  hlv21_0 hlv21_1 hlv21_2
theorem gx_185_ok {tb : aj_T} (p1 : Int32) {X : fx_X} : fx_K tb 185 [.ref 107, .int p1] X (fx_Q fx_qN (fun v X' => gx_185 p1 X v X')) := by
  refine fx_m aj_m185_at rfl (fun N => ?_)
  refine fx_mono (Q := fx_Q fx_qN (fun v X' => ∃ n : Nat, gxE_185 p1 (gxF_185 p1 n) X v X')) (fun r X' h => h) ?_
  unfold gxE_185
  show fx_W _ _ _ 0 [(0, .ref 107), (1, .int p1)] [] _ _
  obtain ⟨lv1, elv1⟩ : ∃ l : aj_V, l = [(0, .ref 107), (1, .int p1)] := ⟨_, rfl⟩
  rw [← elv1]
  have hlv1_0 : aj_lv lv1 0 = some (.ref 107) := by rw [elv1]; rfl
  have hlv1_1 : aj_lv lv1 1 = some (.int p1) := by rw [elv1]; rfl
  refine fx_i2 aj_d185 rfl (Nat.le_succ _) (fun _ => rfl) hlv1_0 ?_
  refine fx_n (pc' := 2) (lv' := lv1) (st' := [.int (Int32.ofInt 0), .ref 107]) aj_d185 rfl (Nat.le_succ _) (fun _ => rfl) ?_
  refine fx_pI aj_d185 rfl (Nat.le_succ _) rfl rfl (Or.inl rfl) fx_no_2_4 (by decide) ?_
  refine fx_qX (fun X2 eX2 => ?_)
  show fx_W _ _ _ 5 lv1 [] _ _
  refine fx_n (pc' := 6) (lv' := lv1) (st' := [.int (Int32.ofInt 0)]) aj_d185 rfl (Nat.le_succ _) (fun _ => rfl) ?_
  refine fx_s0 (j := 2) aj_d185 rfl (Nat.le_succ _) (by decide) (fun _ => rfl) ?_
  obtain ⟨lv3, elv3⟩ : ∃ l, l = aj_set1 lv1 2 (.int (Int32.ofInt 0)) := ⟨_, rfl⟩
  rw [← elv3]
  have hlv3_0 : aj_lv lv3 0 = some (.ref 107) := fx_e1 elv3 hlv1_0 (by decide) (Or.inl (by decide))
  have hlv3_1 : aj_lv lv3 1 = some (.int p1) := fx_e1 elv3 hlv1_1 (by decide) (Or.inr rfl)
  have hlv3_2 : aj_lv lv3 2 = some (.int (Int32.ofInt 0)) := by rw [elv3]; exact ak_set1_eq _ _ _
  show fx_W _ _ _ 7 lv3 [] _ _
  exact ((gxL_185 p1 N)) lv3 ((Int32.ofInt 0)) X2  hlv3_0 hlv3_1 hlv3_2
def gx_186 (p1 : Int32) (p2 : Int32) (p3 : Int32) (p4 : Int32) (X : fx_X) (v : Int32) (X' : fx_X) : Prop :=
  ∃ b3 : Nat, X.2.2.1 52 3 = some b3 ∧ ∃ (w5 : (Option Nat)) (X4 : fx_X), gx_63 b3 p1 X w5 X4 ∧ ((w5 = none ∧ v = (Int32.ofInt (-100000)) ∧ X' = X4) ∨ (∃ w5b : Nat, w5 = some w5b ∧ (if (p2).toInt < 0 then (v = (Int32.ofInt (-100000)) ∧ X' = X4) else ((if (p2).toInt < ((X4.1 w5b 4)).toInt then ((if (p3).toInt < 0 then (v = (Int32.ofInt (-100000)) ∧ X' = X4) else ((if (p3).toInt < ((X4.1 w5b 3)).toInt then ((if (p4).toInt = 0 then (∃ (w15 : Int32) (X14 : fx_X), gx_103 w5b p2 p3 X4 w15 X14 ∧ (if (w15).toInt = 0 then (v = (Int32.ofInt 0) ∧ X' = X14) else (v = (Int32.ofInt 1) ∧ X' = X14))) else ((if (p4).toInt = 1 then (∃ (w19 : Int32) (X18 : fx_X), gx_104 w5b p2 p3 X4 w19 X18 ∧ v = w19 ∧ X' = X18) else (v = (Int32.ofInt (-100000)) ∧ X' = X4))))) else (v = (Int32.ofInt (-100000)) ∧ X' = X4))))) else (v = (Int32.ofInt (-100000)) ∧ X' = X4))))))
theorem gx_186_ok {tb : aj_T} (p1 : Int32) (p2 : Int32) (p3 : Int32) (p4 : Int32) {X : fx_X} : fx_K tb 186 [.ref 52, .int p1, .int p2, .int p3, .int p4] X (fx_Q fx_qI (fun v X' => gx_186 p1 p2 p3 p4 X v X')) := by
  refine fx_m aj_m186_at rfl (fun N => ?_)
  refine fx_mono (Q := fx_Q fx_qI (fun v X' => ∃ n : Nat, gx_186 p1 p2 p3 p4 X v X')) (fun r X' ⟨v, e, _, z⟩ => ⟨v, e, z⟩) ?_
  unfold gx_186
  show fx_W _ _ _ 0 [(0, .ref 52), (1, .int p1), (2, .int p2), (3, .int p3), (4, .int p4)] [] _ _
  obtain ⟨lv1, elv1⟩ : ∃ l : aj_V, l = [(0, .ref 52), (1, .int p1), (2, .int p2), (3, .int p3), (4, .int p4)] := ⟨_, rfl⟩
  rw [← elv1]
  have hlv1_0 : aj_lv lv1 0 = some (.ref 52) := by rw [elv1]; rfl
  have hlv1_1 : aj_lv lv1 1 = some (.int p1) := by rw [elv1]; rfl
  have hlv1_2 : aj_lv lv1 2 = some (.int p2) := by rw [elv1]; rfl
  have hlv1_3 : aj_lv lv1 3 = some (.int p3) := by rw [elv1]; rfl
  have hlv1_4 : aj_lv lv1 4 = some (.int p4) := by rw [elv1]; rfl
  refine fx_i2 aj_d186 rfl (Nat.le_succ _) (fun _ => rfl) hlv1_0 ?_
  refine fx_gR aj_d186 rfl (Nat.le_succ _) rfl rfl (Or.inl ⟨_, rfl⟩) (fun _ z => absurd (by decide) z) (fun b3 q2 => ?_)
  show fx_W _ _ _ 4 lv1 [.ref b3] _ _
  refine fx_qs q2 ?_
  refine fx_i0 aj_d186 rfl (Nat.le_succ _) (fun _ => rfl) hlv1_1 ?_
  refine fx_cv aj_d186 rfl (Nat.le_succ _) rfl [_] rfl rfl (gx_63_ok b3 p1) ?_
  rintro _ X4 ⟨w5, rfl, hR4⟩ hok4 hle4
  refine fx_qc hR4 ?_
  rcases w5 with _ | w5b
  · skip
    refine fx_o1 (fx_qa rfl ?_)
    show fx_W _ _ _ 8 lv1 [.null] _ _
    refine fx_s3 (j := 5) aj_d186 rfl (Nat.le_succ _) (by decide) (fun _ => rfl) ?_
    obtain ⟨lv6, elv6⟩ : ∃ l, l = aj_set1 lv1 5 (.null) := ⟨_, rfl⟩
    rw [← elv6]
    have hlv6_2 : aj_lv lv6 2 = some (.int p2) := fx_e1 elv6 hlv1_2 (by decide) (Or.inl (by decide))
    have hlv6_3 : aj_lv lv6 3 = some (.int p3) := fx_e1 elv6 hlv1_3 (by decide) (Or.inl (by decide))
    have hlv6_4 : aj_lv lv6 4 = some (.int p4) := fx_e1 elv6 hlv1_4 (by decide) (Or.inr rfl)
    have hlv6_5 : aj_lv lv6 5 = some (.null) := by rw [elv6]; exact ak_set1_eq _ _ _
    show fx_W _ _ _ 10 lv6 [] _ _
    refine fx_i3 aj_d186 rfl (Nat.le_succ _) (fun _ => rfl) hlv6_5 ?_
    refine fx_n (pc' := 41) (lv' := lv6) (st' := []) aj_d186 rfl (Nat.le_succ _) (fun _ => rfl) ?_
    refine fx_n (pc' := 43) (lv' := lv6) (st' := [.int (Int32.ofInt (-100000))]) aj_d186 rfl (Nat.le_succ _) (fun _ => rfl) ?_
    exact fx_ri aj_d186 rfl ⟨_, rfl, 0, rfl, rfl⟩
  · skip
    refine fx_o2 (fx_qs rfl ?_)
    show fx_W _ _ _ 8 lv1 [.ref w5b] _ _
    refine fx_s2 (j := 5) aj_d186 rfl (Nat.le_succ _) (by decide) (fun _ => rfl) ?_
    obtain ⟨lv7, elv7⟩ : ∃ l, l = aj_set1 lv1 5 (.ref w5b) := ⟨_, rfl⟩
    rw [← elv7]
    have hlv7_2 : aj_lv lv7 2 = some (.int p2) := fx_e1 elv7 hlv1_2 (by decide) (Or.inl (by decide))
    have hlv7_3 : aj_lv lv7 3 = some (.int p3) := fx_e1 elv7 hlv1_3 (by decide) (Or.inl (by decide))
    have hlv7_4 : aj_lv lv7 4 = some (.int p4) := fx_e1 elv7 hlv1_4 (by decide) (Or.inr rfl)
    have hlv7_5 : aj_lv lv7 5 = some (.ref w5b) := by rw [elv7]; exact ak_set1_eq _ _ _
    show fx_W _ _ _ 10 lv7 [] _ _
    refine fx_i2 aj_d186 rfl (Nat.le_succ _) (fun _ => rfl) hlv7_5 ?_
    refine fx_n (pc' := 15) (lv' := lv7) (st' := []) aj_d186 rfl (Nat.le_succ _) (fun _ => rfl) ?_
    refine fx_i0 aj_d186 rfl (Nat.le_succ _) (fun _ => rfl) hlv7_2 ?_
    refine fx_b0 (tgt := 41) aj_d186 rfl (Nat.le_succ _) rfl (fun q8 => ?_) (fun q8 => ?_)
    · skip
      refine fx_qi (c := (p2).toInt < 0) (fx_t_lt q8) ?_
      show fx_W _ _ _ 41 lv7 [] _ _
      refine fx_n (pc' := 43) (lv' := lv7) (st' := [.int (Int32.ofInt (-100000))]) aj_d186 rfl (Nat.le_succ _) (fun _ => rfl) ?_
      exact fx_ri aj_d186 rfl ⟨_, rfl, 0, rfl, rfl⟩
    · skip
      refine fx_qe (c := (p2).toInt < 0) (fx_f_lt q8) ?_
      show fx_W _ _ _ 19 lv7 [] _ _
      refine fx_i0 aj_d186 rfl (Nat.le_succ _) (fun _ => rfl) hlv7_2 ?_
      refine fx_i2 aj_d186 rfl (Nat.le_succ _) (fun _ => rfl) hlv7_5 ?_
      refine fx_gI aj_d186 rfl (Nat.le_succ _) rfl rfl (Or.inl rfl) ?_
      refine fx_b (tgt := 41) aj_d186 rfl (Nat.le_succ _) rfl (fun q9 => ?_) (fun q9 => ?_)
      · skip
        refine fx_qe (c := (p2).toInt < ((X4.1 w5b 4)).toInt) (fx_t_ge q9) ?_
        show fx_W _ _ _ 41 lv7 [] _ _
        refine fx_n (pc' := 43) (lv' := lv7) (st' := [.int (Int32.ofInt (-100000))]) aj_d186 rfl (Nat.le_succ _) (fun _ => rfl) ?_
        exact fx_ri aj_d186 rfl ⟨_, rfl, 0, rfl, rfl⟩
      · skip
        refine fx_qi (c := (p2).toInt < ((X4.1 w5b 4)).toInt) (fx_f_ge q9) ?_
        show fx_W _ _ _ 28 lv7 [] _ _
        refine fx_i0 aj_d186 rfl (Nat.le_succ _) (fun _ => rfl) hlv7_3 ?_
        refine fx_b0 (tgt := 41) aj_d186 rfl (Nat.le_succ _) rfl (fun q10 => ?_) (fun q10 => ?_)
        · skip
          refine fx_qi (c := (p3).toInt < 0) (fx_t_lt q10) ?_
          show fx_W _ _ _ 41 lv7 [] _ _
          refine fx_n (pc' := 43) (lv' := lv7) (st' := [.int (Int32.ofInt (-100000))]) aj_d186 rfl (Nat.le_succ _) (fun _ => rfl) ?_
          exact fx_ri aj_d186 rfl ⟨_, rfl, 0, rfl, rfl⟩
        · skip
          refine fx_qe (c := (p3).toInt < 0) (fx_f_lt q10) ?_
          show fx_W _ _ _ 32 lv7 [] _ _
          refine fx_i0 aj_d186 rfl (Nat.le_succ _) (fun _ => rfl) hlv7_3 ?_
          refine fx_i2 aj_d186 rfl (Nat.le_succ _) (fun _ => rfl) hlv7_5 ?_
          refine fx_gI aj_d186 rfl (Nat.le_succ _) rfl rfl (Or.inl rfl) ?_
          refine fx_b (tgt := 44) aj_d186 rfl (Nat.le_succ _) rfl (fun q11 => ?_) (fun q11 => ?_)
          · skip
            refine fx_qi (c := (p3).toInt < ((X4.1 w5b 3)).toInt) (fx_t_lt q11) ?_
            show fx_W _ _ _ 44 lv7 [] _ _
            refine fx_i0 aj_d186 rfl (Nat.le_succ _) (fun _ => rfl) hlv7_4 ?_
            by_cases q13 : (p4).toInt = 0
            · skip
              refine fx_qi (c := (p4).toInt = 0) q13 ?_
              refine fx_lk (tgt := 72) (off := 26) aj_d186 rfl (Nat.le_succ _) (by decide) (by rw [q13]; rfl) rfl ?_
              show fx_W _ _ _ 72 lv7 [] _ _
              refine fx_i2 aj_d186 rfl (Nat.le_succ _) (fun _ => rfl) hlv7_5 ?_
              refine fx_i0 aj_d186 rfl (Nat.le_succ _) (fun _ => rfl) hlv7_2 ?_
              refine fx_i0 aj_d186 rfl (Nat.le_succ _) (fun _ => rfl) hlv7_3 ?_
              refine fx_cv aj_d186 rfl (Nat.le_succ _) rfl [_, _] rfl rfl (gx_103_ok w5b p2 p3) ?_
              rintro _ X14 ⟨w15, rfl, hR14⟩ hok14 hle14
              refine fx_qc hR14 ?_
              show fx_W _ _ _ 79 lv7 [.int w15] _ _
              refine fx_b0 (tgt := 86) aj_d186 rfl (Nat.le_succ _) rfl (fun q16 => ?_) (fun q16 => ?_)
              · skip
                refine fx_qi (c := (w15).toInt = 0) (fx_t_eq q16) ?_
                show fx_W _ _ _ 86 lv7 [] _ _
                refine fx_n (pc' := 87) (lv' := lv7) (st' := [.int (Int32.ofInt 0)]) aj_d186 rfl (Nat.le_succ _) (fun _ => rfl) ?_
                exact fx_ri aj_d186 rfl ⟨_, rfl, 0, rfl, rfl⟩
              · skip
                refine fx_qe (c := (w15).toInt = 0) (fx_f_eq q16) ?_
                show fx_W _ _ _ 82 lv7 [] _ _
                refine fx_n (pc' := 83) (lv' := lv7) (st' := [.int (Int32.ofInt 1)]) aj_d186 rfl (Nat.le_succ _) (fun _ => rfl) ?_
                refine fx_n (pc' := 87) (lv' := lv7) (st' := [.int (Int32.ofInt 1)]) aj_d186 rfl (Nat.le_succ _) (fun _ => rfl) ?_
                exact fx_ri aj_d186 rfl ⟨_, rfl, 0, rfl, rfl⟩
            · skip
              refine fx_qe (c := (p4).toInt = 0) q13 ?_
              by_cases q17 : (p4).toInt = 1
              · skip
                refine fx_qi (c := (p4).toInt = 1) q17 ?_
                refine fx_lk (tgt := 88) (off := 42) aj_d186 rfl (Nat.le_succ _) (by decide) (by rw [q17]; rfl) rfl ?_
                show fx_W _ _ _ 88 lv7 [] _ _
                refine fx_i2 aj_d186 rfl (Nat.le_succ _) (fun _ => rfl) hlv7_5 ?_
                refine fx_i0 aj_d186 rfl (Nat.le_succ _) (fun _ => rfl) hlv7_2 ?_
                refine fx_i0 aj_d186 rfl (Nat.le_succ _) (fun _ => rfl) hlv7_3 ?_
                refine fx_cv aj_d186 rfl (Nat.le_succ _) rfl [_, _] rfl rfl (gx_104_ok w5b p2 p3) ?_
                rintro _ X18 ⟨w19, rfl, hR18⟩ hok18 hle18
                refine fx_qc hR18 ?_
                show fx_W _ _ _ 95 lv7 [.int w19] _ _
                exact fx_ri aj_d186 rfl ⟨_, rfl, 0, rfl, rfl⟩
              · skip
                refine fx_qe (c := (p4).toInt = 1) q17 ?_
                refine fx_lk (tgt := 96) (off := 50) aj_d186 rfl (Nat.le_succ _) (by decide) (fx_lkd (by intro z hz; simp only [List.mem_cons, List.not_mem_nil, or_false] at hz; rcases hz with rfl | rfl <;> (dsimp only; omega))) rfl ?_
                show fx_W _ _ _ 96 lv7 [] _ _
                refine fx_n (pc' := 98) (lv' := lv7) (st' := [.int (Int32.ofInt (-100000))]) aj_d186 rfl (Nat.le_succ _) (fun _ => rfl) ?_
                exact fx_ri aj_d186 rfl ⟨_, rfl, 0, rfl, rfl⟩
          · skip
            refine fx_qe (c := (p3).toInt < ((X4.1 w5b 3)).toInt) (fx_f_lt q11) ?_
            show fx_W _ _ _ 41 lv7 [] _ _
            refine fx_n (pc' := 43) (lv' := lv7) (st' := [.int (Int32.ofInt (-100000))]) aj_d186 rfl (Nat.le_succ _) (fun _ => rfl) ?_
            exact fx_ri aj_d186 rfl ⟨_, rfl, 0, rfl, rfl⟩
def gxT_187_33 (p1 : Int32) (p2 : Int32) (P : Nat → List Int32 → List Int64 → List Nat → fx_X → Int32 → fx_X → Prop) (y3 : Nat) (y4 : Int32) (y5 : Int32) (X : fx_X) (v : Int32) (X' : fx_X) : Prop :=
  ∃ b13 : Nat, X.2.2.1 52 3 = some b13 ∧ (if (y5).toInt < ((X.1 b13 14)).toInt then (∃ b16 : Nat, X.2.2.1 52 3 = some b16 ∧ ∃ (w18 : Int32) (X17 : fx_X), gx_158 b16 y5 X w18 X17 ∧ ∃ (w20 : Int32) (X19 : fx_X), gx_108 y3 p2 w18 X17 w20 X19 ∧ (if (w20).toInt = 0 then (∃ x22 : Int32, x22 = y5 + Int32.ofInt 1 ∧ P 33 [y4, x22] [] [y3] X19 v X') else (∃ x24 : Int32, x24 = y4 + Int32.ofInt 1 ∧ ∃ x26 : Int32, x26 = y5 + Int32.ofInt 1 ∧ P 33 [x24, x26] [] [y3] X19 v X'))) else (v = y4 ∧ X' = X))
def gxE_187 (p1 : Int32) (p2 : Int32) (P : Nat → List Int32 → List Int64 → List Nat → fx_X → Int32 → fx_X → Prop) (X : fx_X) (v : Int32) (X' : fx_X) : Prop :=
  ∃ b3 : Nat, X.2.2.1 52 3 = some b3 ∧ ∃ (w5 : (Option Nat)) (X4 : fx_X), gx_63 b3 p1 X w5 X4 ∧ ((w5 = none ∧ v = (Int32.ofInt (-1)) ∧ X' = X4) ∨ (∃ w5b : Nat, w5 = some w5b ∧ (if (p2).toInt < 0 then (v = (Int32.ofInt (-1)) ∧ X' = X4) else ((if (p2).toInt < ((X4.1 w5b 4)).toInt then (P 33 [(Int32.ofInt 0), (Int32.ofInt 0)] [] [w5b] X4 v X') else (v = (Int32.ofInt (-1)) ∧ X' = X4))))))
noncomputable def gxF_187 (p1 : Int32) (p2 : Int32) (n : Nat) : Nat → List Int32 → List Int64 → List Nat → fx_X → Int32 → fx_X → Prop := Nat.rec (motive := fun _ => Nat → List Int32 → List Int64 → List Nat → fx_X → Int32 → fx_X → Prop) (fun _ _ _ _ _ _ _ => False) (fun _ P l is ls rs X v X' => (l = 33 ∧ ∃ (y3 : Nat) (y4 : Int32) (y5 : Int32), is = [y4, y5] ∧ ls = [] ∧ rs = [y3] ∧ gxT_187_33 p1 p2 P y3 y4 y5 X v X')) n
theorem gxI_187_33 {p1 : Int32} {p2 : Int32} {n : Nat} {y3 : Nat} {y4 : Int32} {y5 : Int32} {X : fx_X} {v : Int32} {X' : fx_X} (h : gxT_187_33 p1 p2 (gxF_187 p1 p2 n) y3 y4 y5 X v X') : gxF_187 p1 p2 (n + 1) 33 [y4, y5] [] [y3] X v X' := ⟨rfl, y3, y4, y5, rfl, rfl, rfl, h⟩
theorem gxO_187_33 {p1 : Int32} {p2 : Int32} {n : Nat} {y3 : Nat} {y4 : Int32} {y5 : Int32} {X : fx_X} {v : Int32} {X' : fx_X} (h : gxF_187 p1 p2 (n + 1) 33 [y4, y5] [] [y3] X v X') : gxT_187_33 p1 p2 (gxF_187 p1 p2 n) y3 y4 y5 X v X' := by
  rcases h with ⟨-, _, _, _, e1, e2, e3, h⟩
  · cases e1; cases e2; cases e3; exact h
def gx_187 (p1 : Int32) (p2 : Int32) (X : fx_X) (v : Int32) (X' : fx_X) : Prop := ∃ n : Nat, gxE_187 p1 p2 (gxF_187 p1 p2 n) X v X'
theorem gxL_187 {tb : aj_T} (p1 : Int32) (p2 : Int32) : ∀ N : Nat, (∀ (lv : aj_V) (y3 : Nat) (y4 : Int32) (y5 : Int32) (X : fx_X), aj_lv lv 0 = some (.ref 52) → aj_lv lv 2 = some (.int p2) → aj_lv lv 3 = some (.ref y3) → aj_lv lv 4 = some (.int y4) → aj_lv lv 5 = some (.int y5) → fx_W tb aj_m187 N 33 lv [] X (fx_Q fx_qI (fun v X' => ∃ n : Nat, gxF_187 p1 p2 n 33 [y4, y5] [] [y3] X v X'))) := by
  intro N
  induction N with
  | zero => exact (by intros; exact fx_z)
  | succ N ih =>
    skip
    · intro lv y3 y4 y5 X hlv_0 hlv_2 hlv_3 hlv_4 hlv_5
      refine fx_mono (Q := fx_Q fx_qI (fun v X' => ∃ n : Nat, gxT_187_33 p1 p2 (gxF_187 p1 p2 n) y3 y4 y5 X v X')) (fun r X' ⟨v, e, n, z⟩ => ⟨v, e, n + 1, gxI_187_33 z⟩) ?_
      unfold gxT_187_33
      refine fx_i0 aj_d187 rfl (Nat.le_refl _) (fun _ => rfl) hlv_5 ?_
      refine fx_i2 aj_d187 rfl (Nat.le_succ _) (fun _ => rfl) hlv_0 ?_
      refine fx_gR aj_d187 rfl (Nat.le_succ _) rfl rfl (Or.inl ⟨_, rfl⟩) (fun _ z => absurd (by decide) z) (fun b13 q12 => ?_)
      show fx_W _ _ _ 39 lv [.ref b13, .int y5] _ _
      refine fx_qs q12 ?_
      refine fx_gI aj_d187 rfl (Nat.le_succ _) rfl rfl (Or.inl rfl) ?_
      refine fx_b (tgt := 71) aj_d187 rfl (Nat.le_succ _) rfl (fun q14 => ?_) (fun q14 => ?_)
      · skip
        refine fx_qe (c := (y5).toInt < ((X.1 b13 14)).toInt) (fx_t_ge q14) ?_
        show fx_W _ _ _ 71 lv [] _ _
        refine fx_i0 aj_d187 rfl (Nat.le_succ _) (fun _ => rfl) hlv_4 ?_
        exact fx_ri aj_d187 rfl ⟨_, rfl, 0, rfl, rfl⟩
      · skip
        refine fx_qi (c := (y5).toInt < ((X.1 b13 14)).toInt) (fx_f_ge q14) ?_
        show fx_W _ _ _ 45 lv [] _ _
        refine fx_i2 aj_d187 rfl (Nat.le_succ _) (fun _ => rfl) hlv_3 ?_
        refine fx_i0 aj_d187 rfl (Nat.le_succ _) (fun _ => rfl) hlv_2 ?_
        refine fx_i2 aj_d187 rfl (Nat.le_succ _) (fun _ => rfl) hlv_0 ?_
        refine fx_gR aj_d187 rfl (Nat.le_succ _) rfl rfl (Or.inl ⟨_, rfl⟩) (fun _ z => absurd (by decide) z) (fun b16 q15 => ?_)
        show fx_W _ _ _ 51 lv [.ref b16, .int p2, .ref y3] _ _
        refine fx_qs q15 ?_
        refine fx_i0 aj_d187 rfl (Nat.le_succ _) (fun _ => rfl) hlv_5 ?_
        refine fx_cv aj_d187 rfl (Nat.le_succ _) rfl [_] rfl rfl (gx_158_ok b16 y5) ?_
        rintro _ X17 ⟨w18, rfl, hR17⟩ hok17 hle17
        refine fx_qc hR17 ?_
        show fx_W _ _ _ 56 lv [.int w18, .int p2, .ref y3] _ _
        refine fx_cv aj_d187 rfl (Nat.le_succ _) rfl [_, _] rfl rfl (gx_108_ok y3 p2 w18) ?_
        rintro _ X19 ⟨w20, rfl, hR19⟩ hok19 hle19
        refine fx_qc hR19 ?_
        show fx_W _ _ _ 59 lv [.int w20] _ _
        refine fx_b0 (tgt := 65) aj_d187 rfl (Nat.le_succ _) rfl (fun q21 => ?_) (fun q21 => ?_)
        · skip
          refine fx_qi (c := (w20).toInt = 0) (fx_t_eq q21) ?_
          show fx_W _ _ _ 65 lv [] _ _
          refine fx_incq aj_d187 rfl (Nat.le_succ _) hlv_5 (by decide) (fun x22 ex22 => ?_)
          obtain ⟨lv23, elv23⟩ : ∃ l, l = aj_set1 lv 5 (.int x22) := ⟨_, rfl⟩
          rw [← elv23]
          have hlv23_0 : aj_lv lv23 0 = some (.ref 52) := fx_e1 elv23 hlv_0 (by decide) (Or.inl (by decide))
          have hlv23_2 : aj_lv lv23 2 = some (.int p2) := fx_e1 elv23 hlv_2 (by decide) (Or.inl (by decide))
          have hlv23_3 : aj_lv lv23 3 = some (.ref y3) := fx_e1 elv23 hlv_3 (by decide) (Or.inl (by decide))
          have hlv23_4 : aj_lv lv23 4 = some (.int y4) := fx_e1 elv23 hlv_4 (by decide) (Or.inr rfl)
          have hlv23_5 : aj_lv lv23 5 = some (.int x22) := by rw [elv23]; exact ak_set1_eq _ _ _
          show fx_W _ _ _ 68 lv23 [] _ _
          refine fx_n (pc' := 33) (lv' := lv23) (st' := []) aj_d187 rfl (Nat.le_succ _) (fun _ => rfl) ?_
          exact (ih) lv23 (y3) (y4) (x22) X19  hlv23_0 hlv23_2 hlv23_3 hlv23_4 hlv23_5
        · skip
          refine fx_qe (c := (w20).toInt = 0) (fx_f_eq q21) ?_
          show fx_W _ _ _ 62 lv [] _ _
          refine fx_incq aj_d187 rfl (Nat.le_succ _) hlv_4 (by decide) (fun x24 ex24 => ?_)
          obtain ⟨lv25, elv25⟩ : ∃ l, l = aj_set1 lv 4 (.int x24) := ⟨_, rfl⟩
          rw [← elv25]
          have hlv25_0 : aj_lv lv25 0 = some (.ref 52) := fx_e1 elv25 hlv_0 (by decide) (Or.inl (by decide))
          have hlv25_2 : aj_lv lv25 2 = some (.int p2) := fx_e1 elv25 hlv_2 (by decide) (Or.inl (by decide))
          have hlv25_3 : aj_lv lv25 3 = some (.ref y3) := fx_e1 elv25 hlv_3 (by decide) (Or.inr rfl)
          have hlv25_5 : aj_lv lv25 5 = some (.int y5) := fx_e1 elv25 hlv_5 (by decide) (Or.inl (by decide))
          have hlv25_4 : aj_lv lv25 4 = some (.int x24) := by rw [elv25]; exact ak_set1_eq _ _ _
          show fx_W _ _ _ 65 lv25 [] _ _
          refine fx_incq aj_d187 rfl (Nat.le_succ _) hlv25_5 (by decide) (fun x26 ex26 => ?_)
          obtain ⟨lv27, elv27⟩ : ∃ l, l = aj_set1 lv25 5 (.int x26) := ⟨_, rfl⟩
          rw [← elv27]
          have hlv27_0 : aj_lv lv27 0 = some (.ref 52) := fx_e1 elv27 hlv25_0 (by decide) (Or.inl (by decide))
          have hlv27_2 : aj_lv lv27 2 = some (.int p2) := fx_e1 elv27 hlv25_2 (by decide) (Or.inl (by decide))
          have hlv27_3 : aj_lv lv27 3 = some (.ref y3) := fx_e1 elv27 hlv25_3 (by decide) (Or.inl (by decide))
          have hlv27_4 : aj_lv lv27 4 = some (.int x24) := fx_e1 elv27 hlv25_4 (by decide) (Or.inr rfl)
          have hlv27_5 : aj_lv lv27 5 = some (.int x26) := by rw [elv27]; exact ak_set1_eq _ _ _
          show fx_W _ _ _ 68 lv27 [] _ _
          refine fx_n (pc' := 33) (lv' := lv27) (st' := []) aj_d187 rfl (Nat.le_succ _) (fun _ => rfl) ?_
          exact (ih) lv27 (y3) (x24) (x26) X19  hlv27_0 hlv27_2 hlv27_3 hlv27_4 hlv27_5
theorem gx_187_ok {tb : aj_T} (p1 : Int32) (p2 : Int32) {X : fx_X} : fx_K tb 187 [.ref 52, .int p1, .int p2] X (fx_Q fx_qI (fun v X' => gx_187 p1 p2 X v X')) := by
  refine fx_m aj_m187_at rfl (fun N => ?_)
  refine fx_mono (Q := fx_Q fx_qI (fun v X' => ∃ n : Nat, gxE_187 p1 p2 (gxF_187 p1 p2 n) X v X')) (fun r X' h => h) ?_
  unfold gxE_187
  show fx_W _ _ _ 0 [(0, .ref 52), (1, .int p1), (2, .int p2)] [] _ _
  obtain ⟨lv1, elv1⟩ : ∃ l : aj_V, l = [(0, .ref 52), (1, .int p1), (2, .int p2)] := ⟨_, rfl⟩
  rw [← elv1]
  have hlv1_0 : aj_lv lv1 0 = some (.ref 52) := by rw [elv1]; rfl
  have hlv1_1 : aj_lv lv1 1 = some (.int p1) := by rw [elv1]; rfl
  have hlv1_2 : aj_lv lv1 2 = some (.int p2) := by rw [elv1]; rfl
  refine fx_i2 aj_d187 rfl (Nat.le_succ _) (fun _ => rfl) hlv1_0 ?_
  refine fx_gR aj_d187 rfl (Nat.le_succ _) rfl rfl (Or.inl ⟨_, rfl⟩) (fun _ z => absurd (by decide) z) (fun b3 q2 => ?_)
  show fx_W _ _ _ 4 lv1 [.ref b3] _ _
  refine fx_qs q2 ?_
  refine fx_i0 aj_d187 rfl (Nat.le_succ _) (fun _ => rfl) hlv1_1 ?_
  refine fx_cv aj_d187 rfl (Nat.le_succ _) rfl [_] rfl rfl (gx_63_ok b3 p1) ?_
  rintro _ X4 ⟨w5, rfl, hR4⟩ hok4 hle4
  refine fx_qc hR4 ?_
  rcases w5 with _ | w5b
  · skip
    refine fx_o1 (fx_qa rfl ?_)
    show fx_W _ _ _ 8 lv1 [.null] _ _
    refine fx_s3 (j := 3) aj_d187 rfl (Nat.le_succ _) (by decide) (fun _ => rfl) ?_
    obtain ⟨lv6, elv6⟩ : ∃ l, l = aj_set1 lv1 3 (.null) := ⟨_, rfl⟩
    rw [← elv6]
    have hlv6_0 : aj_lv lv6 0 = some (.ref 52) := fx_e1 elv6 hlv1_0 (by decide) (Or.inl (by decide))
    have hlv6_2 : aj_lv lv6 2 = some (.int p2) := fx_e1 elv6 hlv1_2 (by decide) (Or.inr rfl)
    have hlv6_3 : aj_lv lv6 3 = some (.null) := by rw [elv6]; exact ak_set1_eq _ _ _
    show fx_W _ _ _ 9 lv6 [] _ _
    refine fx_i3 aj_d187 rfl (Nat.le_succ _) (fun _ => rfl) hlv6_3 ?_
    refine fx_n (pc' := 25) (lv' := lv6) (st' := []) aj_d187 rfl (Nat.le_succ _) (fun _ => rfl) ?_
    refine fx_n (pc' := 26) (lv' := lv6) (st' := [.int (Int32.ofInt (-1))]) aj_d187 rfl (Nat.le_succ _) (fun _ => rfl) ?_
    exact fx_ri aj_d187 rfl ⟨_, rfl, 0, rfl, rfl⟩
  · skip
    refine fx_o2 (fx_qs rfl ?_)
    show fx_W _ _ _ 8 lv1 [.ref w5b] _ _
    refine fx_s2 (j := 3) aj_d187 rfl (Nat.le_succ _) (by decide) (fun _ => rfl) ?_
    obtain ⟨lv7, elv7⟩ : ∃ l, l = aj_set1 lv1 3 (.ref w5b) := ⟨_, rfl⟩
    rw [← elv7]
    have hlv7_0 : aj_lv lv7 0 = some (.ref 52) := fx_e1 elv7 hlv1_0 (by decide) (Or.inl (by decide))
    have hlv7_2 : aj_lv lv7 2 = some (.int p2) := fx_e1 elv7 hlv1_2 (by decide) (Or.inr rfl)
    have hlv7_3 : aj_lv lv7 3 = some (.ref w5b) := by rw [elv7]; exact ak_set1_eq _ _ _
    show fx_W _ _ _ 9 lv7 [] _ _
    refine fx_i2 aj_d187 rfl (Nat.le_succ _) (fun _ => rfl) hlv7_3 ?_
    refine fx_n (pc' := 13) (lv' := lv7) (st' := []) aj_d187 rfl (Nat.le_succ _) (fun _ => rfl) ?_
    refine fx_i0 aj_d187 rfl (Nat.le_succ _) (fun _ => rfl) hlv7_2 ?_
    refine fx_b0 (tgt := 25) aj_d187 rfl (Nat.le_succ _) rfl (fun q8 => ?_) (fun q8 => ?_)
    · skip
      refine fx_qi (c := (p2).toInt < 0) (fx_t_lt q8) ?_
      show fx_W _ _ _ 25 lv7 [] _ _
      refine fx_n (pc' := 26) (lv' := lv7) (st' := [.int (Int32.ofInt (-1))]) aj_d187 rfl (Nat.le_succ _) (fun _ => rfl) ?_
      exact fx_ri aj_d187 rfl ⟨_, rfl, 0, rfl, rfl⟩
    · skip
      refine fx_qe (c := (p2).toInt < 0) (fx_f_lt q8) ?_
      show fx_W _ _ _ 17 lv7 [] _ _
      refine fx_i0 aj_d187 rfl (Nat.le_succ _) (fun _ => rfl) hlv7_2 ?_
      refine fx_i2 aj_d187 rfl (Nat.le_succ _) (fun _ => rfl) hlv7_3 ?_
      refine fx_gI aj_d187 rfl (Nat.le_succ _) rfl rfl (Or.inl rfl) ?_
      refine fx_b (tgt := 27) aj_d187 rfl (Nat.le_succ _) rfl (fun q9 => ?_) (fun q9 => ?_)
      · skip
        refine fx_qi (c := (p2).toInt < ((X4.1 w5b 4)).toInt) (fx_t_lt q9) ?_
        show fx_W _ _ _ 27 lv7 [] _ _
        refine fx_n (pc' := 28) (lv' := lv7) (st' := [.int (Int32.ofInt 0)]) aj_d187 rfl (Nat.le_succ _) (fun _ => rfl) ?_
        refine fx_s0 (j := 4) aj_d187 rfl (Nat.le_succ _) (by decide) (fun _ => rfl) ?_
        obtain ⟨lv10, elv10⟩ : ∃ l, l = aj_set1 lv7 4 (.int (Int32.ofInt 0)) := ⟨_, rfl⟩
        rw [← elv10]
        have hlv10_0 : aj_lv lv10 0 = some (.ref 52) := fx_e1 elv10 hlv7_0 (by decide) (Or.inl (by decide))
        have hlv10_2 : aj_lv lv10 2 = some (.int p2) := fx_e1 elv10 hlv7_2 (by decide) (Or.inl (by decide))
        have hlv10_3 : aj_lv lv10 3 = some (.ref w5b) := fx_e1 elv10 hlv7_3 (by decide) (Or.inr rfl)
        have hlv10_4 : aj_lv lv10 4 = some (.int (Int32.ofInt 0)) := by rw [elv10]; exact ak_set1_eq _ _ _
        show fx_W _ _ _ 30 lv10 [] _ _
        refine fx_n (pc' := 31) (lv' := lv10) (st' := [.int (Int32.ofInt 0)]) aj_d187 rfl (Nat.le_succ _) (fun _ => rfl) ?_
        refine fx_s0 (j := 5) aj_d187 rfl (Nat.le_succ _) (by decide) (fun _ => rfl) ?_
        obtain ⟨lv11, elv11⟩ : ∃ l, l = aj_set1 lv10 5 (.int (Int32.ofInt 0)) := ⟨_, rfl⟩
        rw [← elv11]
        have hlv11_0 : aj_lv lv11 0 = some (.ref 52) := fx_e1 elv11 hlv10_0 (by decide) (Or.inl (by decide))
        have hlv11_2 : aj_lv lv11 2 = some (.int p2) := fx_e1 elv11 hlv10_2 (by decide) (Or.inl (by decide))
        have hlv11_3 : aj_lv lv11 3 = some (.ref w5b) := fx_e1 elv11 hlv10_3 (by decide) (Or.inl (by decide))
        have hlv11_4 : aj_lv lv11 4 = some (.int (Int32.ofInt 0)) := fx_e1 elv11 hlv10_4 (by decide) (Or.inr rfl)
        have hlv11_5 : aj_lv lv11 5 = some (.int (Int32.ofInt 0)) := by rw [elv11]; exact ak_set1_eq _ _ _
        show fx_W _ _ _ 33 lv11 [] _ _
        exact ((gxL_187 p1 p2 N)) lv11 (w5b) ((Int32.ofInt 0)) ((Int32.ofInt 0)) X4  hlv11_0 hlv11_2 hlv11_3 hlv11_4 hlv11_5
      · skip
        refine fx_qe (c := (p2).toInt < ((X4.1 w5b 4)).toInt) (fx_f_lt q9) ?_
        show fx_W _ _ _ 25 lv7 [] _ _
        refine fx_n (pc' := 26) (lv' := lv7) (st' := [.int (Int32.ofInt (-1))]) aj_d187 rfl (Nat.le_succ _) (fun _ => rfl) ?_
        exact fx_ri aj_d187 rfl ⟨_, rfl, 0, rfl, rfl⟩
def gx_188 (p1 : Int32) (p2 : Int32) (p3 : Int32) (X : fx_X) (v : Int32) (X' : fx_X) : Prop :=
  ∃ b3 : Nat, X.2.2.1 52 3 = some b3 ∧ ∃ (w5 : (Option Nat)) (X4 : fx_X), gx_63 b3 p1 X w5 X4 ∧ ((w5 = none ∧ ∃ b8 : Nat, X4.2.2.1 52 3 = some b8 ∧ ∃ (w10 : Int32) (X9 : fx_X), gx_158 b8 p3 X4 w10 X9 ∧ v = (Int32.ofInt 0) ∧ X' = X9) ∨ (∃ w5b : Nat, w5 = some w5b ∧ ∃ b14 : Nat, X4.2.2.1 52 3 = some b14 ∧ ∃ (w16 : Int32) (X15 : fx_X), gx_158 b14 p3 X4 w16 X15 ∧ (if (w16).toInt < 0 then (v = (Int32.ofInt 0) ∧ X' = X15) else ((if (p2).toInt < 0 then (v = (Int32.ofInt 0) ∧ X' = X15) else ((if (p2).toInt < ((X15.1 w5b 4)).toInt then (∃ (w22 : Int32) (X21 : fx_X), gx_108 w5b p2 w16 X15 w22 X21 ∧ (if (w22).toInt = 0 then (v = (Int32.ofInt 0) ∧ X' = X21) else (v = (Int32.ofInt 1) ∧ X' = X21))) else (v = (Int32.ofInt 0) ∧ X' = X15))))))))
theorem gx_188_ok {tb : aj_T} (p1 : Int32) (p2 : Int32) (p3 : Int32) {X : fx_X} : fx_K tb 188 [.ref 52, .int p1, .int p2, .int p3] X (fx_Q fx_qI (fun v X' => gx_188 p1 p2 p3 X v X')) := by
  refine fx_m aj_m188_at rfl (fun N => ?_)
  refine fx_mono (Q := fx_Q fx_qI (fun v X' => ∃ n : Nat, gx_188 p1 p2 p3 X v X')) (fun r X' ⟨v, e, _, z⟩ => ⟨v, e, z⟩) ?_
  unfold gx_188
  show fx_W _ _ _ 0 [(0, .ref 52), (1, .int p1), (2, .int p2), (3, .int p3)] [] _ _
  obtain ⟨lv1, elv1⟩ : ∃ l : aj_V, l = [(0, .ref 52), (1, .int p1), (2, .int p2), (3, .int p3)] := ⟨_, rfl⟩
  rw [← elv1]
  have hlv1_0 : aj_lv lv1 0 = some (.ref 52) := by rw [elv1]; rfl
  have hlv1_1 : aj_lv lv1 1 = some (.int p1) := by rw [elv1]; rfl
  have hlv1_2 : aj_lv lv1 2 = some (.int p2) := by rw [elv1]; rfl
  have hlv1_3 : aj_lv lv1 3 = some (.int p3) := by rw [elv1]; rfl
  refine fx_i2 aj_d188 rfl (Nat.le_succ _) (fun _ => rfl) hlv1_0 ?_
  refine fx_gR aj_d188 rfl (Nat.le_succ _) rfl rfl (Or.inl ⟨_, rfl⟩) (fun _ z => absurd (by decide) z) (fun b3 q2 => ?_)
  show fx_W _ _ _ 4 lv1 [.ref b3] _ _
  refine fx_qs q2 ?_
  refine fx_i0 aj_d188 rfl (Nat.le_succ _) (fun _ => rfl) hlv1_1 ?_
  refine fx_cv aj_d188 rfl (Nat.le_succ _) rfl [_] rfl rfl (gx_63_ok b3 p1) ?_
  rintro _ X4 ⟨w5, rfl, hR4⟩ hok4 hle4
  refine fx_qc hR4 ?_
  rcases w5 with _ | w5b
  · skip
    refine fx_o1 (fx_qa rfl ?_)
    show fx_W _ _ _ 8 lv1 [.null] _ _
    refine fx_s3 (j := 4) aj_d188 rfl (Nat.le_succ _) (by decide) (fun _ => rfl) ?_
    obtain ⟨lv6, elv6⟩ : ∃ l, l = aj_set1 lv1 4 (.null) := ⟨_, rfl⟩
    rw [← elv6]
    have hlv6_0 : aj_lv lv6 0 = some (.ref 52) := fx_e1 elv6 hlv1_0 (by decide) (Or.inl (by decide))
    have hlv6_2 : aj_lv lv6 2 = some (.int p2) := fx_e1 elv6 hlv1_2 (by decide) (Or.inl (by decide))
    have hlv6_3 : aj_lv lv6 3 = some (.int p3) := fx_e1 elv6 hlv1_3 (by decide) (Or.inr rfl)
    have hlv6_4 : aj_lv lv6 4 = some (.null) := by rw [elv6]; exact ak_set1_eq _ _ _
    show fx_W _ _ _ 10 lv6 [] _ _
    refine fx_i2 aj_d188 rfl (Nat.le_succ _) (fun _ => rfl) hlv6_0 ?_
    refine fx_gR aj_d188 rfl (Nat.le_succ _) rfl rfl (Or.inl ⟨_, rfl⟩) (fun _ z => absurd (by decide) z) (fun b8 q7 => ?_)
    show fx_W _ _ _ 14 lv6 [.ref b8] _ _
    refine fx_qs q7 ?_
    refine fx_i0 aj_d188 rfl (Nat.le_succ _) (fun _ => rfl) hlv6_3 ?_
    refine fx_cv aj_d188 rfl (Nat.le_succ _) rfl [_] rfl rfl (gx_158_ok b8 p3) ?_
    rintro _ X9 ⟨w10, rfl, hR9⟩ hok9 hle9
    refine fx_qc hR9 ?_
    show fx_W _ _ _ 18 lv6 [.int w10] _ _
    refine fx_s0 (j := 5) aj_d188 rfl (Nat.le_succ _) (by decide) (fun _ => rfl) ?_
    obtain ⟨lv11, elv11⟩ : ∃ l, l = aj_set1 lv6 5 (.int w10) := ⟨_, rfl⟩
    rw [← elv11]
    have hlv11_2 : aj_lv lv11 2 = some (.int p2) := fx_e1 elv11 hlv6_2 (by decide) (Or.inl (by decide))
    have hlv11_4 : aj_lv lv11 4 = some (.null) := fx_e1 elv11 hlv6_4 (by decide) (Or.inr rfl)
    have hlv11_5 : aj_lv lv11 5 = some (.int w10) := by rw [elv11]; exact ak_set1_eq _ _ _
    show fx_W _ _ _ 20 lv11 [] _ _
    refine fx_i3 aj_d188 rfl (Nat.le_succ _) (fun _ => rfl) hlv11_4 ?_
    refine fx_n (pc' := 58) (lv' := lv11) (st' := []) aj_d188 rfl (Nat.le_succ _) (fun _ => rfl) ?_
    refine fx_n (pc' := 59) (lv' := lv11) (st' := [.int (Int32.ofInt 0)]) aj_d188 rfl (Nat.le_succ _) (fun _ => rfl) ?_
    exact fx_ri aj_d188 rfl ⟨_, rfl, 0, rfl, rfl⟩
  · skip
    refine fx_o2 (fx_qs rfl ?_)
    show fx_W _ _ _ 8 lv1 [.ref w5b] _ _
    refine fx_s2 (j := 4) aj_d188 rfl (Nat.le_succ _) (by decide) (fun _ => rfl) ?_
    obtain ⟨lv12, elv12⟩ : ∃ l, l = aj_set1 lv1 4 (.ref w5b) := ⟨_, rfl⟩
    rw [← elv12]
    have hlv12_0 : aj_lv lv12 0 = some (.ref 52) := fx_e1 elv12 hlv1_0 (by decide) (Or.inl (by decide))
    have hlv12_2 : aj_lv lv12 2 = some (.int p2) := fx_e1 elv12 hlv1_2 (by decide) (Or.inl (by decide))
    have hlv12_3 : aj_lv lv12 3 = some (.int p3) := fx_e1 elv12 hlv1_3 (by decide) (Or.inr rfl)
    have hlv12_4 : aj_lv lv12 4 = some (.ref w5b) := by rw [elv12]; exact ak_set1_eq _ _ _
    show fx_W _ _ _ 10 lv12 [] _ _
    refine fx_i2 aj_d188 rfl (Nat.le_succ _) (fun _ => rfl) hlv12_0 ?_
    refine fx_gR aj_d188 rfl (Nat.le_succ _) rfl rfl (Or.inl ⟨_, rfl⟩) (fun _ z => absurd (by decide) z) (fun b14 q13 => ?_)
    show fx_W _ _ _ 14 lv12 [.ref b14] _ _
    refine fx_qs q13 ?_
    refine fx_i0 aj_d188 rfl (Nat.le_succ _) (fun _ => rfl) hlv12_3 ?_
    refine fx_cv aj_d188 rfl (Nat.le_succ _) rfl [_] rfl rfl (gx_158_ok b14 p3) ?_
    rintro _ X15 ⟨w16, rfl, hR15⟩ hok15 hle15
    refine fx_qc hR15 ?_
    show fx_W _ _ _ 18 lv12 [.int w16] _ _
    refine fx_s0 (j := 5) aj_d188 rfl (Nat.le_succ _) (by decide) (fun _ => rfl) ?_
    obtain ⟨lv17, elv17⟩ : ∃ l, l = aj_set1 lv12 5 (.int w16) := ⟨_, rfl⟩
    rw [← elv17]
    have hlv17_2 : aj_lv lv17 2 = some (.int p2) := fx_e1 elv17 hlv12_2 (by decide) (Or.inl (by decide))
    have hlv17_4 : aj_lv lv17 4 = some (.ref w5b) := fx_e1 elv17 hlv12_4 (by decide) (Or.inr rfl)
    have hlv17_5 : aj_lv lv17 5 = some (.int w16) := by rw [elv17]; exact ak_set1_eq _ _ _
    show fx_W _ _ _ 20 lv17 [] _ _
    refine fx_i2 aj_d188 rfl (Nat.le_succ _) (fun _ => rfl) hlv17_4 ?_
    refine fx_n (pc' := 25) (lv' := lv17) (st' := []) aj_d188 rfl (Nat.le_succ _) (fun _ => rfl) ?_
    refine fx_i0 aj_d188 rfl (Nat.le_succ _) (fun _ => rfl) hlv17_5 ?_
    refine fx_b0 (tgt := 58) aj_d188 rfl (Nat.le_succ _) rfl (fun q18 => ?_) (fun q18 => ?_)
    · skip
      refine fx_qi (c := (w16).toInt < 0) (fx_t_lt q18) ?_
      show fx_W _ _ _ 58 lv17 [] _ _
      refine fx_n (pc' := 59) (lv' := lv17) (st' := [.int (Int32.ofInt 0)]) aj_d188 rfl (Nat.le_succ _) (fun _ => rfl) ?_
      exact fx_ri aj_d188 rfl ⟨_, rfl, 0, rfl, rfl⟩
    · skip
      refine fx_qe (c := (w16).toInt < 0) (fx_f_lt q18) ?_
      show fx_W _ _ _ 30 lv17 [] _ _
      refine fx_i0 aj_d188 rfl (Nat.le_succ _) (fun _ => rfl) hlv17_2 ?_
      refine fx_b0 (tgt := 58) aj_d188 rfl (Nat.le_succ _) rfl (fun q19 => ?_) (fun q19 => ?_)
      · skip
        refine fx_qi (c := (p2).toInt < 0) (fx_t_lt q19) ?_
        show fx_W _ _ _ 58 lv17 [] _ _
        refine fx_n (pc' := 59) (lv' := lv17) (st' := [.int (Int32.ofInt 0)]) aj_d188 rfl (Nat.le_succ _) (fun _ => rfl) ?_
        exact fx_ri aj_d188 rfl ⟨_, rfl, 0, rfl, rfl⟩
      · skip
        refine fx_qe (c := (p2).toInt < 0) (fx_f_lt q19) ?_
        show fx_W _ _ _ 34 lv17 [] _ _
        refine fx_i0 aj_d188 rfl (Nat.le_succ _) (fun _ => rfl) hlv17_2 ?_
        refine fx_i2 aj_d188 rfl (Nat.le_succ _) (fun _ => rfl) hlv17_4 ?_
        refine fx_gI aj_d188 rfl (Nat.le_succ _) rfl rfl (Or.inl rfl) ?_
        refine fx_b (tgt := 58) aj_d188 rfl (Nat.le_succ _) rfl (fun q20 => ?_) (fun q20 => ?_)
        · skip
          refine fx_qe (c := (p2).toInt < ((X15.1 w5b 4)).toInt) (fx_t_ge q20) ?_
          show fx_W _ _ _ 58 lv17 [] _ _
          refine fx_n (pc' := 59) (lv' := lv17) (st' := [.int (Int32.ofInt 0)]) aj_d188 rfl (Nat.le_succ _) (fun _ => rfl) ?_
          exact fx_ri aj_d188 rfl ⟨_, rfl, 0, rfl, rfl⟩
        · skip
          refine fx_qi (c := (p2).toInt < ((X15.1 w5b 4)).toInt) (fx_f_ge q20) ?_
          show fx_W _ _ _ 43 lv17 [] _ _
          refine fx_i2 aj_d188 rfl (Nat.le_succ _) (fun _ => rfl) hlv17_4 ?_
          refine fx_i0 aj_d188 rfl (Nat.le_succ _) (fun _ => rfl) hlv17_2 ?_
          refine fx_i0 aj_d188 rfl (Nat.le_succ _) (fun _ => rfl) hlv17_5 ?_
          refine fx_cv aj_d188 rfl (Nat.le_succ _) rfl [_, _] rfl rfl (gx_108_ok w5b p2 w16) ?_
          rintro _ X21 ⟨w22, rfl, hR21⟩ hok21 hle21
          refine fx_qc hR21 ?_
          show fx_W _ _ _ 51 lv17 [.int w22] _ _
          refine fx_b0 (tgt := 58) aj_d188 rfl (Nat.le_succ _) rfl (fun q23 => ?_) (fun q23 => ?_)
          · skip
            refine fx_qi (c := (w22).toInt = 0) (fx_t_eq q23) ?_
            show fx_W _ _ _ 58 lv17 [] _ _
            refine fx_n (pc' := 59) (lv' := lv17) (st' := [.int (Int32.ofInt 0)]) aj_d188 rfl (Nat.le_succ _) (fun _ => rfl) ?_
            exact fx_ri aj_d188 rfl ⟨_, rfl, 0, rfl, rfl⟩
          · skip
            refine fx_qe (c := (w22).toInt = 0) (fx_f_eq q23) ?_
            show fx_W _ _ _ 54 lv17 [] _ _
            refine fx_n (pc' := 55) (lv' := lv17) (st' := [.int (Int32.ofInt 1)]) aj_d188 rfl (Nat.le_succ _) (fun _ => rfl) ?_
            refine fx_n (pc' := 59) (lv' := lv17) (st' := [.int (Int32.ofInt 1)]) aj_d188 rfl (Nat.le_succ _) (fun _ => rfl) ?_
            exact fx_ri aj_d188 rfl ⟨_, rfl, 0, rfl, rfl⟩
def gx_189 (p1 : Int32) (p2 : Int32) (X : fx_X) (v : Int32) (X' : fx_X) : Prop :=
  ∃ b3 : Nat, X.2.2.1 52 3 = some b3 ∧ ∃ (w5 : (Option Nat)) (X4 : fx_X), gx_63 b3 p1 X w5 X4 ∧ ((w5 = none ∧ ∃ b8 : Nat, X4.2.2.1 52 3 = some b8 ∧ ∃ (w10 : Int32) (X9 : fx_X), gx_158 b8 p2 X4 w10 X9 ∧ v = (Int32.ofInt (-1)) ∧ X' = X9) ∨ (∃ w5b : Nat, w5 = some w5b ∧ ∃ b14 : Nat, X4.2.2.1 52 3 = some b14 ∧ ∃ (w16 : Int32) (X15 : fx_X), gx_158 b14 p2 X4 w16 X15 ∧ (if (w16).toInt < 0 then (v = (Int32.ofInt (-1)) ∧ X' = X15) else (∃ b20 : Nat, X15.2.2.1 52 3 = some b20 ∧ ∃ (w23 : Int32) (X22 : fx_X), gx_129 w5b b20 w16 115 X15 w23 X22 ∧ v = w23 ∧ X' = X22))))
theorem gx_189_ok {tb : aj_T} (p1 : Int32) (p2 : Int32) {X : fx_X} : fx_K tb 189 [.ref 52, .int p1, .int p2] X (fx_Q fx_qI (fun v X' => gx_189 p1 p2 X v X')) := by
  refine fx_m aj_m189_at rfl (fun N => ?_)
  refine fx_mono (Q := fx_Q fx_qI (fun v X' => ∃ n : Nat, gx_189 p1 p2 X v X')) (fun r X' ⟨v, e, _, z⟩ => ⟨v, e, z⟩) ?_
  unfold gx_189
  show fx_W _ _ _ 0 [(0, .ref 52), (1, .int p1), (2, .int p2)] [] _ _
  obtain ⟨lv1, elv1⟩ : ∃ l : aj_V, l = [(0, .ref 52), (1, .int p1), (2, .int p2)] := ⟨_, rfl⟩
  rw [← elv1]
  have hlv1_0 : aj_lv lv1 0 = some (.ref 52) := by rw [elv1]; rfl
  have hlv1_1 : aj_lv lv1 1 = some (.int p1) := by rw [elv1]; rfl
  have hlv1_2 : aj_lv lv1 2 = some (.int p2) := by rw [elv1]; rfl
  refine fx_i2 aj_d189 rfl (Nat.le_succ _) (fun _ => rfl) hlv1_0 ?_
  refine fx_gR aj_d189 rfl (Nat.le_succ _) rfl rfl (Or.inl ⟨_, rfl⟩) (fun _ z => absurd (by decide) z) (fun b3 q2 => ?_)
  show fx_W _ _ _ 4 lv1 [.ref b3] _ _
  refine fx_qs q2 ?_
  refine fx_i0 aj_d189 rfl (Nat.le_succ _) (fun _ => rfl) hlv1_1 ?_
  refine fx_cv aj_d189 rfl (Nat.le_succ _) rfl [_] rfl rfl (gx_63_ok b3 p1) ?_
  rintro _ X4 ⟨w5, rfl, hR4⟩ hok4 hle4
  refine fx_qc hR4 ?_
  rcases w5 with _ | w5b
  · skip
    refine fx_o1 (fx_qa rfl ?_)
    show fx_W _ _ _ 8 lv1 [.null] _ _
    refine fx_s3 (j := 3) aj_d189 rfl (Nat.le_succ _) (by decide) (fun _ => rfl) ?_
    obtain ⟨lv6, elv6⟩ : ∃ l, l = aj_set1 lv1 3 (.null) := ⟨_, rfl⟩
    rw [← elv6]
    have hlv6_0 : aj_lv lv6 0 = some (.ref 52) := fx_e1 elv6 hlv1_0 (by decide) (Or.inl (by decide))
    have hlv6_2 : aj_lv lv6 2 = some (.int p2) := fx_e1 elv6 hlv1_2 (by decide) (Or.inr rfl)
    have hlv6_3 : aj_lv lv6 3 = some (.null) := by rw [elv6]; exact ak_set1_eq _ _ _
    show fx_W _ _ _ 9 lv6 [] _ _
    refine fx_i2 aj_d189 rfl (Nat.le_succ _) (fun _ => rfl) hlv6_0 ?_
    refine fx_gR aj_d189 rfl (Nat.le_succ _) rfl rfl (Or.inl ⟨_, rfl⟩) (fun _ z => absurd (by decide) z) (fun b8 q7 => ?_)
    show fx_W _ _ _ 13 lv6 [.ref b8] _ _
    refine fx_qs q7 ?_
    refine fx_i0 aj_d189 rfl (Nat.le_succ _) (fun _ => rfl) hlv6_2 ?_
    refine fx_cv aj_d189 rfl (Nat.le_succ _) rfl [_] rfl rfl (gx_158_ok b8 p2) ?_
    rintro _ X9 ⟨w10, rfl, hR9⟩ hok9 hle9
    refine fx_qc hR9 ?_
    show fx_W _ _ _ 17 lv6 [.int w10] _ _
    refine fx_s0 (j := 4) aj_d189 rfl (Nat.le_succ _) (by decide) (fun _ => rfl) ?_
    obtain ⟨lv11, elv11⟩ : ∃ l, l = aj_set1 lv6 4 (.int w10) := ⟨_, rfl⟩
    rw [← elv11]
    have hlv11_0 : aj_lv lv11 0 = some (.ref 52) := fx_e1 elv11 hlv6_0 (by decide) (Or.inl (by decide))
    have hlv11_3 : aj_lv lv11 3 = some (.null) := fx_e1 elv11 hlv6_3 (by decide) (Or.inr rfl)
    have hlv11_4 : aj_lv lv11 4 = some (.int w10) := by rw [elv11]; exact ak_set1_eq _ _ _
    show fx_W _ _ _ 19 lv11 [] _ _
    refine fx_i3 aj_d189 rfl (Nat.le_succ _) (fun _ => rfl) hlv11_3 ?_
    refine fx_n (pc' := 28) (lv' := lv11) (st' := []) aj_d189 rfl (Nat.le_succ _) (fun _ => rfl) ?_
    refine fx_n (pc' := 29) (lv' := lv11) (st' := [.int (Int32.ofInt (-1))]) aj_d189 rfl (Nat.le_succ _) (fun _ => rfl) ?_
    exact fx_ri aj_d189 rfl ⟨_, rfl, 0, rfl, rfl⟩
  · skip
    refine fx_o2 (fx_qs rfl ?_)
    show fx_W _ _ _ 8 lv1 [.ref w5b] _ _
    refine fx_s2 (j := 3) aj_d189 rfl (Nat.le_succ _) (by decide) (fun _ => rfl) ?_
    obtain ⟨lv12, elv12⟩ : ∃ l, l = aj_set1 lv1 3 (.ref w5b) := ⟨_, rfl⟩
    rw [← elv12]
    have hlv12_0 : aj_lv lv12 0 = some (.ref 52) := fx_e1 elv12 hlv1_0 (by decide) (Or.inl (by decide))
    have hlv12_2 : aj_lv lv12 2 = some (.int p2) := fx_e1 elv12 hlv1_2 (by decide) (Or.inr rfl)
    have hlv12_3 : aj_lv lv12 3 = some (.ref w5b) := by rw [elv12]; exact ak_set1_eq _ _ _
    show fx_W _ _ _ 9 lv12 [] _ _
    refine fx_i2 aj_d189 rfl (Nat.le_succ _) (fun _ => rfl) hlv12_0 ?_
    refine fx_gR aj_d189 rfl (Nat.le_succ _) rfl rfl (Or.inl ⟨_, rfl⟩) (fun _ z => absurd (by decide) z) (fun b14 q13 => ?_)
    show fx_W _ _ _ 13 lv12 [.ref b14] _ _
    refine fx_qs q13 ?_
    refine fx_i0 aj_d189 rfl (Nat.le_succ _) (fun _ => rfl) hlv12_2 ?_
    refine fx_cv aj_d189 rfl (Nat.le_succ _) rfl [_] rfl rfl (gx_158_ok b14 p2) ?_
    rintro _ X15 ⟨w16, rfl, hR15⟩ hok15 hle15
    refine fx_qc hR15 ?_
    show fx_W _ _ _ 17 lv12 [.int w16] _ _
    refine fx_s0 (j := 4) aj_d189 rfl (Nat.le_succ _) (by decide) (fun _ => rfl) ?_
    obtain ⟨lv17, elv17⟩ : ∃ l, l = aj_set1 lv12 4 (.int w16) := ⟨_, rfl⟩
    rw [← elv17]
    have hlv17_0 : aj_lv lv17 0 = some (.ref 52) := fx_e1 elv17 hlv12_0 (by decide) (Or.inl (by decide))
    have hlv17_3 : aj_lv lv17 3 = some (.ref w5b) := fx_e1 elv17 hlv12_3 (by decide) (Or.inr rfl)
    have hlv17_4 : aj_lv lv17 4 = some (.int w16) := by rw [elv17]; exact ak_set1_eq _ _ _
    show fx_W _ _ _ 19 lv17 [] _ _
    refine fx_i2 aj_d189 rfl (Nat.le_succ _) (fun _ => rfl) hlv17_3 ?_
    refine fx_n (pc' := 23) (lv' := lv17) (st' := []) aj_d189 rfl (Nat.le_succ _) (fun _ => rfl) ?_
    refine fx_i0 aj_d189 rfl (Nat.le_succ _) (fun _ => rfl) hlv17_4 ?_
    refine fx_b0 (tgt := 30) aj_d189 rfl (Nat.le_succ _) rfl (fun q18 => ?_) (fun q18 => ?_)
    · skip
      refine fx_qe (c := (w16).toInt < 0) (fx_t_ge q18) ?_
      show fx_W _ _ _ 30 lv17 [] _ _
      refine fx_i2 aj_d189 rfl (Nat.le_succ _) (fun _ => rfl) hlv17_3 ?_
      refine fx_i2 aj_d189 rfl (Nat.le_succ _) (fun _ => rfl) hlv17_0 ?_
      refine fx_gR aj_d189 rfl (Nat.le_succ _) rfl rfl (Or.inl ⟨_, rfl⟩) (fun _ z => absurd (by decide) z) (fun b20 q19 => ?_)
      show fx_W _ _ _ 35 lv17 [.ref b20, .ref w5b] _ _
      refine fx_qs q19 ?_
      refine fx_i0 aj_d189 rfl (Nat.le_succ _) (fun _ => rfl) hlv17_4 ?_
      refine fx_i2 aj_d189 rfl (Nat.le_succ _) (fun _ => rfl) hlv17_0 ?_
      refine fx_gF aj_d189 rfl (Nat.le_succ _) rfl rfl fx_in_10_12 (t := 115) rfl (fun hA21 => ?_)
      refine fx_cv aj_d189 rfl (Nat.le_succ _) rfl [_, _, _] rfl rfl (gx_129_ok w5b b20 w16 115 hA21) ?_
      rintro _ X22 ⟨w23, rfl, hR22⟩ hok22 hle22
      refine fx_qc hR22 ?_
      show fx_W _ _ _ 44 lv17 [.int w23] _ _
      exact fx_ri aj_d189 rfl ⟨_, rfl, 0, rfl, rfl⟩
    · skip
      refine fx_qi (c := (w16).toInt < 0) (fx_f_ge q18) ?_
      show fx_W _ _ _ 28 lv17 [] _ _
      refine fx_n (pc' := 29) (lv' := lv17) (st' := [.int (Int32.ofInt (-1))]) aj_d189 rfl (Nat.le_succ _) (fun _ => rfl) ?_
      exact fx_ri aj_d189 rfl ⟨_, rfl, 0, rfl, rfl⟩
def gx_190 (p1 : Int32) (p2 : Int32) (p3 : Int32) (p4 : Int32) (X : fx_X) (v : Int32) (X' : fx_X) : Prop :=
  ∃ b3 : Nat, X.2.2.1 52 3 = some b3 ∧ ∃ (w5 : (Option Nat)) (X4 : fx_X), gx_63 b3 p1 X w5 X4 ∧ ((w5 = none ∧ ∃ b8 : Nat, X4.2.2.1 52 3 = some b8 ∧ ∃ (w10 : Int32) (X9 : fx_X), gx_158 b8 p2 X4 w10 X9 ∧ v = (Int32.ofInt (-100000)) ∧ X' = X9) ∨ (∃ w5b : Nat, w5 = some w5b ∧ ∃ b14 : Nat, X4.2.2.1 52 3 = some b14 ∧ ∃ (w16 : Int32) (X15 : fx_X), gx_158 b14 p2 X4 w16 X15 ∧ (if (w16).toInt < 0 then (v = (Int32.ofInt (-100000)) ∧ X' = X15) else ((if (p4).toInt < 0 then (v = (Int32.ofInt (-100000)) ∧ X' = X15) else ((if (p4).toInt < ((X15.1 w5b 3)).toInt then (∃ b22 : Nat, X15.2.2.1 52 3 = some b22 ∧ ∃ (w25 : Int32) (X24 : fx_X), gx_129 w5b b22 w16 115 X15 w25 X24 ∧ (if (p3).toInt < 0 then (v = (Int32.ofInt (-100000)) ∧ X' = X24) else ((if (p3).toInt < (w25).toInt then ((if (p3).toInt < 30 then (∃ b32 : Nat, X24.2.2.1 52 3 = some b32 ∧ (0 ≤ (p3).toInt ∧ (p3).toInt < ((30 : Nat) : Int)) ∧ ∃ (w36 : Int32) (X35 : fx_X), gx_114_2 w5b b32 (X24.1 115 (p3).toInt.toNat) p4 w16 X24 w36 X35 ∧ v = w36 ∧ X' = X35) else (v = (Int32.ofInt (-100000)) ∧ X' = X24))) else (v = (Int32.ofInt (-100000)) ∧ X' = X24))))) else (v = (Int32.ofInt (-100000)) ∧ X' = X15))))))))
theorem gx_190_ok {tb : aj_T} (p1 : Int32) (p2 : Int32) (p3 : Int32) (p4 : Int32) {X : fx_X} : fx_K tb 190 [.ref 52, .int p1, .int p2, .int p3, .int p4] X (fx_Q fx_qI (fun v X' => gx_190 p1 p2 p3 p4 X v X')) := by
  refine fx_m aj_m190_at rfl (fun N => ?_)
  refine fx_mono (Q := fx_Q fx_qI (fun v X' => ∃ n : Nat, gx_190 p1 p2 p3 p4 X v X')) (fun r X' ⟨v, e, _, z⟩ => ⟨v, e, z⟩) ?_
  unfold gx_190
  show fx_W _ _ _ 0 [(0, .ref 52), (1, .int p1), (2, .int p2), (3, .int p3), (4, .int p4)] [] _ _
  obtain ⟨lv1, elv1⟩ : ∃ l : aj_V, l = [(0, .ref 52), (1, .int p1), (2, .int p2), (3, .int p3), (4, .int p4)] := ⟨_, rfl⟩
  rw [← elv1]
  have hlv1_0 : aj_lv lv1 0 = some (.ref 52) := by rw [elv1]; rfl
  have hlv1_1 : aj_lv lv1 1 = some (.int p1) := by rw [elv1]; rfl
  have hlv1_2 : aj_lv lv1 2 = some (.int p2) := by rw [elv1]; rfl
  have hlv1_3 : aj_lv lv1 3 = some (.int p3) := by rw [elv1]; rfl
  have hlv1_4 : aj_lv lv1 4 = some (.int p4) := by rw [elv1]; rfl
  refine fx_i2 aj_d190 rfl (Nat.le_succ _) (fun _ => rfl) hlv1_0 ?_
  refine fx_gR aj_d190 rfl (Nat.le_succ _) rfl rfl (Or.inl ⟨_, rfl⟩) (fun _ z => absurd (by decide) z) (fun b3 q2 => ?_)
  show fx_W _ _ _ 4 lv1 [.ref b3] _ _
  refine fx_qs q2 ?_
  refine fx_i0 aj_d190 rfl (Nat.le_succ _) (fun _ => rfl) hlv1_1 ?_
  refine fx_cv aj_d190 rfl (Nat.le_succ _) rfl [_] rfl rfl (gx_63_ok b3 p1) ?_
  rintro _ X4 ⟨w5, rfl, hR4⟩ hok4 hle4
  refine fx_qc hR4 ?_
  rcases w5 with _ | w5b
  · skip
    refine fx_o1 (fx_qa rfl ?_)
    show fx_W _ _ _ 8 lv1 [.null] _ _
    refine fx_s3 (j := 5) aj_d190 rfl (Nat.le_succ _) (by decide) (fun _ => rfl) ?_
    obtain ⟨lv6, elv6⟩ : ∃ l, l = aj_set1 lv1 5 (.null) := ⟨_, rfl⟩
    rw [← elv6]
    have hlv6_0 : aj_lv lv6 0 = some (.ref 52) := fx_e1 elv6 hlv1_0 (by decide) (Or.inl (by decide))
    have hlv6_2 : aj_lv lv6 2 = some (.int p2) := fx_e1 elv6 hlv1_2 (by decide) (Or.inl (by decide))
    have hlv6_3 : aj_lv lv6 3 = some (.int p3) := fx_e1 elv6 hlv1_3 (by decide) (Or.inl (by decide))
    have hlv6_4 : aj_lv lv6 4 = some (.int p4) := fx_e1 elv6 hlv1_4 (by decide) (Or.inr rfl)
    have hlv6_5 : aj_lv lv6 5 = some (.null) := by rw [elv6]; exact ak_set1_eq _ _ _
    show fx_W _ _ _ 10 lv6 [] _ _
    refine fx_i2 aj_d190 rfl (Nat.le_succ _) (fun _ => rfl) hlv6_0 ?_
    refine fx_gR aj_d190 rfl (Nat.le_succ _) rfl rfl (Or.inl ⟨_, rfl⟩) (fun _ z => absurd (by decide) z) (fun b8 q7 => ?_)
    show fx_W _ _ _ 14 lv6 [.ref b8] _ _
    refine fx_qs q7 ?_
    refine fx_i0 aj_d190 rfl (Nat.le_succ _) (fun _ => rfl) hlv6_2 ?_
    refine fx_cv aj_d190 rfl (Nat.le_succ _) rfl [_] rfl rfl (gx_158_ok b8 p2) ?_
    rintro _ X9 ⟨w10, rfl, hR9⟩ hok9 hle9
    refine fx_qc hR9 ?_
    show fx_W _ _ _ 18 lv6 [.int w10] _ _
    refine fx_s0 (j := 6) aj_d190 rfl (Nat.le_succ _) (by decide) (fun _ => rfl) ?_
    obtain ⟨lv11, elv11⟩ : ∃ l, l = aj_set1 lv6 6 (.int w10) := ⟨_, rfl⟩
    rw [← elv11]
    have hlv11_0 : aj_lv lv11 0 = some (.ref 52) := fx_e1 elv11 hlv6_0 (by decide) (Or.inl (by decide))
    have hlv11_3 : aj_lv lv11 3 = some (.int p3) := fx_e1 elv11 hlv6_3 (by decide) (Or.inl (by decide))
    have hlv11_4 : aj_lv lv11 4 = some (.int p4) := fx_e1 elv11 hlv6_4 (by decide) (Or.inl (by decide))
    have hlv11_5 : aj_lv lv11 5 = some (.null) := fx_e1 elv11 hlv6_5 (by decide) (Or.inr rfl)
    have hlv11_6 : aj_lv lv11 6 = some (.int w10) := by rw [elv11]; exact ak_set1_eq _ _ _
    show fx_W _ _ _ 20 lv11 [] _ _
    refine fx_i3 aj_d190 rfl (Nat.le_succ _) (fun _ => rfl) hlv11_5 ?_
    refine fx_n (pc' := 45) (lv' := lv11) (st' := []) aj_d190 rfl (Nat.le_succ _) (fun _ => rfl) ?_
    refine fx_n (pc' := 47) (lv' := lv11) (st' := [.int (Int32.ofInt (-100000))]) aj_d190 rfl (Nat.le_succ _) (fun _ => rfl) ?_
    exact fx_ri aj_d190 rfl ⟨_, rfl, 0, rfl, rfl⟩
  · skip
    refine fx_o2 (fx_qs rfl ?_)
    show fx_W _ _ _ 8 lv1 [.ref w5b] _ _
    refine fx_s2 (j := 5) aj_d190 rfl (Nat.le_succ _) (by decide) (fun _ => rfl) ?_
    obtain ⟨lv12, elv12⟩ : ∃ l, l = aj_set1 lv1 5 (.ref w5b) := ⟨_, rfl⟩
    rw [← elv12]
    have hlv12_0 : aj_lv lv12 0 = some (.ref 52) := fx_e1 elv12 hlv1_0 (by decide) (Or.inl (by decide))
    have hlv12_2 : aj_lv lv12 2 = some (.int p2) := fx_e1 elv12 hlv1_2 (by decide) (Or.inl (by decide))
    have hlv12_3 : aj_lv lv12 3 = some (.int p3) := fx_e1 elv12 hlv1_3 (by decide) (Or.inl (by decide))
    have hlv12_4 : aj_lv lv12 4 = some (.int p4) := fx_e1 elv12 hlv1_4 (by decide) (Or.inr rfl)
    have hlv12_5 : aj_lv lv12 5 = some (.ref w5b) := by rw [elv12]; exact ak_set1_eq _ _ _
    show fx_W _ _ _ 10 lv12 [] _ _
    refine fx_i2 aj_d190 rfl (Nat.le_succ _) (fun _ => rfl) hlv12_0 ?_
    refine fx_gR aj_d190 rfl (Nat.le_succ _) rfl rfl (Or.inl ⟨_, rfl⟩) (fun _ z => absurd (by decide) z) (fun b14 q13 => ?_)
    show fx_W _ _ _ 14 lv12 [.ref b14] _ _
    refine fx_qs q13 ?_
    refine fx_i0 aj_d190 rfl (Nat.le_succ _) (fun _ => rfl) hlv12_2 ?_
    refine fx_cv aj_d190 rfl (Nat.le_succ _) rfl [_] rfl rfl (gx_158_ok b14 p2) ?_
    rintro _ X15 ⟨w16, rfl, hR15⟩ hok15 hle15
    refine fx_qc hR15 ?_
    show fx_W _ _ _ 18 lv12 [.int w16] _ _
    refine fx_s0 (j := 6) aj_d190 rfl (Nat.le_succ _) (by decide) (fun _ => rfl) ?_
    obtain ⟨lv17, elv17⟩ : ∃ l, l = aj_set1 lv12 6 (.int w16) := ⟨_, rfl⟩
    rw [← elv17]
    have hlv17_0 : aj_lv lv17 0 = some (.ref 52) := fx_e1 elv17 hlv12_0 (by decide) (Or.inl (by decide))
    have hlv17_3 : aj_lv lv17 3 = some (.int p3) := fx_e1 elv17 hlv12_3 (by decide) (Or.inl (by decide))
    have hlv17_4 : aj_lv lv17 4 = some (.int p4) := fx_e1 elv17 hlv12_4 (by decide) (Or.inl (by decide))
    have hlv17_5 : aj_lv lv17 5 = some (.ref w5b) := fx_e1 elv17 hlv12_5 (by decide) (Or.inr rfl)
    have hlv17_6 : aj_lv lv17 6 = some (.int w16) := by rw [elv17]; exact ak_set1_eq _ _ _
    show fx_W _ _ _ 20 lv17 [] _ _
    refine fx_i2 aj_d190 rfl (Nat.le_succ _) (fun _ => rfl) hlv17_5 ?_
    refine fx_n (pc' := 25) (lv' := lv17) (st' := []) aj_d190 rfl (Nat.le_succ _) (fun _ => rfl) ?_
    refine fx_i0 aj_d190 rfl (Nat.le_succ _) (fun _ => rfl) hlv17_6 ?_
    refine fx_b0 (tgt := 45) aj_d190 rfl (Nat.le_succ _) rfl (fun q18 => ?_) (fun q18 => ?_)
    · skip
      refine fx_qi (c := (w16).toInt < 0) (fx_t_lt q18) ?_
      show fx_W _ _ _ 45 lv17 [] _ _
      refine fx_n (pc' := 47) (lv' := lv17) (st' := [.int (Int32.ofInt (-100000))]) aj_d190 rfl (Nat.le_succ _) (fun _ => rfl) ?_
      exact fx_ri aj_d190 rfl ⟨_, rfl, 0, rfl, rfl⟩
    · skip
      refine fx_qe (c := (w16).toInt < 0) (fx_f_lt q18) ?_
      show fx_W _ _ _ 30 lv17 [] _ _
      refine fx_i0 aj_d190 rfl (Nat.le_succ _) (fun _ => rfl) hlv17_4 ?_
      refine fx_b0 (tgt := 45) aj_d190 rfl (Nat.le_succ _) rfl (fun q19 => ?_) (fun q19 => ?_)
      · skip
        refine fx_qi (c := (p4).toInt < 0) (fx_t_lt q19) ?_
        show fx_W _ _ _ 45 lv17 [] _ _
        refine fx_n (pc' := 47) (lv' := lv17) (st' := [.int (Int32.ofInt (-100000))]) aj_d190 rfl (Nat.le_succ _) (fun _ => rfl) ?_
        exact fx_ri aj_d190 rfl ⟨_, rfl, 0, rfl, rfl⟩
      · skip
        refine fx_qe (c := (p4).toInt < 0) (fx_f_lt q19) ?_
        show fx_W _ _ _ 35 lv17 [] _ _
        refine fx_i0 aj_d190 rfl (Nat.le_succ _) (fun _ => rfl) hlv17_4 ?_
        refine fx_i2 aj_d190 rfl (Nat.le_succ _) (fun _ => rfl) hlv17_5 ?_
        refine fx_gI aj_d190 rfl (Nat.le_succ _) rfl rfl (Or.inl rfl) ?_
        refine fx_b (tgt := 48) aj_d190 rfl (Nat.le_succ _) rfl (fun q20 => ?_) (fun q20 => ?_)
        · skip
          refine fx_qi (c := (p4).toInt < ((X15.1 w5b 3)).toInt) (fx_t_lt q20) ?_
          show fx_W _ _ _ 48 lv17 [] _ _
          refine fx_i2 aj_d190 rfl (Nat.le_succ _) (fun _ => rfl) hlv17_5 ?_
          refine fx_i2 aj_d190 rfl (Nat.le_succ _) (fun _ => rfl) hlv17_0 ?_
          refine fx_gR aj_d190 rfl (Nat.le_succ _) rfl rfl (Or.inl ⟨_, rfl⟩) (fun _ z => absurd (by decide) z) (fun b22 q21 => ?_)
          show fx_W _ _ _ 54 lv17 [.ref b22, .ref w5b] _ _
          refine fx_qs q21 ?_
          refine fx_i0 aj_d190 rfl (Nat.le_succ _) (fun _ => rfl) hlv17_6 ?_
          refine fx_i2 aj_d190 rfl (Nat.le_succ _) (fun _ => rfl) hlv17_0 ?_
          refine fx_gF aj_d190 rfl (Nat.le_succ _) rfl rfl fx_in_10_12 (t := 115) rfl (fun hA23 => ?_)
          refine fx_cv aj_d190 rfl (Nat.le_succ _) rfl [_, _, _] rfl rfl (gx_129_ok w5b b22 w16 115 hA23) ?_
          rintro _ X24 ⟨w25, rfl, hR24⟩ hok24 hle24
          refine fx_qc hR24 ?_
          show fx_W _ _ _ 63 lv17 [.int w25] _ _
          refine fx_s0 (j := 7) aj_d190 rfl (Nat.le_succ _) (by decide) (fun _ => rfl) ?_
          obtain ⟨lv26, elv26⟩ : ∃ l, l = aj_set1 lv17 7 (.int w25) := ⟨_, rfl⟩
          rw [← elv26]
          have hlv26_0 : aj_lv lv26 0 = some (.ref 52) := fx_e1 elv26 hlv17_0 (by decide) (Or.inl (by decide))
          have hlv26_3 : aj_lv lv26 3 = some (.int p3) := fx_e1 elv26 hlv17_3 (by decide) (Or.inl (by decide))
          have hlv26_4 : aj_lv lv26 4 = some (.int p4) := fx_e1 elv26 hlv17_4 (by decide) (Or.inl (by decide))
          have hlv26_5 : aj_lv lv26 5 = some (.ref w5b) := fx_e1 elv26 hlv17_5 (by decide) (Or.inl (by decide))
          have hlv26_6 : aj_lv lv26 6 = some (.int w16) := fx_e1 elv26 hlv17_6 (by decide) (Or.inr rfl)
          have hlv26_7 : aj_lv lv26 7 = some (.int w25) := by rw [elv26]; exact ak_set1_eq _ _ _
          show fx_W _ _ _ 65 lv26 [] _ _
          refine fx_i0 aj_d190 rfl (Nat.le_succ _) (fun _ => rfl) hlv26_3 ?_
          refine fx_b0 (tgt := 84) aj_d190 rfl (Nat.le_succ _) rfl (fun q27 => ?_) (fun q27 => ?_)
          · skip
            refine fx_qi (c := (p3).toInt < 0) (fx_t_lt q27) ?_
            show fx_W _ _ _ 84 lv26 [] _ _
            refine fx_n (pc' := 86) (lv' := lv26) (st' := [.int (Int32.ofInt (-100000))]) aj_d190 rfl (Nat.le_succ _) (fun _ => rfl) ?_
            exact fx_ri aj_d190 rfl ⟨_, rfl, 0, rfl, rfl⟩
          · skip
            refine fx_qe (c := (p3).toInt < 0) (fx_f_lt q27) ?_
            show fx_W _ _ _ 69 lv26 [] _ _
            refine fx_i0 aj_d190 rfl (Nat.le_succ _) (fun _ => rfl) hlv26_3 ?_
            refine fx_i0 aj_d190 rfl (Nat.le_succ _) (fun _ => rfl) hlv26_7 ?_
            refine fx_b (tgt := 84) aj_d190 rfl (Nat.le_succ _) rfl (fun q28 => ?_) (fun q28 => ?_)
            · skip
              refine fx_qe (c := (p3).toInt < (w25).toInt) (fx_t_ge q28) ?_
              show fx_W _ _ _ 84 lv26 [] _ _
              refine fx_n (pc' := 86) (lv' := lv26) (st' := [.int (Int32.ofInt (-100000))]) aj_d190 rfl (Nat.le_succ _) (fun _ => rfl) ?_
              exact fx_ri aj_d190 rfl ⟨_, rfl, 0, rfl, rfl⟩
            · skip
              refine fx_qi (c := (p3).toInt < (w25).toInt) (fx_f_ge q28) ?_
              show fx_W _ _ _ 75 lv26 [] _ _
              refine fx_i0 aj_d190 rfl (Nat.le_succ _) (fun _ => rfl) hlv26_3 ?_
              refine fx_i2 aj_d190 rfl (Nat.le_succ _) (fun _ => rfl) hlv26_0 ?_
              refine fx_gF aj_d190 rfl (Nat.le_succ _) rfl rfl fx_in_10_12 (t := 115) rfl (fun hA29 => ?_)
              refine fx_al aj_d190 rfl (Nat.le_succ _) ?_
              rw [(hA29 : X24.2.2.2.1 115 = (0, 30))]
              show fx_W _ _ _ 81 lv26 [.int (Int32.ofNat 30), .int p3] _ _
              refine fx_b (tgt := 87) aj_d190 rfl (Nat.le_succ _) rfl (fun q30 => ?_) (fun q30 => ?_)
              · skip
                refine fx_qi (c := (p3).toInt < 30) (fx_t_lt q30) ?_
                show fx_W _ _ _ 87 lv26 [] _ _
                refine fx_i2 aj_d190 rfl (Nat.le_succ _) (fun _ => rfl) hlv26_5 ?_
                refine fx_i2 aj_d190 rfl (Nat.le_succ _) (fun _ => rfl) hlv26_0 ?_
                refine fx_gR aj_d190 rfl (Nat.le_succ _) rfl rfl (Or.inl ⟨_, rfl⟩) (fun _ z => absurd (by decide) z) (fun b32 q31 => ?_)
                show fx_W _ _ _ 93 lv26 [.ref b32, .ref w5b] _ _
                refine fx_qs q31 ?_
                refine fx_i2 aj_d190 rfl (Nat.le_succ _) (fun _ => rfl) hlv26_0 ?_
                refine fx_gF aj_d190 rfl (Nat.le_succ _) rfl rfl fx_in_10_12 (t := 115) rfl (fun hA33 => ?_)
                refine fx_i0 aj_d190 rfl (Nat.le_succ _) (fun _ => rfl) hlv26_3 ?_
                refine fx_ld aj_d190 (Or.inl rfl) rfl (Nat.le_succ _) (fun g340 g341 => ?_)
                show fx_W _ _ _ 99 lv26 [.int (X24.1 115 (p3).toInt.toNat), .ref b32, .ref w5b] _ _
                refine fx_qa (c := 0 ≤ (p3).toInt ∧ (p3).toInt < ((30 : Nat) : Int)) ⟨g340, fx_lnk g341 hA33⟩ ?_
                refine fx_i0 aj_d190 rfl (Nat.le_succ _) (fun _ => rfl) hlv26_4 ?_
                refine fx_i0 aj_d190 rfl (Nat.le_succ _) (fun _ => rfl) hlv26_6 ?_
                refine fx_cv aj_d190 rfl (Nat.le_succ _) rfl [_, _, _, _] rfl rfl (gx_114_2_ok w5b b32 (X24.1 115 (p3).toInt.toNat) p4 w16) ?_
                rintro _ X35 ⟨w36, rfl, hR35⟩ hok35 hle35
                refine fx_qc hR35 ?_
                show fx_W _ _ _ 106 lv26 [.int w36] _ _
                exact fx_ri aj_d190 rfl ⟨_, rfl, 0, rfl, rfl⟩
              · skip
                refine fx_qe (c := (p3).toInt < 30) (fx_f_lt q30) ?_
                show fx_W _ _ _ 84 lv26 [] _ _
                refine fx_n (pc' := 86) (lv' := lv26) (st' := [.int (Int32.ofInt (-100000))]) aj_d190 rfl (Nat.le_succ _) (fun _ => rfl) ?_
                exact fx_ri aj_d190 rfl ⟨_, rfl, 0, rfl, rfl⟩
        · skip
          refine fx_qe (c := (p4).toInt < ((X15.1 w5b 3)).toInt) (fx_f_lt q20) ?_
          show fx_W _ _ _ 45 lv17 [] _ _
          refine fx_n (pc' := 47) (lv' := lv17) (st' := [.int (Int32.ofInt (-100000))]) aj_d190 rfl (Nat.le_succ _) (fun _ => rfl) ?_
          exact fx_ri aj_d190 rfl ⟨_, rfl, 0, rfl, rfl⟩
