/-! METHODS LIFTED (printed by wip/p7/gx.py, parts.py) -/
def gx_2 (p0 : Nat) (X : fx_X) (v : Unit) (X' : fx_X) : Prop :=
  ∃ X2 : fx_X, X2 = (fx_wI X p0 11 (Int32.ofInt 0)) ∧ ∃ X3 : fx_X, X3 = (fx_wI X2 p0 12 (Int32.ofInt 0)) ∧ ∃ X4 : fx_X, X4 = (fx_wI X3 p0 13 (Int32.ofInt 1)) ∧ ∃ X5 : fx_X, X5 = (fx_wI X4 p0 15 (Int32.ofInt 0)) ∧ ∃ X6 : fx_X, X6 = (fx_wI X5 p0 16 (Int32.ofInt 0)) ∧ ∃ X7 : fx_X, X7 = (fx_wI X6 p0 17 (Int32.ofInt 0)) ∧ X' = X7
theorem gx_2_ok {tb : aj_T} (p0 : Nat) {X : fx_X} : fx_K tb 2 [.ref p0] X (fx_Q fx_qN (fun v X' => gx_2 p0 X v X')) := by
  refine fx_m aj_m2_at rfl (fun N => ?_)
  refine fx_mono (Q := fx_Q fx_qN (fun v X' => ∃ n : Nat, gx_2 p0 X v X')) (fun r X' ⟨v, e, _, z⟩ => ⟨v, e, z⟩) ?_
  unfold gx_2
  show fx_W _ _ _ 0 [(0, .ref p0)] [] _ _
  obtain ⟨lv1, elv1⟩ : ∃ l : aj_V, l = [(0, .ref p0)] := ⟨_, rfl⟩
  rw [← elv1]
  have hlv1_0 : aj_lv lv1 0 = some (.ref p0) := by rw [elv1]; rfl
  refine fx_i2 aj_d2 rfl (Nat.le_succ _) (fun _ => rfl) hlv1_0 ?_
  refine fx_n (pc' := 2) (lv' := lv1) (st' := [.int (Int32.ofInt 0), .ref p0]) aj_d2 rfl (Nat.le_succ _) (fun _ => rfl) ?_
  refine fx_pI aj_d2 rfl (Nat.le_succ _) rfl rfl (Or.inl rfl) fx_no_7_11 (by decide) ?_
  refine fx_qX (fun X2 eX2 => ?_)
  show fx_W _ _ _ 5 lv1 [] _ _
  refine fx_i2 aj_d2 rfl (Nat.le_succ _) (fun _ => rfl) hlv1_0 ?_
  refine fx_n (pc' := 7) (lv' := lv1) (st' := [.int (Int32.ofInt 0), .ref p0]) aj_d2 rfl (Nat.le_succ _) (fun _ => rfl) ?_
  refine fx_pI aj_d2 rfl (Nat.le_succ _) rfl rfl (Or.inl rfl) fx_no_7_12 (by decide) ?_
  refine fx_qX (fun X3 eX3 => ?_)
  show fx_W _ _ _ 10 lv1 [] _ _
  refine fx_i2 aj_d2 rfl (Nat.le_succ _) (fun _ => rfl) hlv1_0 ?_
  refine fx_n (pc' := 12) (lv' := lv1) (st' := [.int (Int32.ofInt 1), .ref p0]) aj_d2 rfl (Nat.le_succ _) (fun _ => rfl) ?_
  refine fx_pI aj_d2 rfl (Nat.le_succ _) rfl rfl (Or.inl rfl) fx_no_7_13 (by decide) ?_
  refine fx_qX (fun X4 eX4 => ?_)
  show fx_W _ _ _ 15 lv1 [] _ _
  refine fx_i2 aj_d2 rfl (Nat.le_succ _) (fun _ => rfl) hlv1_0 ?_
  refine fx_n (pc' := 17) (lv' := lv1) (st' := [.int (Int32.ofInt 0), .ref p0]) aj_d2 rfl (Nat.le_succ _) (fun _ => rfl) ?_
  refine fx_pI aj_d2 rfl (Nat.le_succ _) rfl rfl (Or.inl rfl) fx_no_7_15 (by decide) ?_
  refine fx_qX (fun X5 eX5 => ?_)
  show fx_W _ _ _ 20 lv1 [] _ _
  refine fx_i2 aj_d2 rfl (Nat.le_succ _) (fun _ => rfl) hlv1_0 ?_
  refine fx_n (pc' := 22) (lv' := lv1) (st' := [.int (Int32.ofInt 0), .ref p0]) aj_d2 rfl (Nat.le_succ _) (fun _ => rfl) ?_
  refine fx_pI aj_d2 rfl (Nat.le_succ _) rfl rfl (Or.inl rfl) fx_no_7_16 (by decide) ?_
  refine fx_qX (fun X6 eX6 => ?_)
  show fx_W _ _ _ 25 lv1 [] _ _
  refine fx_i2 aj_d2 rfl (Nat.le_succ _) (fun _ => rfl) hlv1_0 ?_
  refine fx_n (pc' := 27) (lv' := lv1) (st' := [.int (Int32.ofInt 0), .ref p0]) aj_d2 rfl (Nat.le_succ _) (fun _ => rfl) ?_
  refine fx_pI aj_d2 rfl (Nat.le_succ _) rfl rfl (Or.inr (Or.inl rfl)) fx_no_7_17 (by decide) ?_
  refine fx_qX (fun X7 eX7 => ?_)
  show fx_W _ _ _ 30 lv1 [] _ _
  exact fx_rn aj_d2 rfl ⟨(), rfl, 0, rfl⟩
def gxT_6_7 (p0 : Nat) (P : Nat → List Int32 → List Int64 → List Nat → fx_X → Unit → fx_X → Prop) (y1 : Int32) (X : fx_X) (v : Unit) (X' : fx_X) : Prop :=
  (if (y1).toInt < ((X.1 p0 13)).toInt then ((if (y1).toInt < 1024 then ((0 ≤ (y1).toInt ∧ (y1).toInt < ((1024 : Nat) : Int)) ∧ (if ((X.1 (p0 + 5) (y1).toInt.toNat)).toInt = 0 then ((if ((X.1 p0 14)).toInt < 1024 then ((0 ≤ ((X.1 p0 14)).toInt ∧ ((X.1 p0 14)).toInt < ((1024 : Nat) : Int)) ∧ ∃ X18 : fx_X, X18 = (fx_wI X (p0 + 6) ((X.1 p0 14)).toInt.toNat y1) ∧ ∃ X19 : fx_X, X19 = (fx_wI X18 p0 14 ((X18.1 p0 14) + (Int32.ofInt 1))) ∧ ∃ x20 : Int32, x20 = y1 + Int32.ofInt 1 ∧ P 7 [x20] [] [] X19 v X') else (∃ x14 : Int32, x14 = y1 + Int32.ofInt 1 ∧ P 7 [x14] [] [] X v X'))) else (∃ x10 : Int32, x10 = y1 + Int32.ofInt 1 ∧ P 7 [x10] [] [] X v X'))) else (X' = X))) else (X' = X))
def gxE_6 (p0 : Nat) (P : Nat → List Int32 → List Int64 → List Nat → fx_X → Unit → fx_X → Prop) (X : fx_X) (v : Unit) (X' : fx_X) : Prop :=
  ∃ X2 : fx_X, X2 = (fx_wI X p0 14 (Int32.ofInt 0)) ∧ P 7 [(Int32.ofInt 0)] [] [] X2 v X'
noncomputable def gxF_6 (p0 : Nat) (n : Nat) : Nat → List Int32 → List Int64 → List Nat → fx_X → Unit → fx_X → Prop := Nat.rec (motive := fun _ => Nat → List Int32 → List Int64 → List Nat → fx_X → Unit → fx_X → Prop) (fun _ _ _ _ _ _ _ => False) (fun _ P l is ls rs X v X' => (l = 7 ∧ ∃ (y1 : Int32), is = [y1] ∧ ls = [] ∧ rs = [] ∧ gxT_6_7 p0 P y1 X v X')) n
theorem gxI_6_7 {p0 : Nat} {n : Nat} {y1 : Int32} {X : fx_X} {v : Unit} {X' : fx_X} (h : gxT_6_7 p0 (gxF_6 p0 n) y1 X v X') : gxF_6 p0 (n + 1) 7 [y1] [] [] X v X' := ⟨rfl, y1, rfl, rfl, rfl, h⟩
theorem gxO_6_7 {p0 : Nat} {n : Nat} {y1 : Int32} {X : fx_X} {v : Unit} {X' : fx_X} (h : gxF_6 p0 (n + 1) 7 [y1] [] [] X v X') : gxT_6_7 p0 (gxF_6 p0 n) y1 X v X' := by
  rcases h with ⟨-, _, e1, e2, e3, h⟩
  · cases e1; cases e2; cases e3; exact h
def gx_6 (p0 : Nat) (X : fx_X) (v : Unit) (X' : fx_X) : Prop := ∃ n : Nat, gxE_6 p0 (gxF_6 p0 n) X v X'
theorem gxL_6 {tb : aj_T} (p0 : Nat) : ∀ N : Nat, (∀ (lv : aj_V) (y1 : Int32) (X : fx_X), aj_lv lv 0 = some (.ref p0) → aj_lv lv 1 = some (.int y1) → fx_W tb aj_m6 N 7 lv [] X (fx_Q fx_qN (fun v X' => ∃ n : Nat, gxF_6 p0 n 7 [y1] [] [] X v X'))) := by
  intro N
  induction N with
  | zero => exact (by intros; exact fx_z)
  | succ N ih =>
    skip
    · intro lv y1 X hlv_0 hlv_1
      refine fx_mono (Q := fx_Q fx_qN (fun v X' => ∃ n : Nat, gxT_6_7 p0 (gxF_6 p0 n) y1 X v X')) (fun r X' ⟨v, e, n, z⟩ => ⟨v, e, n + 1, gxI_6_7 z⟩) ?_
      unfold gxT_6_7
      refine fx_i0 aj_d6 rfl (Nat.le_refl _) (fun _ => rfl) hlv_1 ?_
      refine fx_i2 aj_d6 rfl (Nat.le_succ _) (fun _ => rfl) hlv_0 ?_
      refine fx_gI aj_d6 rfl (Nat.le_succ _) rfl rfl (Or.inl rfl) ?_
      refine fx_b (tgt := 71) aj_d6 rfl (Nat.le_succ _) rfl (fun q4 => ?_) (fun q4 => ?_)
      · skip
        refine fx_qe (c := (y1).toInt < ((X.1 p0 13)).toInt) (fx_t_ge q4) ?_
        show fx_W _ _ _ 71 lv [] _ _
        exact fx_rn aj_d6 rfl ⟨(), rfl, 0, rfl⟩
      · skip
        refine fx_qi (c := (y1).toInt < ((X.1 p0 13)).toInt) (fx_f_ge q4) ?_
        show fx_W _ _ _ 15 lv [] _ _
        refine fx_i0 aj_d6 rfl (Nat.le_succ _) (fun _ => rfl) hlv_1 ?_
        refine fx_i2 aj_d6 rfl (Nat.le_succ _) (fun _ => rfl) hlv_0 ?_
        refine fx_gF aj_d6 rfl (Nat.le_succ _) rfl rfl fx_in_7_4 (t := (p0 + 5)) rfl (fun hA5 => ?_)
        refine fx_al aj_d6 rfl (Nat.le_succ _) ?_
        rw [(hA5 : X.2.2.2.1 (p0 + 5) = (0, 1024))]
        show fx_W _ _ _ 21 lv [.int (Int32.ofNat 1024), .int y1] _ _
        refine fx_b (tgt := 71) aj_d6 rfl (Nat.le_succ _) rfl (fun q6 => ?_) (fun q6 => ?_)
        · skip
          refine fx_qe (c := (y1).toInt < 1024) (fx_t_ge q6) ?_
          show fx_W _ _ _ 71 lv [] _ _
          exact fx_rn aj_d6 rfl ⟨(), rfl, 0, rfl⟩
        · skip
          refine fx_qi (c := (y1).toInt < 1024) (fx_f_ge q6) ?_
          show fx_W _ _ _ 24 lv [] _ _
          refine fx_i2 aj_d6 rfl (Nat.le_succ _) (fun _ => rfl) hlv_0 ?_
          refine fx_gF aj_d6 rfl (Nat.le_succ _) rfl rfl fx_in_7_4 (t := (p0 + 5)) rfl (fun hA7 => ?_)
          refine fx_i0 aj_d6 rfl (Nat.le_succ _) (fun _ => rfl) hlv_1 ?_
          refine fx_ld aj_d6 (Or.inl rfl) rfl (Nat.le_succ _) (fun g80 g81 => ?_)
          show fx_W _ _ _ 30 lv [.int (X.1 (p0 + 5) (y1).toInt.toNat)] _ _
          refine fx_qa (c := 0 ≤ (y1).toInt ∧ (y1).toInt < ((1024 : Nat) : Int)) ⟨g80, fx_lnk g81 hA7⟩ ?_
          refine fx_b0 (tgt := 65) aj_d6 rfl (Nat.le_succ _) rfl (fun q9 => ?_) (fun q9 => ?_)
          · skip
            refine fx_qe (c := ((X.1 (p0 + 5) (y1).toInt.toNat)).toInt = 0) (fx_t_ne q9) ?_
            show fx_W _ _ _ 65 lv [] _ _
            refine fx_incq aj_d6 rfl (Nat.le_succ _) hlv_1 (by decide) (fun x10 ex10 => ?_)
            obtain ⟨lv11, elv11⟩ : ∃ l, l = aj_set1 lv 1 (.int x10) := ⟨_, rfl⟩
            rw [← elv11]
            have hlv11_0 : aj_lv lv11 0 = some (.ref p0) := fx_e1 elv11 hlv_0 (by decide) (Or.inr rfl)
            have hlv11_1 : aj_lv lv11 1 = some (.int x10) := by rw [elv11]; exact ak_set1_eq _ _ _
            show fx_W _ _ _ 68 lv11 [] _ _
            refine fx_n (pc' := 7) (lv' := lv11) (st' := []) aj_d6 rfl (Nat.le_succ _) (fun _ => rfl) ?_
            exact (ih) lv11 (x10) X  hlv11_0 hlv11_1
          · skip
            refine fx_qi (c := ((X.1 (p0 + 5) (y1).toInt.toNat)).toInt = 0) (fx_f_ne q9) ?_
            show fx_W _ _ _ 33 lv [] _ _
            refine fx_i2 aj_d6 rfl (Nat.le_succ _) (fun _ => rfl) hlv_0 ?_
            refine fx_gI aj_d6 rfl (Nat.le_succ _) rfl rfl (Or.inl rfl) ?_
            refine fx_i2 aj_d6 rfl (Nat.le_succ _) (fun _ => rfl) hlv_0 ?_
            refine fx_gF aj_d6 rfl (Nat.le_succ _) rfl rfl fx_in_7_5 (t := (p0 + 6)) rfl (fun hA12 => ?_)
            refine fx_al aj_d6 rfl (Nat.le_succ _) ?_
            rw [(hA12 : X.2.2.2.1 (p0 + 6) = (0, 1024))]
            show fx_W _ _ _ 42 lv [.int (Int32.ofNat 1024), .int (X.1 p0 14)] _ _
            refine fx_b (tgt := 65) aj_d6 rfl (Nat.le_succ _) rfl (fun q13 => ?_) (fun q13 => ?_)
            · skip
              refine fx_qe (c := ((X.1 p0 14)).toInt < 1024) (fx_t_ge q13) ?_
              show fx_W _ _ _ 65 lv [] _ _
              refine fx_incq aj_d6 rfl (Nat.le_succ _) hlv_1 (by decide) (fun x14 ex14 => ?_)
              obtain ⟨lv15, elv15⟩ : ∃ l, l = aj_set1 lv 1 (.int x14) := ⟨_, rfl⟩
              rw [← elv15]
              have hlv15_0 : aj_lv lv15 0 = some (.ref p0) := fx_e1 elv15 hlv_0 (by decide) (Or.inr rfl)
              have hlv15_1 : aj_lv lv15 1 = some (.int x14) := by rw [elv15]; exact ak_set1_eq _ _ _
              show fx_W _ _ _ 68 lv15 [] _ _
              refine fx_n (pc' := 7) (lv' := lv15) (st' := []) aj_d6 rfl (Nat.le_succ _) (fun _ => rfl) ?_
              exact (ih) lv15 (x14) X  hlv15_0 hlv15_1
            · skip
              refine fx_qi (c := ((X.1 p0 14)).toInt < 1024) (fx_f_ge q13) ?_
              show fx_W _ _ _ 45 lv [] _ _
              refine fx_i2 aj_d6 rfl (Nat.le_succ _) (fun _ => rfl) hlv_0 ?_
              refine fx_gF aj_d6 rfl (Nat.le_succ _) rfl rfl fx_in_7_5 (t := (p0 + 6)) rfl (fun hA16 => ?_)
              refine fx_i2 aj_d6 rfl (Nat.le_succ _) (fun _ => rfl) hlv_0 ?_
              refine fx_gI aj_d6 rfl (Nat.le_succ _) rfl rfl (Or.inl rfl) ?_
              refine fx_i0 aj_d6 rfl (Nat.le_succ _) (fun _ => rfl) hlv_1 ?_
              refine fx_st aj_d6 (Or.inl ⟨rfl, rfl⟩) rfl (Nat.le_succ _) (fun g170 g171 => ?_)
              show fx_W _ _ _ _ _ _ (fx_wI X (p0 + 6) ((X.1 p0 14)).toInt.toNat y1) _
              refine fx_qa (c := 0 ≤ ((X.1 p0 14)).toInt ∧ ((X.1 p0 14)).toInt < ((1024 : Nat) : Int)) ⟨g170, fx_lnk g171 hA16⟩ ?_
              refine fx_qX (fun X18 eX18 => ?_)
              show fx_W _ _ _ 55 lv [] _ _
              refine fx_i2 aj_d6 rfl (Nat.le_succ _) (fun _ => rfl) hlv_0 ?_
              refine fx_n (pc' := 57) (lv' := lv) (st' := [.ref p0, .ref p0]) aj_d6 rfl (Nat.le_succ _) (fun _ => rfl) ?_
              refine fx_gI aj_d6 rfl (Nat.le_succ _) rfl rfl (Or.inl rfl) ?_
              refine fx_n (pc' := 61) (lv' := lv) (st' := [.int (Int32.ofInt 1), .int (X18.1 p0 14), .ref p0]) aj_d6 rfl (Nat.le_succ _) (fun _ => rfl) ?_
              refine fx_n (pc' := 62) (lv' := lv) (st' := [.int ((X18.1 p0 14) + (Int32.ofInt 1)), .ref p0]) aj_d6 rfl (Nat.le_succ _) (fun _ => rfl) ?_
              refine fx_pI aj_d6 rfl (Nat.le_succ _) rfl rfl (Or.inl rfl) fx_no_7_14 (by decide) ?_
              refine fx_qX (fun X19 eX19 => ?_)
              show fx_W _ _ _ 65 lv [] _ _
              refine fx_incq aj_d6 rfl (Nat.le_succ _) hlv_1 (by decide) (fun x20 ex20 => ?_)
              obtain ⟨lv21, elv21⟩ : ∃ l, l = aj_set1 lv 1 (.int x20) := ⟨_, rfl⟩
              rw [← elv21]
              have hlv21_0 : aj_lv lv21 0 = some (.ref p0) := fx_e1 elv21 hlv_0 (by decide) (Or.inr rfl)
              have hlv21_1 : aj_lv lv21 1 = some (.int x20) := by rw [elv21]; exact ak_set1_eq _ _ _
              show fx_W _ _ _ 68 lv21 [] _ _
              refine fx_n (pc' := 7) (lv' := lv21) (st' := []) aj_d6 rfl (Nat.le_succ _) (fun _ => rfl) ?_
              exact (ih) lv21 (x20) X19  hlv21_0 hlv21_1
theorem gx_6_ok {tb : aj_T} (p0 : Nat) {X : fx_X} : fx_K tb 6 [.ref p0] X (fx_Q fx_qN (fun v X' => gx_6 p0 X v X')) := by
  refine fx_m aj_m6_at rfl (fun N => ?_)
  refine fx_mono (Q := fx_Q fx_qN (fun v X' => ∃ n : Nat, gxE_6 p0 (gxF_6 p0 n) X v X')) (fun r X' h => h) ?_
  unfold gxE_6
  show fx_W _ _ _ 0 [(0, .ref p0)] [] _ _
  obtain ⟨lv1, elv1⟩ : ∃ l : aj_V, l = [(0, .ref p0)] := ⟨_, rfl⟩
  rw [← elv1]
  have hlv1_0 : aj_lv lv1 0 = some (.ref p0) := by rw [elv1]; rfl
  refine fx_i2 aj_d6 rfl (Nat.le_succ _) (fun _ => rfl) hlv1_0 ?_
  refine fx_n (pc' := 2) (lv' := lv1) (st' := [.int (Int32.ofInt 0), .ref p0]) aj_d6 rfl (Nat.le_succ _) (fun _ => rfl) ?_
  refine fx_pI aj_d6 rfl (Nat.le_succ _) rfl rfl (Or.inl rfl) fx_no_7_14 (by decide) ?_
  refine fx_qX (fun X2 eX2 => ?_)
  show fx_W _ _ _ 5 lv1 [] _ _
  refine fx_n (pc' := 6) (lv' := lv1) (st' := [.int (Int32.ofInt 0)]) aj_d6 rfl (Nat.le_succ _) (fun _ => rfl) ?_
  refine fx_s0 (j := 1) aj_d6 rfl (Nat.le_succ _) (by decide) (fun _ => rfl) ?_
  obtain ⟨lv3, elv3⟩ : ∃ l, l = aj_set1 lv1 1 (.int (Int32.ofInt 0)) := ⟨_, rfl⟩
  rw [← elv3]
  have hlv3_0 : aj_lv lv3 0 = some (.ref p0) := fx_e1 elv3 hlv1_0 (by decide) (Or.inr rfl)
  have hlv3_1 : aj_lv lv3 1 = some (.int (Int32.ofInt 0)) := by rw [elv3]; exact ak_set1_eq _ _ _
  show fx_W _ _ _ 7 lv3 [] _ _
  exact ((gxL_6 p0 N)) lv3 ((Int32.ofInt 0)) X2  hlv3_0 hlv3_1
def gx_4 (p0 : Nat) (p1 : Int32) (X : fx_X) (v : Int32) (X' : fx_X) : Prop :=
  (if (p1).toInt < 0 then (v = (Int32.ofInt 0) ∧ X' = X) else ((if (p1).toInt < 8 then ((0 ≤ (p1).toInt ∧ (p1).toInt < ((8 : Nat) : Int)) ∧ v = (X.1 (p0 + 2) (p1).toInt.toNat) ∧ X' = X) else (v = (Int32.ofInt 0) ∧ X' = X))))
theorem gx_4_ok {tb : aj_T} (p0 : Nat) (p1 : Int32) {X : fx_X} : fx_K tb 4 [.ref p0, .int p1] X (fx_Q fx_qI (fun v X' => gx_4 p0 p1 X v X')) := by
  refine fx_m aj_m4_at rfl (fun N => ?_)
  refine fx_mono (Q := fx_Q fx_qI (fun v X' => ∃ n : Nat, gx_4 p0 p1 X v X')) (fun r X' ⟨v, e, _, z⟩ => ⟨v, e, z⟩) ?_
  unfold gx_4
  show fx_W _ _ _ 0 [(0, .ref p0), (1, .int p1)] [] _ _
  obtain ⟨lv1, elv1⟩ : ∃ l : aj_V, l = [(0, .ref p0), (1, .int p1)] := ⟨_, rfl⟩
  rw [← elv1]
  have hlv1_0 : aj_lv lv1 0 = some (.ref p0) := by rw [elv1]; rfl
  have hlv1_1 : aj_lv lv1 1 = some (.int p1) := by rw [elv1]; rfl
  refine fx_i0 aj_d4 rfl (Nat.le_succ _) (fun _ => rfl) hlv1_1 ?_
  refine fx_b0 (tgt := 22) aj_d4 rfl (Nat.le_succ _) rfl (fun q2 => ?_) (fun q2 => ?_)
  · skip
    refine fx_qi (c := (p1).toInt < 0) (fx_t_lt q2) ?_
    show fx_W _ _ _ 22 lv1 [] _ _
    refine fx_n (pc' := 23) (lv' := lv1) (st' := [.int (Int32.ofInt 0)]) aj_d4 rfl (Nat.le_succ _) (fun _ => rfl) ?_
    exact fx_ri aj_d4 rfl ⟨_, rfl, 0, rfl, rfl⟩
  · skip
    refine fx_qe (c := (p1).toInt < 0) (fx_f_lt q2) ?_
    show fx_W _ _ _ 4 lv1 [] _ _
    refine fx_i0 aj_d4 rfl (Nat.le_succ _) (fun _ => rfl) hlv1_1 ?_
    refine fx_i2 aj_d4 rfl (Nat.le_succ _) (fun _ => rfl) hlv1_0 ?_
    refine fx_gF aj_d4 rfl (Nat.le_succ _) rfl rfl fx_in_7_1 (t := (p0 + 2)) rfl (fun hA3 => ?_)
    refine fx_al aj_d4 rfl (Nat.le_succ _) ?_
    rw [(hA3 : X.2.2.2.1 (p0 + 2) = (0, 8))]
    show fx_W _ _ _ 10 lv1 [.int (Int32.ofNat 8), .int p1] _ _
    refine fx_b (tgt := 22) aj_d4 rfl (Nat.le_succ _) rfl (fun q4 => ?_) (fun q4 => ?_)
    · skip
      refine fx_qe (c := (p1).toInt < 8) (fx_t_ge q4) ?_
      show fx_W _ _ _ 22 lv1 [] _ _
      refine fx_n (pc' := 23) (lv' := lv1) (st' := [.int (Int32.ofInt 0)]) aj_d4 rfl (Nat.le_succ _) (fun _ => rfl) ?_
      exact fx_ri aj_d4 rfl ⟨_, rfl, 0, rfl, rfl⟩
    · skip
      refine fx_qi (c := (p1).toInt < 8) (fx_f_ge q4) ?_
      show fx_W _ _ _ 13 lv1 [] _ _
      refine fx_i2 aj_d4 rfl (Nat.le_succ _) (fun _ => rfl) hlv1_0 ?_
      refine fx_gF aj_d4 rfl (Nat.le_succ _) rfl rfl fx_in_7_1 (t := (p0 + 2)) rfl (fun hA5 => ?_)
      refine fx_i0 aj_d4 rfl (Nat.le_succ _) (fun _ => rfl) hlv1_1 ?_
      refine fx_ld aj_d4 (Or.inl rfl) rfl (Nat.le_succ _) (fun g60 g61 => ?_)
      show fx_W _ _ _ 19 lv1 [.int (X.1 (p0 + 2) (p1).toInt.toNat)] _ _
      refine fx_qa (c := 0 ≤ (p1).toInt ∧ (p1).toInt < ((8 : Nat) : Int)) ⟨g60, fx_lnk g61 hA5⟩ ?_
      refine fx_n (pc' := 23) (lv' := lv1) (st' := [.int (X.1 (p0 + 2) (p1).toInt.toNat)]) aj_d4 rfl (Nat.le_succ _) (fun _ => rfl) ?_
      exact fx_ri aj_d4 rfl ⟨_, rfl, 0, rfl, rfl⟩
def gx_5 (p0 : Nat) (p1 : Int32) (p2 : Int32) (p3 : Int32) (X : fx_X) (v : Unit) (X' : fx_X) : Prop :=
  ∃ x2 : Int32, x2 = ((p1 * ((Int8.ofInt 8).toInt32)) + p2) ∧ (if (x2).toInt < 0 then (X' = X) else ((if (x2).toInt < 8192 then ((if (p3).toInt < 0 then (X' = X) else ((if (p3).toInt < 512 then ((0 ≤ (p3).toInt ∧ (p3).toInt < ((512 : Nat) : Int)) ∧ (0 ≤ (x2).toInt ∧ (x2).toInt < ((8192 : Nat) : Int)) ∧ ∃ X14 : fx_X, X14 = (fx_wI X (p0 + 4) (x2).toInt.toNat (X.1 (p0 + 3) (p3).toInt.toNat)) ∧ X' = X14) else (X' = X))))) else (X' = X))))
theorem gx_5_ok {tb : aj_T} (p0 : Nat) (p1 : Int32) (p2 : Int32) (p3 : Int32) {X : fx_X} : fx_K tb 5 [.ref p0, .int p1, .int p2, .int p3] X (fx_Q fx_qN (fun v X' => gx_5 p0 p1 p2 p3 X v X')) := by
  refine fx_m aj_m5_at rfl (fun N => ?_)
  refine fx_mono (Q := fx_Q fx_qN (fun v X' => ∃ n : Nat, gx_5 p0 p1 p2 p3 X v X')) (fun r X' ⟨v, e, _, z⟩ => ⟨v, e, z⟩) ?_
  unfold gx_5
  show fx_W _ _ _ 0 [(0, .ref p0), (1, .int p1), (2, .int p2), (3, .int p3)] [] _ _
  obtain ⟨lv1, elv1⟩ : ∃ l : aj_V, l = [(0, .ref p0), (1, .int p1), (2, .int p2), (3, .int p3)] := ⟨_, rfl⟩
  rw [← elv1]
  have hlv1_0 : aj_lv lv1 0 = some (.ref p0) := by rw [elv1]; rfl
  have hlv1_1 : aj_lv lv1 1 = some (.int p1) := by rw [elv1]; rfl
  have hlv1_2 : aj_lv lv1 2 = some (.int p2) := by rw [elv1]; rfl
  have hlv1_3 : aj_lv lv1 3 = some (.int p3) := by rw [elv1]; rfl
  refine fx_i0 aj_d5 rfl (Nat.le_succ _) (fun _ => rfl) hlv1_1 ?_
  refine fx_n (pc' := 3) (lv' := lv1) (st' := [.int ((Int8.ofInt 8).toInt32), .int p1]) aj_d5 rfl (Nat.le_succ _) (fun _ => rfl) ?_
  refine fx_n (pc' := 4) (lv' := lv1) (st' := [.int (p1 * ((Int8.ofInt 8).toInt32))]) aj_d5 rfl (Nat.le_succ _) (fun _ => rfl) ?_
  refine fx_i0 aj_d5 rfl (Nat.le_succ _) (fun _ => rfl) hlv1_2 ?_
  refine fx_n (pc' := 6) (lv' := lv1) (st' := [.int ((p1 * ((Int8.ofInt 8).toInt32)) + p2)]) aj_d5 rfl (Nat.le_succ _) (fun _ => rfl) ?_
  refine fx_qxI (fun x2 ex2 => ?_)
  refine fx_s0 (j := 4) aj_d5 rfl (Nat.le_succ _) (by decide) (fun _ => rfl) ?_
  obtain ⟨lv3, elv3⟩ : ∃ l, l = aj_set1 lv1 4 (.int x2) := ⟨_, rfl⟩
  rw [← elv3]
  have hlv3_0 : aj_lv lv3 0 = some (.ref p0) := fx_e1 elv3 hlv1_0 (by decide) (Or.inl (by decide))
  have hlv3_3 : aj_lv lv3 3 = some (.int p3) := fx_e1 elv3 hlv1_3 (by decide) (Or.inr rfl)
  have hlv3_4 : aj_lv lv3 4 = some (.int x2) := by rw [elv3]; exact ak_set1_eq _ _ _
  show fx_W _ _ _ 8 lv3 [] _ _
  refine fx_i0 aj_d5 rfl (Nat.le_succ _) (fun _ => rfl) hlv3_4 ?_
  refine fx_b0 (tgt := 49) aj_d5 rfl (Nat.le_succ _) rfl (fun q4 => ?_) (fun q4 => ?_)
  · skip
    refine fx_qi (c := (x2).toInt < 0) (fx_t_lt q4) ?_
    show fx_W _ _ _ 49 lv3 [] _ _
    exact fx_rn aj_d5 rfl ⟨(), rfl, 0, rfl⟩
  · skip
    refine fx_qe (c := (x2).toInt < 0) (fx_f_lt q4) ?_
    show fx_W _ _ _ 13 lv3 [] _ _
    refine fx_i0 aj_d5 rfl (Nat.le_succ _) (fun _ => rfl) hlv3_4 ?_
    refine fx_i2 aj_d5 rfl (Nat.le_succ _) (fun _ => rfl) hlv3_0 ?_
    refine fx_gF aj_d5 rfl (Nat.le_succ _) rfl rfl fx_in_7_3 (t := (p0 + 4)) rfl (fun hA5 => ?_)
    refine fx_al aj_d5 rfl (Nat.le_succ _) ?_
    rw [(hA5 : X.2.2.2.1 (p0 + 4) = (0, 8192))]
    show fx_W _ _ _ 20 lv3 [.int (Int32.ofNat 8192), .int x2] _ _
    refine fx_b (tgt := 49) aj_d5 rfl (Nat.le_succ _) rfl (fun q6 => ?_) (fun q6 => ?_)
    · skip
      refine fx_qe (c := (x2).toInt < 8192) (fx_t_ge q6) ?_
      show fx_W _ _ _ 49 lv3 [] _ _
      exact fx_rn aj_d5 rfl ⟨(), rfl, 0, rfl⟩
    · skip
      refine fx_qi (c := (x2).toInt < 8192) (fx_f_ge q6) ?_
      show fx_W _ _ _ 23 lv3 [] _ _
      refine fx_i0 aj_d5 rfl (Nat.le_succ _) (fun _ => rfl) hlv3_3 ?_
      refine fx_b0 (tgt := 49) aj_d5 rfl (Nat.le_succ _) rfl (fun q7 => ?_) (fun q7 => ?_)
      · skip
        refine fx_qi (c := (p3).toInt < 0) (fx_t_lt q7) ?_
        show fx_W _ _ _ 49 lv3 [] _ _
        exact fx_rn aj_d5 rfl ⟨(), rfl, 0, rfl⟩
      · skip
        refine fx_qe (c := (p3).toInt < 0) (fx_f_lt q7) ?_
        show fx_W _ _ _ 27 lv3 [] _ _
        refine fx_i0 aj_d5 rfl (Nat.le_succ _) (fun _ => rfl) hlv3_3 ?_
        refine fx_i2 aj_d5 rfl (Nat.le_succ _) (fun _ => rfl) hlv3_0 ?_
        refine fx_gF aj_d5 rfl (Nat.le_succ _) rfl rfl fx_in_7_2 (t := (p0 + 3)) rfl (fun hA8 => ?_)
        refine fx_al aj_d5 rfl (Nat.le_succ _) ?_
        rw [(hA8 : X.2.2.2.1 (p0 + 3) = (0, 512))]
        show fx_W _ _ _ 33 lv3 [.int (Int32.ofNat 512), .int p3] _ _
        refine fx_b (tgt := 49) aj_d5 rfl (Nat.le_succ _) rfl (fun q9 => ?_) (fun q9 => ?_)
        · skip
          refine fx_qe (c := (p3).toInt < 512) (fx_t_ge q9) ?_
          show fx_W _ _ _ 49 lv3 [] _ _
          exact fx_rn aj_d5 rfl ⟨(), rfl, 0, rfl⟩
        · skip
          refine fx_qi (c := (p3).toInt < 512) (fx_f_ge q9) ?_
          show fx_W _ _ _ 36 lv3 [] _ _
          refine fx_i2 aj_d5 rfl (Nat.le_succ _) (fun _ => rfl) hlv3_0 ?_
          refine fx_gF aj_d5 rfl (Nat.le_succ _) rfl rfl fx_in_7_3 (t := (p0 + 4)) rfl (fun hA10 => ?_)
          refine fx_i0 aj_d5 rfl (Nat.le_succ _) (fun _ => rfl) hlv3_4 ?_
          refine fx_i2 aj_d5 rfl (Nat.le_succ _) (fun _ => rfl) hlv3_0 ?_
          refine fx_gF aj_d5 rfl (Nat.le_succ _) rfl rfl fx_in_7_2 (t := (p0 + 3)) rfl (fun hA11 => ?_)
          refine fx_i0 aj_d5 rfl (Nat.le_succ _) (fun _ => rfl) hlv3_3 ?_
          refine fx_ld aj_d5 (Or.inl rfl) rfl (Nat.le_succ _) (fun g120 g121 => ?_)
          show fx_W _ _ _ 48 lv3 [.int (X.1 (p0 + 3) (p3).toInt.toNat), .int x2, .ref (p0 + 4)] _ _
          refine fx_qa (c := 0 ≤ (p3).toInt ∧ (p3).toInt < ((512 : Nat) : Int)) ⟨g120, fx_lnk g121 hA11⟩ ?_
          refine fx_st aj_d5 (Or.inl ⟨rfl, rfl⟩) rfl (Nat.le_succ _) (fun g130 g131 => ?_)
          show fx_W _ _ _ _ _ _ (fx_wI X (p0 + 4) (x2).toInt.toNat (X.1 (p0 + 3) (p3).toInt.toNat)) _
          refine fx_qa (c := 0 ≤ (x2).toInt ∧ (x2).toInt < ((8192 : Nat) : Int)) ⟨g130, fx_lnk g131 hA10⟩ ?_
          refine fx_qX (fun X14 eX14 => ?_)
          show fx_W _ _ _ 49 lv3 [] _ _
          exact fx_rn aj_d5 rfl ⟨(), rfl, 0, rfl⟩
def gxT_3_2 (p0 : Nat) (P : Nat → List Int32 → List Int64 → List Nat → fx_X → Unit → fx_X → Prop) (y1 : Int32) (X : fx_X) (v : Unit) (X' : fx_X) : Prop :=
  (if (y1).toInt < ((X.1 p0 13)).toInt then ((if (y1).toInt < 1024 then ((0 ≤ (y1).toInt ∧ (y1).toInt < ((1024 : Nat) : Int)) ∧ ∃ X12 : fx_X, X12 = (fx_wI X (p0 + 5) (y1).toInt.toNat (Int32.ofInt 0)) ∧ ∃ x14 : Int32, x14 = ((X12.1 p0 11) - (Int32.ofInt 1)) ∧ P 35 [y1, y1, x14] [] [] X12 v X') else (∃ (w9 : Unit) (X8 : fx_X), gx_6 p0 X w9 X8 ∧ X' = X8))) else (∃ (w5 : Unit) (X4 : fx_X), gx_6 p0 X w5 X4 ∧ X' = X4))
def gxT_3_35 (p0 : Nat) (P : Nat → List Int32 → List Int64 → List Nat → fx_X → Unit → fx_X → Prop) (y1 : Int32) (y2 : Int32) (y3 : Int32) (X : fx_X) (v : Unit) (X' : fx_X) : Prop :=
  (if (y3).toInt < 0 then (∃ x17 : Int32, x17 = y1 + Int32.ofInt 1 ∧ P 2 [x17] [] [] X v X') else (∃ (w20 : Int32) (X19 : fx_X), gx_4 p0 y3 X w20 X19 ∧ (if 0 < (w20).toInt then (w20 ≠ 0 ∧ ∃ (w27 : Unit) (X26 : fx_X), gx_5 p0 y1 y3 ((y3 * ((Int8.ofInt 64).toInt32)) + (y2 - y2 / w20 * w20)) X19 w27 X26 ∧ w20 ≠ 0 ∧ ∃ x29 : Int32, x29 = (y2 / w20) ∧ ∃ x31 : Int32, x31 = y3 + Int32.ofInt (-1) ∧ P 35 [y1, x29, x31] [] [] X26 v X') else (∃ x23 : Int32, x23 = y3 + Int32.ofInt (-1) ∧ P 35 [y1, y2, x23] [] [] X19 v X'))))
def gxE_3 (p0 : Nat) (P : Nat → List Int32 → List Int64 → List Nat → fx_X → Unit → fx_X → Prop) (X : fx_X) (v : Unit) (X' : fx_X) : Prop :=
  P 2 [(Int32.ofInt 0)] [] [] X v X'
noncomputable def gxF_3 (p0 : Nat) (n : Nat) : Nat → List Int32 → List Int64 → List Nat → fx_X → Unit → fx_X → Prop := Nat.rec (motive := fun _ => Nat → List Int32 → List Int64 → List Nat → fx_X → Unit → fx_X → Prop) (fun _ _ _ _ _ _ _ => False) (fun _ P l is ls rs X v X' => (l = 2 ∧ ∃ (y1 : Int32), is = [y1] ∧ ls = [] ∧ rs = [] ∧ gxT_3_2 p0 P y1 X v X') ∨ (l = 35 ∧ ∃ (y1 : Int32) (y2 : Int32) (y3 : Int32), is = [y1, y2, y3] ∧ ls = [] ∧ rs = [] ∧ gxT_3_35 p0 P y1 y2 y3 X v X')) n
theorem gxI_3_2 {p0 : Nat} {n : Nat} {y1 : Int32} {X : fx_X} {v : Unit} {X' : fx_X} (h : gxT_3_2 p0 (gxF_3 p0 n) y1 X v X') : gxF_3 p0 (n + 1) 2 [y1] [] [] X v X' := Or.inl ⟨rfl, y1, rfl, rfl, rfl, h⟩
theorem gxO_3_2 {p0 : Nat} {n : Nat} {y1 : Int32} {X : fx_X} {v : Unit} {X' : fx_X} (h : gxF_3 p0 (n + 1) 2 [y1] [] [] X v X') : gxT_3_2 p0 (gxF_3 p0 n) y1 X v X' := by
  rcases h with ⟨-, _, e1, e2, e3, h⟩ | ⟨e, -⟩
  · cases e1; cases e2; cases e3; exact h
  · exact absurd e (by decide)
theorem gxI_3_35 {p0 : Nat} {n : Nat} {y1 : Int32} {y2 : Int32} {y3 : Int32} {X : fx_X} {v : Unit} {X' : fx_X} (h : gxT_3_35 p0 (gxF_3 p0 n) y1 y2 y3 X v X') : gxF_3 p0 (n + 1) 35 [y1, y2, y3] [] [] X v X' := Or.inr (⟨rfl, y1, y2, y3, rfl, rfl, rfl, h⟩)
theorem gxO_3_35 {p0 : Nat} {n : Nat} {y1 : Int32} {y2 : Int32} {y3 : Int32} {X : fx_X} {v : Unit} {X' : fx_X} (h : gxF_3 p0 (n + 1) 35 [y1, y2, y3] [] [] X v X') : gxT_3_35 p0 (gxF_3 p0 n) y1 y2 y3 X v X' := by
  rcases h with ⟨e, -⟩ | ⟨-, _, _, _, e1, e2, e3, h⟩
  · exact absurd e (by decide)
  · cases e1; cases e2; cases e3; exact h
def gx_3 (p0 : Nat) (X : fx_X) (v : Unit) (X' : fx_X) : Prop := ∃ n : Nat, gxE_3 p0 (gxF_3 p0 n) X v X'
theorem gxL_3 {tb : aj_T} (p0 : Nat) : ∀ N : Nat, (∀ (lv : aj_V) (y1 : Int32) (X : fx_X), aj_lv lv 0 = some (.ref p0) → aj_lv lv 1 = some (.int y1) → fx_W tb aj_m3 N 2 lv [] X (fx_Q fx_qN (fun v X' => ∃ n : Nat, gxF_3 p0 n 2 [y1] [] [] X v X'))) ∧ (∀ (lv : aj_V) (y1 : Int32) (y2 : Int32) (y3 : Int32) (X : fx_X), aj_lv lv 0 = some (.ref p0) → aj_lv lv 1 = some (.int y1) → aj_lv lv 2 = some (.int y2) → aj_lv lv 3 = some (.int y3) → fx_W tb aj_m3 N 35 lv [] X (fx_Q fx_qN (fun v X' => ∃ n : Nat, gxF_3 p0 n 35 [y1, y2, y3] [] [] X v X'))) := by
  intro N
  induction N with
  | zero => exact ⟨(by intros; exact fx_z), (by intros; exact fx_z)⟩
  | succ N ih =>
    refine ⟨?_, ?_⟩
    · intro lv y1 X hlv_0 hlv_1
      refine fx_mono (Q := fx_Q fx_qN (fun v X' => ∃ n : Nat, gxT_3_2 p0 (gxF_3 p0 n) y1 X v X')) (fun r X' ⟨v, e, n, z⟩ => ⟨v, e, n + 1, gxI_3_2 z⟩) ?_
      unfold gxT_3_2
      refine fx_i0 aj_d3 rfl (Nat.le_refl _) (fun _ => rfl) hlv_1 ?_
      refine fx_i2 aj_d3 rfl (Nat.le_succ _) (fun _ => rfl) hlv_0 ?_
      refine fx_gI aj_d3 rfl (Nat.le_succ _) rfl rfl (Or.inl rfl) ?_
      refine fx_b (tgt := 83) aj_d3 rfl (Nat.le_succ _) rfl (fun q3 => ?_) (fun q3 => ?_)
      · skip
        refine fx_qe (c := (y1).toInt < ((X.1 p0 13)).toInt) (fx_t_ge q3) ?_
        show fx_W _ _ _ 83 lv [] _ _
        refine fx_i2 aj_d3 rfl (Nat.le_succ _) (fun _ => rfl) hlv_0 ?_
        refine fx_cv aj_d3 rfl (Nat.le_succ _) rfl [] rfl rfl (gx_6_ok p0) ?_
        rintro _ X4 ⟨w5, rfl, hR4⟩ hok4 hle4
        refine fx_qc hR4 ?_
        show fx_W _ _ _ 87 lv [] _ _
        exact fx_rn aj_d3 rfl ⟨(), rfl, 0, rfl⟩
      · skip
        refine fx_qi (c := (y1).toInt < ((X.1 p0 13)).toInt) (fx_f_ge q3) ?_
        show fx_W _ _ _ 10 lv [] _ _
        refine fx_i0 aj_d3 rfl (Nat.le_succ _) (fun _ => rfl) hlv_1 ?_
        refine fx_i2 aj_d3 rfl (Nat.le_succ _) (fun _ => rfl) hlv_0 ?_
        refine fx_gF aj_d3 rfl (Nat.le_succ _) rfl rfl fx_in_7_4 (t := (p0 + 5)) rfl (fun hA6 => ?_)
        refine fx_al aj_d3 rfl (Nat.le_succ _) ?_
        rw [(hA6 : X.2.2.2.1 (p0 + 5) = (0, 1024))]
        show fx_W _ _ _ 16 lv [.int (Int32.ofNat 1024), .int y1] _ _
        refine fx_b (tgt := 83) aj_d3 rfl (Nat.le_succ _) rfl (fun q7 => ?_) (fun q7 => ?_)
        · skip
          refine fx_qe (c := (y1).toInt < 1024) (fx_t_ge q7) ?_
          show fx_W _ _ _ 83 lv [] _ _
          refine fx_i2 aj_d3 rfl (Nat.le_succ _) (fun _ => rfl) hlv_0 ?_
          refine fx_cv aj_d3 rfl (Nat.le_succ _) rfl [] rfl rfl (gx_6_ok p0) ?_
          rintro _ X8 ⟨w9, rfl, hR8⟩ hok8 hle8
          refine fx_qc hR8 ?_
          show fx_W _ _ _ 87 lv [] _ _
          exact fx_rn aj_d3 rfl ⟨(), rfl, 0, rfl⟩
        · skip
          refine fx_qi (c := (y1).toInt < 1024) (fx_f_ge q7) ?_
          show fx_W _ _ _ 19 lv [] _ _
          refine fx_i2 aj_d3 rfl (Nat.le_succ _) (fun _ => rfl) hlv_0 ?_
          refine fx_gF aj_d3 rfl (Nat.le_succ _) rfl rfl fx_in_7_4 (t := (p0 + 5)) rfl (fun hA10 => ?_)
          refine fx_i0 aj_d3 rfl (Nat.le_succ _) (fun _ => rfl) hlv_1 ?_
          refine fx_n (pc' := 25) (lv' := lv) (st' := [.int (Int32.ofInt 0), .int y1, .ref (p0 + 5)]) aj_d3 rfl (Nat.le_succ _) (fun _ => rfl) ?_
          refine fx_st aj_d3 (Or.inl ⟨rfl, rfl⟩) rfl (Nat.le_succ _) (fun g110 g111 => ?_)
          show fx_W _ _ _ _ _ _ (fx_wI X (p0 + 5) (y1).toInt.toNat (Int32.ofInt 0)) _
          refine fx_qa (c := 0 ≤ (y1).toInt ∧ (y1).toInt < ((1024 : Nat) : Int)) ⟨g110, fx_lnk g111 hA10⟩ ?_
          refine fx_qX (fun X12 eX12 => ?_)
          show fx_W _ _ _ 26 lv [] _ _
          refine fx_i0 aj_d3 rfl (Nat.le_succ _) (fun _ => rfl) hlv_1 ?_
          refine fx_s0 (j := 2) aj_d3 rfl (Nat.le_succ _) (by decide) (fun _ => rfl) ?_
          obtain ⟨lv13, elv13⟩ : ∃ l, l = aj_set1 lv 2 (.int y1) := ⟨_, rfl⟩
          rw [← elv13]
          have hlv13_0 : aj_lv lv13 0 = some (.ref p0) := fx_e1 elv13 hlv_0 (by decide) (Or.inl (by decide))
          have hlv13_1 : aj_lv lv13 1 = some (.int y1) := fx_e1 elv13 hlv_1 (by decide) (Or.inr rfl)
          have hlv13_2 : aj_lv lv13 2 = some (.int y1) := by rw [elv13]; exact ak_set1_eq _ _ _
          show fx_W _ _ _ 28 lv13 [] _ _
          refine fx_i2 aj_d3 rfl (Nat.le_succ _) (fun _ => rfl) hlv13_0 ?_
          refine fx_gI aj_d3 rfl (Nat.le_succ _) rfl rfl (Or.inl rfl) ?_
          refine fx_n (pc' := 33) (lv' := lv13) (st' := [.int (Int32.ofInt 1), .int (X12.1 p0 11)]) aj_d3 rfl (Nat.le_succ _) (fun _ => rfl) ?_
          refine fx_n (pc' := 34) (lv' := lv13) (st' := [.int ((X12.1 p0 11) - (Int32.ofInt 1))]) aj_d3 rfl (Nat.le_succ _) (fun _ => rfl) ?_
          refine fx_qxI (fun x14 ex14 => ?_)
          refine fx_s0 (j := 3) aj_d3 rfl (Nat.le_succ _) (by decide) (fun _ => rfl) ?_
          obtain ⟨lv15, elv15⟩ : ∃ l, l = aj_set1 lv13 3 (.int x14) := ⟨_, rfl⟩
          rw [← elv15]
          have hlv15_0 : aj_lv lv15 0 = some (.ref p0) := fx_e1 elv15 hlv13_0 (by decide) (Or.inl (by decide))
          have hlv15_1 : aj_lv lv15 1 = some (.int y1) := fx_e1 elv15 hlv13_1 (by decide) (Or.inl (by decide))
          have hlv15_2 : aj_lv lv15 2 = some (.int y1) := fx_e1 elv15 hlv13_2 (by decide) (Or.inr rfl)
          have hlv15_3 : aj_lv lv15 3 = some (.int x14) := by rw [elv15]; exact ak_set1_eq _ _ _
          show fx_W _ _ _ 35 lv15 [] _ _
          exact (ih.2) lv15 (y1) (y1) (x14) X12  hlv15_0 hlv15_1 hlv15_2 hlv15_3
    · intro lv y1 y2 y3 X hlv_0 hlv_1 hlv_2 hlv_3
      refine fx_mono (Q := fx_Q fx_qN (fun v X' => ∃ n : Nat, gxT_3_35 p0 (gxF_3 p0 n) y1 y2 y3 X v X')) (fun r X' ⟨v, e, n, z⟩ => ⟨v, e, n + 1, gxI_3_35 z⟩) ?_
      unfold gxT_3_35
      refine fx_i0 aj_d3 rfl (Nat.le_refl _) (fun _ => rfl) hlv_3 ?_
      refine fx_b0 (tgt := 77) aj_d3 rfl (Nat.le_succ _) rfl (fun q16 => ?_) (fun q16 => ?_)
      · skip
        refine fx_qi (c := (y3).toInt < 0) (fx_t_lt q16) ?_
        show fx_W _ _ _ 77 lv [] _ _
        refine fx_incq aj_d3 rfl (Nat.le_succ _) hlv_1 (by decide) (fun x17 ex17 => ?_)
        obtain ⟨lv18, elv18⟩ : ∃ l, l = aj_set1 lv 1 (.int x17) := ⟨_, rfl⟩
        rw [← elv18]
        have hlv18_0 : aj_lv lv18 0 = some (.ref p0) := fx_e1 elv18 hlv_0 (by decide) (Or.inr rfl)
        have hlv18_1 : aj_lv lv18 1 = some (.int x17) := by rw [elv18]; exact ak_set1_eq _ _ _
        show fx_W _ _ _ 80 lv18 [] _ _
        refine fx_n (pc' := 2) (lv' := lv18) (st' := []) aj_d3 rfl (Nat.le_succ _) (fun _ => rfl) ?_
        exact (ih.1) lv18 (x17) X  hlv18_0 hlv18_1
      · skip
        refine fx_qe (c := (y3).toInt < 0) (fx_f_lt q16) ?_
        show fx_W _ _ _ 39 lv [] _ _
        refine fx_i2 aj_d3 rfl (Nat.le_succ _) (fun _ => rfl) hlv_0 ?_
        refine fx_i0 aj_d3 rfl (Nat.le_succ _) (fun _ => rfl) hlv_3 ?_
        refine fx_cv aj_d3 rfl (Nat.le_succ _) rfl [_] rfl rfl (gx_4_ok p0 y3) ?_
        rintro _ X19 ⟨w20, rfl, hR19⟩ hok19 hle19
        refine fx_qc hR19 ?_
        show fx_W _ _ _ 44 lv [.int w20] _ _
        refine fx_s0 (j := 4) aj_d3 rfl (Nat.le_succ _) (by decide) (fun _ => rfl) ?_
        obtain ⟨lv21, elv21⟩ : ∃ l, l = aj_set1 lv 4 (.int w20) := ⟨_, rfl⟩
        rw [← elv21]
        have hlv21_0 : aj_lv lv21 0 = some (.ref p0) := fx_e1 elv21 hlv_0 (by decide) (Or.inl (by decide))
        have hlv21_1 : aj_lv lv21 1 = some (.int y1) := fx_e1 elv21 hlv_1 (by decide) (Or.inl (by decide))
        have hlv21_2 : aj_lv lv21 2 = some (.int y2) := fx_e1 elv21 hlv_2 (by decide) (Or.inl (by decide))
        have hlv21_3 : aj_lv lv21 3 = some (.int y3) := fx_e1 elv21 hlv_3 (by decide) (Or.inr rfl)
        have hlv21_4 : aj_lv lv21 4 = some (.int w20) := by rw [elv21]; exact ak_set1_eq _ _ _
        show fx_W _ _ _ 46 lv21 [] _ _
        refine fx_i0 aj_d3 rfl (Nat.le_succ _) (fun _ => rfl) hlv21_4 ?_
        refine fx_b0 (tgt := 71) aj_d3 rfl (Nat.le_succ _) rfl (fun q22 => ?_) (fun q22 => ?_)
        · skip
          refine fx_qe (c := 0 < (w20).toInt) (fx_t_le q22) ?_
          show fx_W _ _ _ 71 lv21 [] _ _
          refine fx_incq aj_d3 rfl (Nat.le_succ _) hlv21_3 (by decide) (fun x23 ex23 => ?_)
          obtain ⟨lv24, elv24⟩ : ∃ l, l = aj_set1 lv21 3 (.int x23) := ⟨_, rfl⟩
          rw [← elv24]
          have hlv24_0 : aj_lv lv24 0 = some (.ref p0) := fx_e1 elv24 hlv21_0 (by decide) (Or.inl (by decide))
          have hlv24_1 : aj_lv lv24 1 = some (.int y1) := fx_e1 elv24 hlv21_1 (by decide) (Or.inl (by decide))
          have hlv24_2 : aj_lv lv24 2 = some (.int y2) := fx_e1 elv24 hlv21_2 (by decide) (Or.inr rfl)
          have hlv24_3 : aj_lv lv24 3 = some (.int x23) := by rw [elv24]; exact ak_set1_eq _ _ _
          show fx_W _ _ _ 74 lv24 [] _ _
          refine fx_n (pc' := 35) (lv' := lv24) (st' := []) aj_d3 rfl (Nat.le_succ _) (fun _ => rfl) ?_
          exact (ih.2) lv24 (y1) (y2) (x23) X19  hlv24_0 hlv24_1 hlv24_2 hlv24_3
        · skip
          refine fx_qi (c := 0 < (w20).toInt) (fx_f_le q22) ?_
          show fx_W _ _ _ 51 lv21 [] _ _
          refine fx_i2 aj_d3 rfl (Nat.le_succ _) (fun _ => rfl) hlv21_0 ?_
          refine fx_i0 aj_d3 rfl (Nat.le_succ _) (fun _ => rfl) hlv21_1 ?_
          refine fx_i0 aj_d3 rfl (Nat.le_succ _) (fun _ => rfl) hlv21_3 ?_
          refine fx_i0 aj_d3 rfl (Nat.le_succ _) (fun _ => rfl) hlv21_3 ?_
          refine fx_n (pc' := 57) (lv' := lv21) (st' := [.int ((Int8.ofInt 64).toInt32), .int y3, .int y3, .int y1, .ref p0]) aj_d3 rfl (Nat.le_succ _) (fun _ => rfl) ?_
          refine fx_n (pc' := 58) (lv' := lv21) (st' := [.int (y3 * ((Int8.ofInt 64).toInt32)), .int y3, .int y1, .ref p0]) aj_d3 rfl (Nat.le_succ _) (fun _ => rfl) ?_
          refine fx_i0 aj_d3 rfl (Nat.le_succ _) (fun _ => rfl) hlv21_2 ?_
          refine fx_i0 aj_d3 rfl (Nat.le_succ _) (fun _ => rfl) hlv21_4 ?_
          refine fx_rm aj_d3 rfl (Nat.le_succ _) (fun q25 => ?_)
          refine fx_qa (c := w20 ≠ 0) q25 ?_
          refine fx_n (pc' := 63) (lv' := lv21) (st' := [.int ((y3 * ((Int8.ofInt 64).toInt32)) + (y2 - y2 / w20 * w20)), .int y3, .int y1, .ref p0]) aj_d3 rfl (Nat.le_succ _) (fun _ => rfl) ?_
          refine fx_cv aj_d3 rfl (Nat.le_succ _) rfl [_, _, _] rfl rfl (gx_5_ok p0 y1 y3 ((y3 * ((Int8.ofInt 64).toInt32)) + (y2 - y2 / w20 * w20))) ?_
          rintro _ X26 ⟨w27, rfl, hR26⟩ hok26 hle26
          refine fx_qc hR26 ?_
          show fx_W _ _ _ 66 lv21 [] _ _
          refine fx_i0 aj_d3 rfl (Nat.le_succ _) (fun _ => rfl) hlv21_2 ?_
          refine fx_i0 aj_d3 rfl (Nat.le_succ _) (fun _ => rfl) hlv21_4 ?_
          refine fx_dv aj_d3 rfl (Nat.le_succ _) (fun q28 => ?_)
          refine fx_qa (c := w20 ≠ 0) q28 ?_
          refine fx_qxI (fun x29 ex29 => ?_)
          refine fx_s0 (j := 2) aj_d3 rfl (Nat.le_succ _) (by decide) (fun _ => rfl) ?_
          obtain ⟨lv30, elv30⟩ : ∃ l, l = aj_set1 lv21 2 (.int x29) := ⟨_, rfl⟩
          rw [← elv30]
          have hlv30_0 : aj_lv lv30 0 = some (.ref p0) := fx_e1 elv30 hlv21_0 (by decide) (Or.inl (by decide))
          have hlv30_1 : aj_lv lv30 1 = some (.int y1) := fx_e1 elv30 hlv21_1 (by decide) (Or.inr rfl)
          have hlv30_3 : aj_lv lv30 3 = some (.int y3) := fx_e1 elv30 hlv21_3 (by decide) (Or.inl (by decide))
          have hlv30_2 : aj_lv lv30 2 = some (.int x29) := by rw [elv30]; exact ak_set1_eq _ _ _
          show fx_W _ _ _ 71 lv30 [] _ _
          refine fx_incq aj_d3 rfl (Nat.le_succ _) hlv30_3 (by decide) (fun x31 ex31 => ?_)
          obtain ⟨lv32, elv32⟩ : ∃ l, l = aj_set1 lv30 3 (.int x31) := ⟨_, rfl⟩
          rw [← elv32]
          have hlv32_0 : aj_lv lv32 0 = some (.ref p0) := fx_e1 elv32 hlv30_0 (by decide) (Or.inl (by decide))
          have hlv32_1 : aj_lv lv32 1 = some (.int y1) := fx_e1 elv32 hlv30_1 (by decide) (Or.inl (by decide))
          have hlv32_2 : aj_lv lv32 2 = some (.int x29) := fx_e1 elv32 hlv30_2 (by decide) (Or.inr rfl)
          have hlv32_3 : aj_lv lv32 3 = some (.int x31) := by rw [elv32]; exact ak_set1_eq _ _ _
          show fx_W _ _ _ 74 lv32 [] _ _
          refine fx_n (pc' := 35) (lv' := lv32) (st' := []) aj_d3 rfl (Nat.le_succ _) (fun _ => rfl) ?_
          exact (ih.2) lv32 (y1) (x29) (x31) X26  hlv32_0 hlv32_1 hlv32_2 hlv32_3
theorem gx_3_ok {tb : aj_T} (p0 : Nat) {X : fx_X} : fx_K tb 3 [.ref p0] X (fx_Q fx_qN (fun v X' => gx_3 p0 X v X')) := by
  refine fx_m aj_m3_at rfl (fun N => ?_)
  refine fx_mono (Q := fx_Q fx_qN (fun v X' => ∃ n : Nat, gxE_3 p0 (gxF_3 p0 n) X v X')) (fun r X' h => h) ?_
  unfold gxE_3
  show fx_W _ _ _ 0 [(0, .ref p0)] [] _ _
  obtain ⟨lv1, elv1⟩ : ∃ l : aj_V, l = [(0, .ref p0)] := ⟨_, rfl⟩
  rw [← elv1]
  have hlv1_0 : aj_lv lv1 0 = some (.ref p0) := by rw [elv1]; rfl
  refine fx_n (pc' := 1) (lv' := lv1) (st' := [.int (Int32.ofInt 0)]) aj_d3 rfl (Nat.le_succ _) (fun _ => rfl) ?_
  refine fx_s0 (j := 1) aj_d3 rfl (Nat.le_succ _) (by decide) (fun _ => rfl) ?_
  obtain ⟨lv2, elv2⟩ : ∃ l, l = aj_set1 lv1 1 (.int (Int32.ofInt 0)) := ⟨_, rfl⟩
  rw [← elv2]
  have hlv2_0 : aj_lv lv2 0 = some (.ref p0) := fx_e1 elv2 hlv1_0 (by decide) (Or.inr rfl)
  have hlv2_1 : aj_lv lv2 1 = some (.int (Int32.ofInt 0)) := by rw [elv2]; exact ak_set1_eq _ _ _
  show fx_W _ _ _ 2 lv2 [] _ _
  exact ((gxL_3 p0 N).1) lv2 ((Int32.ofInt 0)) X  hlv2_0 hlv2_1
def gxT_17_3 (p1 : Int32) (P : Nat → List Int32 → List Int64 → List Nat → fx_X → Unit → fx_X → Prop) (y2 : Int32) (X : fx_X) (v : Unit) (X' : fx_X) : Prop :=
  (if (y2).toInt < 0 then (X' = X) else ((if ((X.1 52 1)).toInt < 4000 then ((0 ≤ ((X.1 52 1)).toInt ∧ ((X.1 52 1)).toInt < ((4000 : Nat) : Int)) ∧ ∃ X10 : fx_X, X10 = (fx_wI X 53 ((X.1 52 1)).toInt.toNat (aj_nar 3 (((((p1 >>> (y2 &&& 31)) &&& ((Int16.ofInt 255).toInt32))).toUInt32 % 65536).toInt32))) ∧ ∃ X11 : fx_X, X11 = (fx_wI X10 52 1 ((X10.1 52 1) + (Int32.ofInt 1))) ∧ ∃ x12 : Int32, x12 = y2 + Int32.ofInt (-8) ∧ P 3 [x12] [] [] X11 v X') else (∃ x6 : Int32, x6 = y2 + Int32.ofInt (-8) ∧ P 3 [x6] [] [] X v X'))))
def gxE_17 (p1 : Int32) (P : Nat → List Int32 → List Int64 → List Nat → fx_X → Unit → fx_X → Prop) (X : fx_X) (v : Unit) (X' : fx_X) : Prop :=
  P 3 [((Int8.ofInt 24).toInt32)] [] [] X v X'
noncomputable def gxF_17 (p1 : Int32) (n : Nat) : Nat → List Int32 → List Int64 → List Nat → fx_X → Unit → fx_X → Prop := Nat.rec (motive := fun _ => Nat → List Int32 → List Int64 → List Nat → fx_X → Unit → fx_X → Prop) (fun _ _ _ _ _ _ _ => False) (fun _ P l is ls rs X v X' => (l = 3 ∧ ∃ (y2 : Int32), is = [y2] ∧ ls = [] ∧ rs = [] ∧ gxT_17_3 p1 P y2 X v X')) n
theorem gxI_17_3 {p1 : Int32} {n : Nat} {y2 : Int32} {X : fx_X} {v : Unit} {X' : fx_X} (h : gxT_17_3 p1 (gxF_17 p1 n) y2 X v X') : gxF_17 p1 (n + 1) 3 [y2] [] [] X v X' := ⟨rfl, y2, rfl, rfl, rfl, h⟩
theorem gxO_17_3 {p1 : Int32} {n : Nat} {y2 : Int32} {X : fx_X} {v : Unit} {X' : fx_X} (h : gxF_17 p1 (n + 1) 3 [y2] [] [] X v X') : gxT_17_3 p1 (gxF_17 p1 n) y2 X v X' := by
  rcases h with ⟨-, _, e1, e2, e3, h⟩
  · cases e1; cases e2; cases e3; exact h
def gx_17 (p1 : Int32) (X : fx_X) (v : Unit) (X' : fx_X) : Prop := ∃ n : Nat, gxE_17 p1 (gxF_17 p1 n) X v X'
theorem gxL_17 {tb : aj_T} (p1 : Int32) : ∀ N : Nat, (∀ (lv : aj_V) (y2 : Int32) (X : fx_X), aj_lv lv 0 = some (.ref 52) → aj_lv lv 1 = some (.int p1) → aj_lv lv 2 = some (.int y2) → fx_W tb aj_m17 N 3 lv [] X (fx_Q fx_qN (fun v X' => ∃ n : Nat, gxF_17 p1 n 3 [y2] [] [] X v X'))) := by
  intro N
  induction N with
  | zero => exact (by intros; exact fx_z)
  | succ N ih =>
    skip
    · intro lv y2 X hlv_0 hlv_1 hlv_2
      refine fx_mono (Q := fx_Q fx_qN (fun v X' => ∃ n : Nat, gxT_17_3 p1 (gxF_17 p1 n) y2 X v X')) (fun r X' ⟨v, e, n, z⟩ => ⟨v, e, n + 1, gxI_17_3 z⟩) ?_
      unfold gxT_17_3
      refine fx_i0 aj_d17 rfl (Nat.le_refl _) (fun _ => rfl) hlv_2 ?_
      refine fx_b0 (tgt := 52) aj_d17 rfl (Nat.le_succ _) rfl (fun q3 => ?_) (fun q3 => ?_)
      · skip
        refine fx_qi (c := (y2).toInt < 0) (fx_t_lt q3) ?_
        show fx_W _ _ _ 52 lv [] _ _
        exact fx_rn aj_d17 rfl ⟨(), rfl, 0, rfl⟩
      · skip
        refine fx_qe (c := (y2).toInt < 0) (fx_f_lt q3) ?_
        show fx_W _ _ _ 7 lv [] _ _
        refine fx_i2 aj_d17 rfl (Nat.le_succ _) (fun _ => rfl) hlv_0 ?_
        refine fx_gI aj_d17 rfl (Nat.le_succ _) rfl rfl (Or.inl rfl) ?_
        refine fx_i2 aj_d17 rfl (Nat.le_succ _) (fun _ => rfl) hlv_0 ?_
        refine fx_gF aj_d17 rfl (Nat.le_succ _) rfl rfl fx_in_10_0 (t := 53) rfl (fun hA4 => ?_)
        refine fx_al aj_d17 rfl (Nat.le_succ _) ?_
        rw [(hA4 : X.2.2.2.1 53 = (3, 4000))]
        show fx_W _ _ _ 16 lv [.int (Int32.ofNat 4000), .int (X.1 52 1)] _ _
        refine fx_b (tgt := 46) aj_d17 rfl (Nat.le_succ _) rfl (fun q5 => ?_) (fun q5 => ?_)
        · skip
          refine fx_qe (c := ((X.1 52 1)).toInt < 4000) (fx_t_ge q5) ?_
          show fx_W _ _ _ 46 lv [] _ _
          refine fx_incq aj_d17 rfl (Nat.le_succ _) hlv_2 (by decide) (fun x6 ex6 => ?_)
          obtain ⟨lv7, elv7⟩ : ∃ l, l = aj_set1 lv 2 (.int x6) := ⟨_, rfl⟩
          rw [← elv7]
          have hlv7_0 : aj_lv lv7 0 = some (.ref 52) := fx_e1 elv7 hlv_0 (by decide) (Or.inl (by decide))
          have hlv7_1 : aj_lv lv7 1 = some (.int p1) := fx_e1 elv7 hlv_1 (by decide) (Or.inr rfl)
          have hlv7_2 : aj_lv lv7 2 = some (.int x6) := by rw [elv7]; exact ak_set1_eq _ _ _
          show fx_W _ _ _ 49 lv7 [] _ _
          refine fx_n (pc' := 3) (lv' := lv7) (st' := []) aj_d17 rfl (Nat.le_succ _) (fun _ => rfl) ?_
          exact (ih) lv7 (x6) X  hlv7_0 hlv7_1 hlv7_2
        · skip
          refine fx_qi (c := ((X.1 52 1)).toInt < 4000) (fx_f_ge q5) ?_
          show fx_W _ _ _ 19 lv [] _ _
          refine fx_i2 aj_d17 rfl (Nat.le_succ _) (fun _ => rfl) hlv_0 ?_
          refine fx_gF aj_d17 rfl (Nat.le_succ _) rfl rfl fx_in_10_0 (t := 53) rfl (fun hA8 => ?_)
          refine fx_i2 aj_d17 rfl (Nat.le_succ _) (fun _ => rfl) hlv_0 ?_
          refine fx_gI aj_d17 rfl (Nat.le_succ _) rfl rfl (Or.inl rfl) ?_
          refine fx_i0 aj_d17 rfl (Nat.le_succ _) (fun _ => rfl) hlv_1 ?_
          refine fx_i0 aj_d17 rfl (Nat.le_succ _) (fun _ => rfl) hlv_2 ?_
          refine fx_n (pc' := 30) (lv' := lv) (st' := [.int (p1 >>> (y2 &&& 31)), .int (X.1 52 1), .ref 53]) aj_d17 rfl (Nat.le_succ _) (fun _ => rfl) ?_
          refine fx_n (pc' := 33) (lv' := lv) (st' := [.int ((Int16.ofInt 255).toInt32), .int (p1 >>> (y2 &&& 31)), .int (X.1 52 1), .ref 53]) aj_d17 rfl (Nat.le_succ _) (fun _ => rfl) ?_
          refine fx_n (pc' := 34) (lv' := lv) (st' := [.int ((p1 >>> (y2 &&& 31)) &&& ((Int16.ofInt 255).toInt32)), .int (X.1 52 1), .ref 53]) aj_d17 rfl (Nat.le_succ _) (fun _ => rfl) ?_
          refine fx_n (pc' := 35) (lv' := lv) (st' := [.int (((((p1 >>> (y2 &&& 31)) &&& ((Int16.ofInt 255).toInt32))).toUInt32 % 65536).toInt32), .int (X.1 52 1), .ref 53]) aj_d17 rfl (Nat.le_succ _) (fun _ => rfl) ?_
          refine fx_st aj_d17 (Or.inr ⟨rfl, rfl⟩) rfl (Nat.le_succ _) (fun g90 g91 => ?_)
          refine fx_qa (c := 0 ≤ ((X.1 52 1)).toInt ∧ ((X.1 52 1)).toInt < ((4000 : Nat) : Int)) ⟨g90, fx_lnk g91 hA8⟩ ?_
          refine fx_qX (fun X10 eX10 => ?_)
          show fx_W _ _ _ 36 lv [] _ _
          refine fx_i2 aj_d17 rfl (Nat.le_succ _) (fun _ => rfl) hlv_0 ?_
          refine fx_n (pc' := 38) (lv' := lv) (st' := [.ref 52, .ref 52]) aj_d17 rfl (Nat.le_succ _) (fun _ => rfl) ?_
          refine fx_gI aj_d17 rfl (Nat.le_succ _) rfl rfl (Or.inl rfl) ?_
          refine fx_n (pc' := 42) (lv' := lv) (st' := [.int (Int32.ofInt 1), .int (X10.1 52 1), .ref 52]) aj_d17 rfl (Nat.le_succ _) (fun _ => rfl) ?_
          refine fx_n (pc' := 43) (lv' := lv) (st' := [.int ((X10.1 52 1) + (Int32.ofInt 1)), .ref 52]) aj_d17 rfl (Nat.le_succ _) (fun _ => rfl) ?_
          refine fx_pI aj_d17 rfl (Nat.le_succ _) rfl rfl (Or.inl rfl) fx_no_10_1 (by decide) ?_
          refine fx_qX (fun X11 eX11 => ?_)
          show fx_W _ _ _ 46 lv [] _ _
          refine fx_incq aj_d17 rfl (Nat.le_succ _) hlv_2 (by decide) (fun x12 ex12 => ?_)
          obtain ⟨lv13, elv13⟩ : ∃ l, l = aj_set1 lv 2 (.int x12) := ⟨_, rfl⟩
          rw [← elv13]
          have hlv13_0 : aj_lv lv13 0 = some (.ref 52) := fx_e1 elv13 hlv_0 (by decide) (Or.inl (by decide))
          have hlv13_1 : aj_lv lv13 1 = some (.int p1) := fx_e1 elv13 hlv_1 (by decide) (Or.inr rfl)
          have hlv13_2 : aj_lv lv13 2 = some (.int x12) := by rw [elv13]; exact ak_set1_eq _ _ _
          show fx_W _ _ _ 49 lv13 [] _ _
          refine fx_n (pc' := 3) (lv' := lv13) (st' := []) aj_d17 rfl (Nat.le_succ _) (fun _ => rfl) ?_
          exact (ih) lv13 (x12) X11  hlv13_0 hlv13_1 hlv13_2
theorem gx_17_ok {tb : aj_T} (p1 : Int32) {X : fx_X} : fx_K tb 17 [.ref 52, .int p1] X (fx_Q fx_qN (fun v X' => gx_17 p1 X v X')) := by
  refine fx_m aj_m17_at rfl (fun N => ?_)
  refine fx_mono (Q := fx_Q fx_qN (fun v X' => ∃ n : Nat, gxE_17 p1 (gxF_17 p1 n) X v X')) (fun r X' h => h) ?_
  unfold gxE_17
  show fx_W _ _ _ 0 [(0, .ref 52), (1, .int p1)] [] _ _
  obtain ⟨lv1, elv1⟩ : ∃ l : aj_V, l = [(0, .ref 52), (1, .int p1)] := ⟨_, rfl⟩
  rw [← elv1]
  have hlv1_0 : aj_lv lv1 0 = some (.ref 52) := by rw [elv1]; rfl
  have hlv1_1 : aj_lv lv1 1 = some (.int p1) := by rw [elv1]; rfl
  refine fx_n (pc' := 2) (lv' := lv1) (st' := [.int ((Int8.ofInt 24).toInt32)]) aj_d17 rfl (Nat.le_succ _) (fun _ => rfl) ?_
  refine fx_s0 (j := 2) aj_d17 rfl (Nat.le_succ _) (by decide) (fun _ => rfl) ?_
  obtain ⟨lv2, elv2⟩ : ∃ l, l = aj_set1 lv1 2 (.int ((Int8.ofInt 24).toInt32)) := ⟨_, rfl⟩
  rw [← elv2]
  have hlv2_0 : aj_lv lv2 0 = some (.ref 52) := fx_e1 elv2 hlv1_0 (by decide) (Or.inl (by decide))
  have hlv2_1 : aj_lv lv2 1 = some (.int p1) := fx_e1 elv2 hlv1_1 (by decide) (Or.inr rfl)
  have hlv2_2 : aj_lv lv2 2 = some (.int ((Int8.ofInt 24).toInt32)) := by rw [elv2]; exact ak_set1_eq _ _ _
  show fx_W _ _ _ 3 lv2 [] _ _
  exact ((gxL_17 p1 N)) lv2 (((Int8.ofInt 24).toInt32)) X  hlv2_0 hlv2_1 hlv2_2
def gx_16 (p1 : Int32) (p2 : Int32) (p3 : Int32) (p4 : Int32) (p5 : Int32) (X : fx_X) (v : Int32) (X' : fx_X) : Prop :=
  (if 3980 < ((X.1 52 1)).toInt then (v = (Int32.ofInt (-1)) ∧ X' = X) else (∃ (w4 : Unit) (X3 : fx_X), gx_17 p1 X w4 X3 ∧ ∃ (w6 : Unit) (X5 : fx_X), gx_17 p2 X3 w6 X5 ∧ ∃ (w8 : Unit) (X7 : fx_X), gx_17 p3 X5 w8 X7 ∧ ∃ (w10 : Unit) (X9 : fx_X), gx_17 p4 X7 w10 X9 ∧ ∃ (w12 : Unit) (X11 : fx_X), gx_17 p5 X9 w12 X11 ∧ v = (X11.1 52 1) ∧ X' = X11))
theorem gx_16_ok {tb : aj_T} (p1 : Int32) (p2 : Int32) (p3 : Int32) (p4 : Int32) (p5 : Int32) {X : fx_X} : fx_K tb 16 [.ref 52, .int p1, .int p2, .int p3, .int p4, .int p5] X (fx_Q fx_qI (fun v X' => gx_16 p1 p2 p3 p4 p5 X v X')) := by
  refine fx_m aj_m16_at rfl (fun N => ?_)
  refine fx_mono (Q := fx_Q fx_qI (fun v X' => ∃ n : Nat, gx_16 p1 p2 p3 p4 p5 X v X')) (fun r X' ⟨v, e, _, z⟩ => ⟨v, e, z⟩) ?_
  unfold gx_16
  show fx_W _ _ _ 0 [(0, .ref 52), (1, .int p1), (2, .int p2), (3, .int p3), (4, .int p4), (5, .int p5)] [] _ _
  obtain ⟨lv1, elv1⟩ : ∃ l : aj_V, l = [(0, .ref 52), (1, .int p1), (2, .int p2), (3, .int p3), (4, .int p4), (5, .int p5)] := ⟨_, rfl⟩
  rw [← elv1]
  have hlv1_0 : aj_lv lv1 0 = some (.ref 52) := by rw [elv1]; rfl
  have hlv1_1 : aj_lv lv1 1 = some (.int p1) := by rw [elv1]; rfl
  have hlv1_2 : aj_lv lv1 2 = some (.int p2) := by rw [elv1]; rfl
  have hlv1_3 : aj_lv lv1 3 = some (.int p3) := by rw [elv1]; rfl
  have hlv1_4 : aj_lv lv1 4 = some (.int p4) := by rw [elv1]; rfl
  have hlv1_5 : aj_lv lv1 5 = some (.int p5) := by rw [elv1]; rfl
  refine fx_i2 aj_d16 rfl (Nat.le_succ _) (fun _ => rfl) hlv1_0 ?_
  refine fx_gI aj_d16 rfl (Nat.le_succ _) rfl rfl (Or.inl rfl) ?_
  refine fx_n (pc' := 7) (lv' := lv1) (st' := [.int ((Int16.ofInt 3980).toInt32), .int (X.1 52 1)]) aj_d16 rfl (Nat.le_succ _) (fun _ => rfl) ?_
  refine fx_b (tgt := 12) aj_d16 rfl (Nat.le_succ _) rfl (fun q2 => ?_) (fun q2 => ?_)
  · skip
    refine fx_qe (c := 3980 < ((X.1 52 1)).toInt) (fx_t_le q2) ?_
    show fx_W _ _ _ 12 lv1 [] _ _
    refine fx_i2 aj_d16 rfl (Nat.le_succ _) (fun _ => rfl) hlv1_0 ?_
    refine fx_i0 aj_d16 rfl (Nat.le_succ _) (fun _ => rfl) hlv1_1 ?_
    refine fx_cv aj_d16 rfl (Nat.le_succ _) rfl [_] rfl rfl (gx_17_ok p1) ?_
    rintro _ X3 ⟨w4, rfl, hR3⟩ hok3 hle3
    refine fx_qc hR3 ?_
    show fx_W _ _ _ 17 lv1 [] _ _
    refine fx_i2 aj_d16 rfl (Nat.le_succ _) (fun _ => rfl) hlv1_0 ?_
    refine fx_i0 aj_d16 rfl (Nat.le_succ _) (fun _ => rfl) hlv1_2 ?_
    refine fx_cv aj_d16 rfl (Nat.le_succ _) rfl [_] rfl rfl (gx_17_ok p2) ?_
    rintro _ X5 ⟨w6, rfl, hR5⟩ hok5 hle5
    refine fx_qc hR5 ?_
    show fx_W _ _ _ 22 lv1 [] _ _
    refine fx_i2 aj_d16 rfl (Nat.le_succ _) (fun _ => rfl) hlv1_0 ?_
    refine fx_i0 aj_d16 rfl (Nat.le_succ _) (fun _ => rfl) hlv1_3 ?_
    refine fx_cv aj_d16 rfl (Nat.le_succ _) rfl [_] rfl rfl (gx_17_ok p3) ?_
    rintro _ X7 ⟨w8, rfl, hR7⟩ hok7 hle7
    refine fx_qc hR7 ?_
    show fx_W _ _ _ 27 lv1 [] _ _
    refine fx_i2 aj_d16 rfl (Nat.le_succ _) (fun _ => rfl) hlv1_0 ?_
    refine fx_i0 aj_d16 rfl (Nat.le_succ _) (fun _ => rfl) hlv1_4 ?_
    refine fx_cv aj_d16 rfl (Nat.le_succ _) rfl [_] rfl rfl (gx_17_ok p4) ?_
    rintro _ X9 ⟨w10, rfl, hR9⟩ hok9 hle9
    refine fx_qc hR9 ?_
    show fx_W _ _ _ 33 lv1 [] _ _
    refine fx_i2 aj_d16 rfl (Nat.le_succ _) (fun _ => rfl) hlv1_0 ?_
    refine fx_i0 aj_d16 rfl (Nat.le_succ _) (fun _ => rfl) hlv1_5 ?_
    refine fx_cv aj_d16 rfl (Nat.le_succ _) rfl [_] rfl rfl (gx_17_ok p5) ?_
    rintro _ X11 ⟨w12, rfl, hR11⟩ hok11 hle11
    refine fx_qc hR11 ?_
    show fx_W _ _ _ 39 lv1 [] _ _
    refine fx_i2 aj_d16 rfl (Nat.le_succ _) (fun _ => rfl) hlv1_0 ?_
    refine fx_gI aj_d16 rfl (Nat.le_succ _) rfl rfl (Or.inl rfl) ?_
    exact fx_ri aj_d16 rfl ⟨_, rfl, 0, rfl, rfl⟩
  · skip
    refine fx_qi (c := 3980 < ((X.1 52 1)).toInt) (fx_f_le q2) ?_
    show fx_W _ _ _ 10 lv1 [] _ _
    refine fx_n (pc' := 11) (lv' := lv1) (st' := [.int (Int32.ofInt (-1))]) aj_d16 rfl (Nat.le_succ _) (fun _ => rfl) ?_
    exact fx_ri aj_d16 rfl ⟨_, rfl, 0, rfl, rfl⟩
def gx_18 (p1 : Int32) (X : fx_X) (v : Int32) (X' : fx_X) : Prop :=
  (if (p1).toInt < 0 then (v = (Int32.ofInt (-1)) ∧ X' = X) else ((if ((X.1 52 1)).toInt < (p1).toInt then (v = (Int32.ofInt (-1)) ∧ X' = X) else (∃ X4 : fx_X, X4 = (fx_wI X 52 1 ((X.1 52 1) - p1)) ∧ v = (X4.1 52 1) ∧ X' = X4))))
theorem gx_18_ok {tb : aj_T} (p1 : Int32) {X : fx_X} : fx_K tb 18 [.ref 52, .int p1] X (fx_Q fx_qI (fun v X' => gx_18 p1 X v X')) := by
  refine fx_m aj_m18_at rfl (fun N => ?_)
  refine fx_mono (Q := fx_Q fx_qI (fun v X' => ∃ n : Nat, gx_18 p1 X v X')) (fun r X' ⟨v, e, _, z⟩ => ⟨v, e, z⟩) ?_
  unfold gx_18
  show fx_W _ _ _ 0 [(0, .ref 52), (1, .int p1)] [] _ _
  obtain ⟨lv1, elv1⟩ : ∃ l : aj_V, l = [(0, .ref 52), (1, .int p1)] := ⟨_, rfl⟩
  rw [← elv1]
  have hlv1_0 : aj_lv lv1 0 = some (.ref 52) := by rw [elv1]; rfl
  have hlv1_1 : aj_lv lv1 1 = some (.int p1) := by rw [elv1]; rfl
  refine fx_i0 aj_d18 rfl (Nat.le_succ _) (fun _ => rfl) hlv1_1 ?_
  refine fx_b0 (tgt := 12) aj_d18 rfl (Nat.le_succ _) rfl (fun q2 => ?_) (fun q2 => ?_)
  · skip
    refine fx_qi (c := (p1).toInt < 0) (fx_t_lt q2) ?_
    show fx_W _ _ _ 12 lv1 [] _ _
    refine fx_n (pc' := 13) (lv' := lv1) (st' := [.int (Int32.ofInt (-1))]) aj_d18 rfl (Nat.le_succ _) (fun _ => rfl) ?_
    exact fx_ri aj_d18 rfl ⟨_, rfl, 0, rfl, rfl⟩
  · skip
    refine fx_qe (c := (p1).toInt < 0) (fx_f_lt q2) ?_
    show fx_W _ _ _ 4 lv1 [] _ _
    refine fx_i0 aj_d18 rfl (Nat.le_succ _) (fun _ => rfl) hlv1_1 ?_
    refine fx_i2 aj_d18 rfl (Nat.le_succ _) (fun _ => rfl) hlv1_0 ?_
    refine fx_gI aj_d18 rfl (Nat.le_succ _) rfl rfl (Or.inl rfl) ?_
    refine fx_b (tgt := 14) aj_d18 rfl (Nat.le_succ _) rfl (fun q3 => ?_) (fun q3 => ?_)
    · skip
      refine fx_qe (c := ((X.1 52 1)).toInt < (p1).toInt) (fx_t_le q3) ?_
      show fx_W _ _ _ 14 lv1 [] _ _
      refine fx_i2 aj_d18 rfl (Nat.le_succ _) (fun _ => rfl) hlv1_0 ?_
      refine fx_n (pc' := 16) (lv' := lv1) (st' := [.ref 52, .ref 52]) aj_d18 rfl (Nat.le_succ _) (fun _ => rfl) ?_
      refine fx_gI aj_d18 rfl (Nat.le_succ _) rfl rfl (Or.inl rfl) ?_
      refine fx_i0 aj_d18 rfl (Nat.le_succ _) (fun _ => rfl) hlv1_1 ?_
      refine fx_n (pc' := 21) (lv' := lv1) (st' := [.int ((X.1 52 1) - p1), .ref 52]) aj_d18 rfl (Nat.le_succ _) (fun _ => rfl) ?_
      refine fx_pI aj_d18 rfl (Nat.le_succ _) rfl rfl (Or.inl rfl) fx_no_10_1 (by decide) ?_
      refine fx_qX (fun X4 eX4 => ?_)
      show fx_W _ _ _ 24 lv1 [] _ _
      refine fx_i2 aj_d18 rfl (Nat.le_succ _) (fun _ => rfl) hlv1_0 ?_
      refine fx_gI aj_d18 rfl (Nat.le_succ _) rfl rfl (Or.inl rfl) ?_
      exact fx_ri aj_d18 rfl ⟨_, rfl, 0, rfl, rfl⟩
    · skip
      refine fx_qi (c := ((X.1 52 1)).toInt < (p1).toInt) (fx_f_le q3) ?_
      show fx_W _ _ _ 12 lv1 [] _ _
      refine fx_n (pc' := 13) (lv' := lv1) (st' := [.int (Int32.ofInt (-1))]) aj_d18 rfl (Nat.le_succ _) (fun _ => rfl) ?_
      exact fx_ri aj_d18 rfl ⟨_, rfl, 0, rfl, rfl⟩
def gx_27 (p1 : Int32) (p2 : Int32) (p3 : Int64) (X : fx_X) (v : Unit) (X' : fx_X) : Prop :=
  (if ((X.1 78 3)).toInt < 1002 then ((if ((X.1 78 3)).toInt < 1002 then ((if ((X.1 78 3)).toInt < 1002 then ((0 ≤ ((X.1 78 3)).toInt ∧ ((X.1 78 3)).toInt < ((1002 : Nat) : Int)) ∧ ∃ X10 : fx_X, X10 = (fx_wI X 79 ((X.1 78 3)).toInt.toNat p1) ∧ (0 ≤ ((X10.1 78 3)).toInt ∧ ((X10.1 78 3)).toInt < ((1002 : Nat) : Int)) ∧ ∃ X13 : fx_X, X13 = (fx_wI X10 80 ((X10.1 78 3)).toInt.toNat p2) ∧ (0 ≤ ((X13.1 78 3)).toInt ∧ ((X13.1 78 3)).toInt < ((1002 : Nat) : Int)) ∧ ∃ X16 : fx_X, X16 = (fx_wL X13 81 ((X13.1 78 3)).toInt.toNat p3) ∧ ∃ X17 : fx_X, X17 = (fx_wI X16 78 3 ((X16.1 78 3) + (Int32.ofInt 1))) ∧ X' = X17) else (X' = X))) else (X' = X))) else (X' = X))
theorem gx_27_ok {tb : aj_T} (p1 : Int32) (p2 : Int32) (p3 : Int64) {X : fx_X} : fx_K tb 27 [.ref 78, .int p1, .int p2, .long p3] X (fx_Q fx_qN (fun v X' => gx_27 p1 p2 p3 X v X')) := by
  refine fx_m aj_m27_at rfl (fun N => ?_)
  refine fx_mono (Q := fx_Q fx_qN (fun v X' => ∃ n : Nat, gx_27 p1 p2 p3 X v X')) (fun r X' ⟨v, e, _, z⟩ => ⟨v, e, z⟩) ?_
  unfold gx_27
  show fx_W _ _ _ 0 [(0, .ref 78), (1, .int p1), (2, .int p2), (3, .long p3)] [] _ _
  obtain ⟨lv1, elv1⟩ : ∃ l : aj_V, l = [(0, .ref 78), (1, .int p1), (2, .int p2), (3, .long p3)] := ⟨_, rfl⟩
  rw [← elv1]
  have hlv1_0 : aj_lv lv1 0 = some (.ref 78) := by rw [elv1]; rfl
  have hlv1_1 : aj_lv lv1 1 = some (.int p1) := by rw [elv1]; rfl
  have hlv1_2 : aj_lv lv1 2 = some (.int p2) := by rw [elv1]; rfl
  have hlv1_3 : aj_lv lv1 3 = some (.long p3) := by rw [elv1]; rfl
  refine fx_i2 aj_d27 rfl (Nat.le_succ _) (fun _ => rfl) hlv1_0 ?_
  refine fx_gI aj_d27 rfl (Nat.le_succ _) rfl rfl (Or.inl rfl) ?_
  refine fx_i2 aj_d27 rfl (Nat.le_succ _) (fun _ => rfl) hlv1_0 ?_
  refine fx_gF aj_d27 rfl (Nat.le_succ _) rfl rfl fx_in_8_0 (t := 79) rfl (fun hA2 => ?_)
  refine fx_al aj_d27 rfl (Nat.le_succ _) ?_
  rw [(hA2 : X.2.2.2.1 79 = (0, 1002))]
  show fx_W _ _ _ 9 lv1 [.int (Int32.ofNat 1002), .int (X.1 78 3)] _ _
  refine fx_b (tgt := 76) aj_d27 rfl (Nat.le_succ _) rfl (fun q3 => ?_) (fun q3 => ?_)
  · skip
    refine fx_qe (c := ((X.1 78 3)).toInt < 1002) (fx_t_ge q3) ?_
    show fx_W _ _ _ 76 lv1 [] _ _
    exact fx_rn aj_d27 rfl ⟨(), rfl, 0, rfl⟩
  · skip
    refine fx_qi (c := ((X.1 78 3)).toInt < 1002) (fx_f_ge q3) ?_
    show fx_W _ _ _ 12 lv1 [] _ _
    refine fx_i2 aj_d27 rfl (Nat.le_succ _) (fun _ => rfl) hlv1_0 ?_
    refine fx_gI aj_d27 rfl (Nat.le_succ _) rfl rfl (Or.inl rfl) ?_
    refine fx_i2 aj_d27 rfl (Nat.le_succ _) (fun _ => rfl) hlv1_0 ?_
    refine fx_gF aj_d27 rfl (Nat.le_succ _) rfl rfl fx_in_8_1 (t := 80) rfl (fun hA4 => ?_)
    refine fx_al aj_d27 rfl (Nat.le_succ _) ?_
    rw [(hA4 : X.2.2.2.1 80 = (0, 1002))]
    show fx_W _ _ _ 21 lv1 [.int (Int32.ofNat 1002), .int (X.1 78 3)] _ _
    refine fx_b (tgt := 76) aj_d27 rfl (Nat.le_succ _) rfl (fun q5 => ?_) (fun q5 => ?_)
    · skip
      refine fx_qe (c := ((X.1 78 3)).toInt < 1002) (fx_t_ge q5) ?_
      show fx_W _ _ _ 76 lv1 [] _ _
      exact fx_rn aj_d27 rfl ⟨(), rfl, 0, rfl⟩
    · skip
      refine fx_qi (c := ((X.1 78 3)).toInt < 1002) (fx_f_ge q5) ?_
      show fx_W _ _ _ 24 lv1 [] _ _
      refine fx_i2 aj_d27 rfl (Nat.le_succ _) (fun _ => rfl) hlv1_0 ?_
      refine fx_gI aj_d27 rfl (Nat.le_succ _) rfl rfl (Or.inl rfl) ?_
      refine fx_i2 aj_d27 rfl (Nat.le_succ _) (fun _ => rfl) hlv1_0 ?_
      refine fx_gF aj_d27 rfl (Nat.le_succ _) rfl rfl fx_in_8_2 (t := 81) rfl (fun hA6 => ?_)
      refine fx_al aj_d27 rfl (Nat.le_succ _) ?_
      rw [(hA6 : X.2.2.2.1 81 = (1, 1002))]
      show fx_W _ _ _ 33 lv1 [.int (Int32.ofNat 1002), .int (X.1 78 3)] _ _
      refine fx_b (tgt := 76) aj_d27 rfl (Nat.le_succ _) rfl (fun q7 => ?_) (fun q7 => ?_)
      · skip
        refine fx_qe (c := ((X.1 78 3)).toInt < 1002) (fx_t_ge q7) ?_
        show fx_W _ _ _ 76 lv1 [] _ _
        exact fx_rn aj_d27 rfl ⟨(), rfl, 0, rfl⟩
      · skip
        refine fx_qi (c := ((X.1 78 3)).toInt < 1002) (fx_f_ge q7) ?_
        show fx_W _ _ _ 36 lv1 [] _ _
        refine fx_i2 aj_d27 rfl (Nat.le_succ _) (fun _ => rfl) hlv1_0 ?_
        refine fx_gF aj_d27 rfl (Nat.le_succ _) rfl rfl fx_in_8_0 (t := 79) rfl (fun hA8 => ?_)
        refine fx_i2 aj_d27 rfl (Nat.le_succ _) (fun _ => rfl) hlv1_0 ?_
        refine fx_gI aj_d27 rfl (Nat.le_succ _) rfl rfl (Or.inl rfl) ?_
        refine fx_i0 aj_d27 rfl (Nat.le_succ _) (fun _ => rfl) hlv1_1 ?_
        refine fx_st aj_d27 (Or.inl ⟨rfl, rfl⟩) rfl (Nat.le_succ _) (fun g90 g91 => ?_)
        show fx_W _ _ _ _ _ _ (fx_wI X 79 ((X.1 78 3)).toInt.toNat p1) _
        refine fx_qa (c := 0 ≤ ((X.1 78 3)).toInt ∧ ((X.1 78 3)).toInt < ((1002 : Nat) : Int)) ⟨g90, fx_lnk g91 hA8⟩ ?_
        refine fx_qX (fun X10 eX10 => ?_)
        show fx_W _ _ _ 46 lv1 [] _ _
        refine fx_i2 aj_d27 rfl (Nat.le_succ _) (fun _ => rfl) hlv1_0 ?_
        refine fx_gF aj_d27 rfl (Nat.le_succ _) rfl rfl fx_in_8_1 (t := 80) rfl (fun hA11 => ?_)
        refine fx_i2 aj_d27 rfl (Nat.le_succ _) (fun _ => rfl) hlv1_0 ?_
        refine fx_gI aj_d27 rfl (Nat.le_succ _) rfl rfl (Or.inl rfl) ?_
        refine fx_i0 aj_d27 rfl (Nat.le_succ _) (fun _ => rfl) hlv1_2 ?_
        refine fx_st aj_d27 (Or.inl ⟨rfl, rfl⟩) rfl (Nat.le_succ _) (fun g120 g121 => ?_)
        show fx_W _ _ _ _ _ _ (fx_wI X10 80 ((X10.1 78 3)).toInt.toNat p2) _
        refine fx_qa (c := 0 ≤ ((X10.1 78 3)).toInt ∧ ((X10.1 78 3)).toInt < ((1002 : Nat) : Int)) ⟨g120, fx_lnk g121 hA11⟩ ?_
        refine fx_qX (fun X13 eX13 => ?_)
        show fx_W _ _ _ 56 lv1 [] _ _
        refine fx_i2 aj_d27 rfl (Nat.le_succ _) (fun _ => rfl) hlv1_0 ?_
        refine fx_gF aj_d27 rfl (Nat.le_succ _) rfl rfl fx_in_8_2 (t := 81) rfl (fun hA14 => ?_)
        refine fx_i2 aj_d27 rfl (Nat.le_succ _) (fun _ => rfl) hlv1_0 ?_
        refine fx_gI aj_d27 rfl (Nat.le_succ _) rfl rfl (Or.inl rfl) ?_
        refine fx_i1 aj_d27 rfl (Nat.le_succ _) (fun _ => rfl) hlv1_3 ?_
        refine fx_sL aj_d27 rfl (Nat.le_succ _) (fun g150 g151 => ?_)
        refine fx_qa (c := 0 ≤ ((X13.1 78 3)).toInt ∧ ((X13.1 78 3)).toInt < ((1002 : Nat) : Int)) ⟨g150, fx_lnk g151 hA14⟩ ?_
        refine fx_qX (fun X16 eX16 => ?_)
        show fx_W _ _ _ 66 lv1 [] _ _
        refine fx_i2 aj_d27 rfl (Nat.le_succ _) (fun _ => rfl) hlv1_0 ?_
        refine fx_n (pc' := 68) (lv' := lv1) (st' := [.ref 78, .ref 78]) aj_d27 rfl (Nat.le_succ _) (fun _ => rfl) ?_
        refine fx_gI aj_d27 rfl (Nat.le_succ _) rfl rfl (Or.inl rfl) ?_
        refine fx_n (pc' := 72) (lv' := lv1) (st' := [.int (Int32.ofInt 1), .int (X16.1 78 3), .ref 78]) aj_d27 rfl (Nat.le_succ _) (fun _ => rfl) ?_
        refine fx_n (pc' := 73) (lv' := lv1) (st' := [.int ((X16.1 78 3) + (Int32.ofInt 1)), .ref 78]) aj_d27 rfl (Nat.le_succ _) (fun _ => rfl) ?_
        refine fx_pI aj_d27 rfl (Nat.le_succ _) rfl rfl (Or.inl rfl) fx_no_8_3 (by decide) ?_
        refine fx_qX (fun X17 eX17 => ?_)
        show fx_W _ _ _ 76 lv1 [] _ _
        exact fx_rn aj_d27 rfl ⟨(), rfl, 0, rfl⟩
def gx_22 (p0 : Int32) (X : fx_X) (v : Int32) (X' : fx_X) : Prop :=
  (if (p0).toInt = 9 then (v = (Int32.ofInt 1) ∧ X' = X) else ((if (p0).toInt = 10 then (v = (Int32.ofInt 1) ∧ X' = X) else ((if (p0).toInt = 13 then (v = (Int32.ofInt 1) ∧ X' = X) else ((if (p0).toInt = 32 then (v = (Int32.ofInt 1) ∧ X' = X) else (v = (Int32.ofInt 0) ∧ X' = X))))))))
theorem gx_22_ok {tb : aj_T} (p0 : Int32) {X : fx_X} : fx_K tb 22 [.int p0] X (fx_Q fx_qI (fun v X' => gx_22 p0 X v X')) := by
  refine fx_m aj_m22_at rfl (fun N => ?_)
  refine fx_mono (Q := fx_Q fx_qI (fun v X' => ∃ n : Nat, gx_22 p0 X v X')) (fun r X' ⟨v, e, _, z⟩ => ⟨v, e, z⟩) ?_
  unfold gx_22
  show fx_W _ _ _ 0 [(0, .int p0)] [] _ _
  obtain ⟨lv1, elv1⟩ : ∃ l : aj_V, l = [(0, .int p0)] := ⟨_, rfl⟩
  rw [← elv1]
  have hlv1_0 : aj_lv lv1 0 = some (.int p0) := by rw [elv1]; rfl
  refine fx_i0 aj_d22 rfl (Nat.le_succ _) (fun _ => rfl) hlv1_0 ?_
  refine fx_n (pc' := 3) (lv' := lv1) (st' := [.int ((Int8.ofInt 9).toInt32), .int p0]) aj_d22 rfl (Nat.le_succ _) (fun _ => rfl) ?_
  refine fx_b (tgt := 24) aj_d22 rfl (Nat.le_succ _) rfl (fun q2 => ?_) (fun q2 => ?_)
  · skip
    refine fx_qi (c := (p0).toInt = 9) (fx_t_eq q2) ?_
    show fx_W _ _ _ 24 lv1 [] _ _
    refine fx_n (pc' := 25) (lv' := lv1) (st' := [.int (Int32.ofInt 1)]) aj_d22 rfl (Nat.le_succ _) (fun _ => rfl) ?_
    refine fx_n (pc' := 29) (lv' := lv1) (st' := [.int (Int32.ofInt 1)]) aj_d22 rfl (Nat.le_succ _) (fun _ => rfl) ?_
    exact fx_ri aj_d22 rfl ⟨_, rfl, 0, rfl, rfl⟩
  · skip
    refine fx_qe (c := (p0).toInt = 9) (fx_f_eq q2) ?_
    show fx_W _ _ _ 6 lv1 [] _ _
    refine fx_i0 aj_d22 rfl (Nat.le_succ _) (fun _ => rfl) hlv1_0 ?_
    refine fx_n (pc' := 9) (lv' := lv1) (st' := [.int ((Int8.ofInt 10).toInt32), .int p0]) aj_d22 rfl (Nat.le_succ _) (fun _ => rfl) ?_
    refine fx_b (tgt := 24) aj_d22 rfl (Nat.le_succ _) rfl (fun q3 => ?_) (fun q3 => ?_)
    · skip
      refine fx_qi (c := (p0).toInt = 10) (fx_t_eq q3) ?_
      show fx_W _ _ _ 24 lv1 [] _ _
      refine fx_n (pc' := 25) (lv' := lv1) (st' := [.int (Int32.ofInt 1)]) aj_d22 rfl (Nat.le_succ _) (fun _ => rfl) ?_
      refine fx_n (pc' := 29) (lv' := lv1) (st' := [.int (Int32.ofInt 1)]) aj_d22 rfl (Nat.le_succ _) (fun _ => rfl) ?_
      exact fx_ri aj_d22 rfl ⟨_, rfl, 0, rfl, rfl⟩
    · skip
      refine fx_qe (c := (p0).toInt = 10) (fx_f_eq q3) ?_
      show fx_W _ _ _ 12 lv1 [] _ _
      refine fx_i0 aj_d22 rfl (Nat.le_succ _) (fun _ => rfl) hlv1_0 ?_
      refine fx_n (pc' := 15) (lv' := lv1) (st' := [.int ((Int8.ofInt 13).toInt32), .int p0]) aj_d22 rfl (Nat.le_succ _) (fun _ => rfl) ?_
      refine fx_b (tgt := 24) aj_d22 rfl (Nat.le_succ _) rfl (fun q4 => ?_) (fun q4 => ?_)
      · skip
        refine fx_qi (c := (p0).toInt = 13) (fx_t_eq q4) ?_
        show fx_W _ _ _ 24 lv1 [] _ _
        refine fx_n (pc' := 25) (lv' := lv1) (st' := [.int (Int32.ofInt 1)]) aj_d22 rfl (Nat.le_succ _) (fun _ => rfl) ?_
        refine fx_n (pc' := 29) (lv' := lv1) (st' := [.int (Int32.ofInt 1)]) aj_d22 rfl (Nat.le_succ _) (fun _ => rfl) ?_
        exact fx_ri aj_d22 rfl ⟨_, rfl, 0, rfl, rfl⟩
      · skip
        refine fx_qe (c := (p0).toInt = 13) (fx_f_eq q4) ?_
        show fx_W _ _ _ 18 lv1 [] _ _
        refine fx_i0 aj_d22 rfl (Nat.le_succ _) (fun _ => rfl) hlv1_0 ?_
        refine fx_n (pc' := 21) (lv' := lv1) (st' := [.int ((Int8.ofInt 32).toInt32), .int p0]) aj_d22 rfl (Nat.le_succ _) (fun _ => rfl) ?_
        refine fx_b (tgt := 28) aj_d22 rfl (Nat.le_succ _) rfl (fun q5 => ?_) (fun q5 => ?_)
        · skip
          refine fx_qe (c := (p0).toInt = 32) (fx_t_ne q5) ?_
          show fx_W _ _ _ 28 lv1 [] _ _
          refine fx_n (pc' := 29) (lv' := lv1) (st' := [.int (Int32.ofInt 0)]) aj_d22 rfl (Nat.le_succ _) (fun _ => rfl) ?_
          exact fx_ri aj_d22 rfl ⟨_, rfl, 0, rfl, rfl⟩
        · skip
          refine fx_qi (c := (p0).toInt = 32) (fx_f_ne q5) ?_
          show fx_W _ _ _ 24 lv1 [] _ _
          refine fx_n (pc' := 25) (lv' := lv1) (st' := [.int (Int32.ofInt 1)]) aj_d22 rfl (Nat.le_succ _) (fun _ => rfl) ?_
          refine fx_n (pc' := 29) (lv' := lv1) (st' := [.int (Int32.ofInt 1)]) aj_d22 rfl (Nat.le_succ _) (fun _ => rfl) ?_
          exact fx_ri aj_d22 rfl ⟨_, rfl, 0, rfl, rfl⟩
def gx_24 (p0 : Int32) (X : fx_X) (v : Int32) (X' : fx_X) : Prop :=
  (if (p0).toInt < 97 then (v = (Int32.ofInt 0) ∧ X' = X) else ((if 122 < (p0).toInt then (v = (Int32.ofInt 0) ∧ X' = X) else (v = (Int32.ofInt 1) ∧ X' = X))))
theorem gx_24_ok {tb : aj_T} (p0 : Int32) {X : fx_X} : fx_K tb 24 [.int p0] X (fx_Q fx_qI (fun v X' => gx_24 p0 X v X')) := by
  refine fx_m aj_m24_at rfl (fun N => ?_)
  refine fx_mono (Q := fx_Q fx_qI (fun v X' => ∃ n : Nat, gx_24 p0 X v X')) (fun r X' ⟨v, e, _, z⟩ => ⟨v, e, z⟩) ?_
  unfold gx_24
  show fx_W _ _ _ 0 [(0, .int p0)] [] _ _
  obtain ⟨lv1, elv1⟩ : ∃ l : aj_V, l = [(0, .int p0)] := ⟨_, rfl⟩
  rw [← elv1]
  have hlv1_0 : aj_lv lv1 0 = some (.int p0) := by rw [elv1]; rfl
  refine fx_i0 aj_d24 rfl (Nat.le_succ _) (fun _ => rfl) hlv1_0 ?_
  refine fx_n (pc' := 3) (lv' := lv1) (st' := [.int ((Int8.ofInt 97).toInt32), .int p0]) aj_d24 rfl (Nat.le_succ _) (fun _ => rfl) ?_
  refine fx_b (tgt := 16) aj_d24 rfl (Nat.le_succ _) rfl (fun q2 => ?_) (fun q2 => ?_)
  · skip
    refine fx_qi (c := (p0).toInt < 97) (fx_t_lt q2) ?_
    show fx_W _ _ _ 16 lv1 [] _ _
    refine fx_n (pc' := 17) (lv' := lv1) (st' := [.int (Int32.ofInt 0)]) aj_d24 rfl (Nat.le_succ _) (fun _ => rfl) ?_
    exact fx_ri aj_d24 rfl ⟨_, rfl, 0, rfl, rfl⟩
  · skip
    refine fx_qe (c := (p0).toInt < 97) (fx_f_lt q2) ?_
    show fx_W _ _ _ 6 lv1 [] _ _
    refine fx_i0 aj_d24 rfl (Nat.le_succ _) (fun _ => rfl) hlv1_0 ?_
    refine fx_n (pc' := 9) (lv' := lv1) (st' := [.int ((Int8.ofInt 122).toInt32), .int p0]) aj_d24 rfl (Nat.le_succ _) (fun _ => rfl) ?_
    refine fx_b (tgt := 16) aj_d24 rfl (Nat.le_succ _) rfl (fun q3 => ?_) (fun q3 => ?_)
    · skip
      refine fx_qi (c := 122 < (p0).toInt) (fx_t_gt q3) ?_
      show fx_W _ _ _ 16 lv1 [] _ _
      refine fx_n (pc' := 17) (lv' := lv1) (st' := [.int (Int32.ofInt 0)]) aj_d24 rfl (Nat.le_succ _) (fun _ => rfl) ?_
      exact fx_ri aj_d24 rfl ⟨_, rfl, 0, rfl, rfl⟩
    · skip
      refine fx_qe (c := 122 < (p0).toInt) (fx_f_gt q3) ?_
      show fx_W _ _ _ 12 lv1 [] _ _
      refine fx_n (pc' := 13) (lv' := lv1) (st' := [.int (Int32.ofInt 1)]) aj_d24 rfl (Nat.le_succ _) (fun _ => rfl) ?_
      refine fx_n (pc' := 17) (lv' := lv1) (st' := [.int (Int32.ofInt 1)]) aj_d24 rfl (Nat.le_succ _) (fun _ => rfl) ?_
      exact fx_ri aj_d24 rfl ⟨_, rfl, 0, rfl, rfl⟩
def gx_26 (p0 : Int32) (X : fx_X) (v : Int32) (X' : fx_X) : Prop :=
  (if (p0).toInt < 48 then (v = (Int32.ofInt 0) ∧ X' = X) else ((if 57 < (p0).toInt then (v = (Int32.ofInt 0) ∧ X' = X) else (v = (Int32.ofInt 1) ∧ X' = X))))
theorem gx_26_ok {tb : aj_T} (p0 : Int32) {X : fx_X} : fx_K tb 26 [.int p0] X (fx_Q fx_qI (fun v X' => gx_26 p0 X v X')) := by
  refine fx_m aj_m26_at rfl (fun N => ?_)
  refine fx_mono (Q := fx_Q fx_qI (fun v X' => ∃ n : Nat, gx_26 p0 X v X')) (fun r X' ⟨v, e, _, z⟩ => ⟨v, e, z⟩) ?_
  unfold gx_26
  show fx_W _ _ _ 0 [(0, .int p0)] [] _ _
  obtain ⟨lv1, elv1⟩ : ∃ l : aj_V, l = [(0, .int p0)] := ⟨_, rfl⟩
  rw [← elv1]
  have hlv1_0 : aj_lv lv1 0 = some (.int p0) := by rw [elv1]; rfl
  refine fx_i0 aj_d26 rfl (Nat.le_succ _) (fun _ => rfl) hlv1_0 ?_
  refine fx_n (pc' := 3) (lv' := lv1) (st' := [.int ((Int8.ofInt 48).toInt32), .int p0]) aj_d26 rfl (Nat.le_succ _) (fun _ => rfl) ?_
  refine fx_b (tgt := 16) aj_d26 rfl (Nat.le_succ _) rfl (fun q2 => ?_) (fun q2 => ?_)
  · skip
    refine fx_qi (c := (p0).toInt < 48) (fx_t_lt q2) ?_
    show fx_W _ _ _ 16 lv1 [] _ _
    refine fx_n (pc' := 17) (lv' := lv1) (st' := [.int (Int32.ofInt 0)]) aj_d26 rfl (Nat.le_succ _) (fun _ => rfl) ?_
    exact fx_ri aj_d26 rfl ⟨_, rfl, 0, rfl, rfl⟩
  · skip
    refine fx_qe (c := (p0).toInt < 48) (fx_f_lt q2) ?_
    show fx_W _ _ _ 6 lv1 [] _ _
    refine fx_i0 aj_d26 rfl (Nat.le_succ _) (fun _ => rfl) hlv1_0 ?_
    refine fx_n (pc' := 9) (lv' := lv1) (st' := [.int ((Int8.ofInt 57).toInt32), .int p0]) aj_d26 rfl (Nat.le_succ _) (fun _ => rfl) ?_
    refine fx_b (tgt := 16) aj_d26 rfl (Nat.le_succ _) rfl (fun q3 => ?_) (fun q3 => ?_)
    · skip
      refine fx_qi (c := 57 < (p0).toInt) (fx_t_gt q3) ?_
      show fx_W _ _ _ 16 lv1 [] _ _
      refine fx_n (pc' := 17) (lv' := lv1) (st' := [.int (Int32.ofInt 0)]) aj_d26 rfl (Nat.le_succ _) (fun _ => rfl) ?_
      exact fx_ri aj_d26 rfl ⟨_, rfl, 0, rfl, rfl⟩
    · skip
      refine fx_qe (c := 57 < (p0).toInt) (fx_f_gt q3) ?_
      show fx_W _ _ _ 12 lv1 [] _ _
      refine fx_n (pc' := 13) (lv' := lv1) (st' := [.int (Int32.ofInt 1)]) aj_d26 rfl (Nat.le_succ _) (fun _ => rfl) ?_
      refine fx_n (pc' := 17) (lv' := lv1) (st' := [.int (Int32.ofInt 1)]) aj_d26 rfl (Nat.le_succ _) (fun _ => rfl) ?_
      exact fx_ri aj_d26 rfl ⟨_, rfl, 0, rfl, rfl⟩
def gxT_29_6 (p2 : Int32) (p3 : Int32) (P : Nat → List Int32 → List Int64 → List Nat → fx_X → Int32 → fx_X → Prop) (y4 : Int32) (y5 : Int64) (X : fx_X) (v : Int32) (X' : fx_X) : Prop :=
  (if (y4).toInt < (p2).toInt then ((if (y4).toInt < ((Int32.ofNat (X.2.2.2.1 53).2)).toInt then ((0 ≤ (y4).toInt) ∧ ∃ (w18 : Int32) (X17 : fx_X), gx_26 (X.1 53 (y4).toInt.toNat) X w18 X17 ∧ (if (w18).toInt = 0 then ((if 4 < ((y4 - p3)).toInt then (∃ (w24 : Unit) (X23 : fx_X), gx_27 (Int32.ofInt 2) p3 (Int64.ofNat 0) X17 w24 X23 ∧ v = p3 ∧ X' = X23) else (∃ (w22 : Unit) (X21 : fx_X), gx_27 (Int32.ofInt 4) p3 y5 X17 w22 X21 ∧ v = y4 ∧ X' = X21))) else ((0 ≤ (y4).toInt) ∧ ∃ x26 : Int64, x26 = ((y5 * (Int64.ofInt 10)) + ((((X17.1 53 (y4).toInt.toNat) - ((Int8.ofInt 48).toInt32))).toInt64)) ∧ ∃ x28 : Int32, x28 = y4 + Int32.ofInt 1 ∧ P 6 [x28] [x26] [] X17 v X'))) else ((if 4 < ((y4 - p3)).toInt then (∃ (w15 : Unit) (X14 : fx_X), gx_27 (Int32.ofInt 2) p3 (Int64.ofNat 0) X w15 X14 ∧ v = p3 ∧ X' = X14) else (∃ (w13 : Unit) (X12 : fx_X), gx_27 (Int32.ofInt 4) p3 y5 X w13 X12 ∧ v = y4 ∧ X' = X12))))) else ((if 4 < ((y4 - p3)).toInt then (∃ (w9 : Unit) (X8 : fx_X), gx_27 (Int32.ofInt 2) p3 (Int64.ofNat 0) X w9 X8 ∧ v = p3 ∧ X' = X8) else (∃ (w7 : Unit) (X6 : fx_X), gx_27 (Int32.ofInt 4) p3 y5 X w7 X6 ∧ v = y4 ∧ X' = X6))))
def gxE_29 (p2 : Int32) (p3 : Int32) (P : Nat → List Int32 → List Int64 → List Nat → fx_X → Int32 → fx_X → Prop) (X : fx_X) (v : Int32) (X' : fx_X) : Prop :=
  P 6 [p3] [(Int64.ofNat 0)] [] X v X'
noncomputable def gxF_29 (p2 : Int32) (p3 : Int32) (n : Nat) : Nat → List Int32 → List Int64 → List Nat → fx_X → Int32 → fx_X → Prop := Nat.rec (motive := fun _ => Nat → List Int32 → List Int64 → List Nat → fx_X → Int32 → fx_X → Prop) (fun _ _ _ _ _ _ _ => False) (fun _ P l is ls rs X v X' => (l = 6 ∧ ∃ (y4 : Int32) (y5 : Int64), is = [y4] ∧ ls = [y5] ∧ rs = [] ∧ gxT_29_6 p2 p3 P y4 y5 X v X')) n
theorem gxI_29_6 {p2 : Int32} {p3 : Int32} {n : Nat} {y4 : Int32} {y5 : Int64} {X : fx_X} {v : Int32} {X' : fx_X} (h : gxT_29_6 p2 p3 (gxF_29 p2 p3 n) y4 y5 X v X') : gxF_29 p2 p3 (n + 1) 6 [y4] [y5] [] X v X' := ⟨rfl, y4, y5, rfl, rfl, rfl, h⟩
theorem gxO_29_6 {p2 : Int32} {p3 : Int32} {n : Nat} {y4 : Int32} {y5 : Int64} {X : fx_X} {v : Int32} {X' : fx_X} (h : gxF_29 p2 p3 (n + 1) 6 [y4] [y5] [] X v X') : gxT_29_6 p2 p3 (gxF_29 p2 p3 n) y4 y5 X v X' := by
  rcases h with ⟨-, _, _, e1, e2, e3, h⟩
  · cases e1; cases e2; cases e3; exact h
def gx_29 (p2 : Int32) (p3 : Int32) (X : fx_X) (v : Int32) (X' : fx_X) : Prop := ∃ n : Nat, gxE_29 p2 p3 (gxF_29 p2 p3 n) X v X'
theorem gxL_29 {tb : aj_T} (p2 : Int32) (p3 : Int32) : ∀ N : Nat, (∀ (lv : aj_V) (y4 : Int32) (y5 : Int64) (X : fx_X), aj_lv lv 0 = some (.ref 78) → aj_lv lv 1 = some (.ref 53) → aj_lv lv 2 = some (.int p2) → aj_lv lv 3 = some (.int p3) → aj_lv lv 4 = some (.int y4) → aj_lv lv 5 = some (.long y5) → fx_W tb aj_m29 N 6 lv [] X (fx_Q fx_qI (fun v X' => ∃ n : Nat, gxF_29 p2 p3 n 6 [y4] [y5] [] X v X'))) := by
  intro N
  induction N with
  | zero => exact (by intros; exact fx_z)
  | succ N ih =>
    skip
    · intro lv y4 y5 X hlv_0 hlv_1 hlv_2 hlv_3 hlv_4 hlv_5
      refine fx_mono (Q := fx_Q fx_qI (fun v X' => ∃ n : Nat, gxT_29_6 p2 p3 (gxF_29 p2 p3 n) y4 y5 X v X')) (fun r X' ⟨v, e, n, z⟩ => ⟨v, e, n + 1, gxI_29_6 z⟩) ?_
      unfold gxT_29_6
      refine fx_i0 aj_d29 rfl (Nat.le_refl _) (fun _ => rfl) hlv_4 ?_
      refine fx_i0 aj_d29 rfl (Nat.le_succ _) (fun _ => rfl) hlv_2 ?_
      refine fx_b (tgt := 52) aj_d29 rfl (Nat.le_succ _) rfl (fun q4 => ?_) (fun q4 => ?_)
      · skip
        refine fx_qe (c := (y4).toInt < (p2).toInt) (fx_t_ge q4) ?_
        show fx_W _ _ _ 52 lv [] _ _
        refine fx_i0 aj_d29 rfl (Nat.le_succ _) (fun _ => rfl) hlv_4 ?_
        refine fx_i0 aj_d29 rfl (Nat.le_succ _) (fun _ => rfl) hlv_3 ?_
        refine fx_n (pc' := 56) (lv' := lv) (st' := [.int (y4 - p3)]) aj_d29 rfl (Nat.le_succ _) (fun _ => rfl) ?_
        refine fx_n (pc' := 57) (lv' := lv) (st' := [.int (Int32.ofInt 4), .int (y4 - p3)]) aj_d29 rfl (Nat.le_succ _) (fun _ => rfl) ?_
        refine fx_b (tgt := 69) aj_d29 rfl (Nat.le_succ _) rfl (fun q5 => ?_) (fun q5 => ?_)
        · skip
          refine fx_qe (c := 4 < ((y4 - p3)).toInt) (fx_t_le q5) ?_
          show fx_W _ _ _ 69 lv [] _ _
          refine fx_i2 aj_d29 rfl (Nat.le_succ _) (fun _ => rfl) hlv_0 ?_
          refine fx_n (pc' := 71) (lv' := lv) (st' := [.int (Int32.ofInt 4), .ref 78]) aj_d29 rfl (Nat.le_succ _) (fun _ => rfl) ?_
          refine fx_i0 aj_d29 rfl (Nat.le_succ _) (fun _ => rfl) hlv_3 ?_
          refine fx_i1 aj_d29 rfl (Nat.le_succ _) (fun _ => rfl) hlv_5 ?_
          refine fx_cv aj_d29 rfl (Nat.le_succ _) rfl [_, _, _] rfl rfl (gx_27_ok (Int32.ofInt 4) p3 y5) ?_
          rintro _ X6 ⟨w7, rfl, hR6⟩ hok6 hle6
          refine fx_qc hR6 ?_
          show fx_W _ _ _ 77 lv [] _ _
          refine fx_i0 aj_d29 rfl (Nat.le_succ _) (fun _ => rfl) hlv_4 ?_
          exact fx_ri aj_d29 rfl ⟨_, rfl, 0, rfl, rfl⟩
        · skip
          refine fx_qi (c := 4 < ((y4 - p3)).toInt) (fx_f_le q5) ?_
          show fx_W _ _ _ 60 lv [] _ _
          refine fx_i2 aj_d29 rfl (Nat.le_succ _) (fun _ => rfl) hlv_0 ?_
          refine fx_n (pc' := 62) (lv' := lv) (st' := [.int (Int32.ofInt 2), .ref 78]) aj_d29 rfl (Nat.le_succ _) (fun _ => rfl) ?_
          refine fx_i0 aj_d29 rfl (Nat.le_succ _) (fun _ => rfl) hlv_3 ?_
          refine fx_n (pc' := 64) (lv' := lv) (st' := [.long (Int64.ofNat 0), .int p3, .int (Int32.ofInt 2), .ref 78]) aj_d29 rfl (Nat.le_succ _) (fun _ => rfl) ?_
          refine fx_cv aj_d29 rfl (Nat.le_succ _) rfl [_, _, _] rfl rfl (gx_27_ok (Int32.ofInt 2) p3 (Int64.ofNat 0)) ?_
          rintro _ X8 ⟨w9, rfl, hR8⟩ hok8 hle8
          refine fx_qc hR8 ?_
          show fx_W _ _ _ 67 lv [] _ _
          refine fx_i0 aj_d29 rfl (Nat.le_succ _) (fun _ => rfl) hlv_3 ?_
          exact fx_ri aj_d29 rfl ⟨_, rfl, 0, rfl, rfl⟩
      · skip
        refine fx_qi (c := (y4).toInt < (p2).toInt) (fx_f_ge q4) ?_
        show fx_W _ _ _ 12 lv [] _ _
        refine fx_i0 aj_d29 rfl (Nat.le_succ _) (fun _ => rfl) hlv_4 ?_
        refine fx_i2 aj_d29 rfl (Nat.le_succ _) (fun _ => rfl) hlv_1 ?_
        refine fx_al aj_d29 rfl (Nat.le_succ _) ?_
        show fx_W _ _ _ 16 lv [.int (Int32.ofNat (X.2.2.2.1 53).2), .int y4] _ _
        refine fx_b (tgt := 52) aj_d29 rfl (Nat.le_succ _) rfl (fun q10 => ?_) (fun q10 => ?_)
        · skip
          refine fx_qe (c := (y4).toInt < ((Int32.ofNat (X.2.2.2.1 53).2)).toInt) (fx_t_ge q10) ?_
          show fx_W _ _ _ 52 lv [] _ _
          refine fx_i0 aj_d29 rfl (Nat.le_succ _) (fun _ => rfl) hlv_4 ?_
          refine fx_i0 aj_d29 rfl (Nat.le_succ _) (fun _ => rfl) hlv_3 ?_
          refine fx_n (pc' := 56) (lv' := lv) (st' := [.int (y4 - p3)]) aj_d29 rfl (Nat.le_succ _) (fun _ => rfl) ?_
          refine fx_n (pc' := 57) (lv' := lv) (st' := [.int (Int32.ofInt 4), .int (y4 - p3)]) aj_d29 rfl (Nat.le_succ _) (fun _ => rfl) ?_
          refine fx_b (tgt := 69) aj_d29 rfl (Nat.le_succ _) rfl (fun q11 => ?_) (fun q11 => ?_)
          · skip
            refine fx_qe (c := 4 < ((y4 - p3)).toInt) (fx_t_le q11) ?_
            show fx_W _ _ _ 69 lv [] _ _
            refine fx_i2 aj_d29 rfl (Nat.le_succ _) (fun _ => rfl) hlv_0 ?_
            refine fx_n (pc' := 71) (lv' := lv) (st' := [.int (Int32.ofInt 4), .ref 78]) aj_d29 rfl (Nat.le_succ _) (fun _ => rfl) ?_
            refine fx_i0 aj_d29 rfl (Nat.le_succ _) (fun _ => rfl) hlv_3 ?_
            refine fx_i1 aj_d29 rfl (Nat.le_succ _) (fun _ => rfl) hlv_5 ?_
            refine fx_cv aj_d29 rfl (Nat.le_succ _) rfl [_, _, _] rfl rfl (gx_27_ok (Int32.ofInt 4) p3 y5) ?_
            rintro _ X12 ⟨w13, rfl, hR12⟩ hok12 hle12
            refine fx_qc hR12 ?_
            show fx_W _ _ _ 77 lv [] _ _
            refine fx_i0 aj_d29 rfl (Nat.le_succ _) (fun _ => rfl) hlv_4 ?_
            exact fx_ri aj_d29 rfl ⟨_, rfl, 0, rfl, rfl⟩
          · skip
            refine fx_qi (c := 4 < ((y4 - p3)).toInt) (fx_f_le q11) ?_
            show fx_W _ _ _ 60 lv [] _ _
            refine fx_i2 aj_d29 rfl (Nat.le_succ _) (fun _ => rfl) hlv_0 ?_
            refine fx_n (pc' := 62) (lv' := lv) (st' := [.int (Int32.ofInt 2), .ref 78]) aj_d29 rfl (Nat.le_succ _) (fun _ => rfl) ?_
            refine fx_i0 aj_d29 rfl (Nat.le_succ _) (fun _ => rfl) hlv_3 ?_
            refine fx_n (pc' := 64) (lv' := lv) (st' := [.long (Int64.ofNat 0), .int p3, .int (Int32.ofInt 2), .ref 78]) aj_d29 rfl (Nat.le_succ _) (fun _ => rfl) ?_
            refine fx_cv aj_d29 rfl (Nat.le_succ _) rfl [_, _, _] rfl rfl (gx_27_ok (Int32.ofInt 2) p3 (Int64.ofNat 0)) ?_
            rintro _ X14 ⟨w15, rfl, hR14⟩ hok14 hle14
            refine fx_qc hR14 ?_
            show fx_W _ _ _ 67 lv [] _ _
            refine fx_i0 aj_d29 rfl (Nat.le_succ _) (fun _ => rfl) hlv_3 ?_
            exact fx_ri aj_d29 rfl ⟨_, rfl, 0, rfl, rfl⟩
        · skip
          refine fx_qi (c := (y4).toInt < ((Int32.ofNat (X.2.2.2.1 53).2)).toInt) (fx_f_ge q10) ?_
          show fx_W _ _ _ 19 lv [] _ _
          refine fx_i2 aj_d29 rfl (Nat.le_succ _) (fun _ => rfl) hlv_1 ?_
          refine fx_i0 aj_d29 rfl (Nat.le_succ _) (fun _ => rfl) hlv_4 ?_
          refine fx_ld aj_d29 (Or.inr (Or.inl rfl)) rfl (Nat.le_succ _) (fun g160 g161 => ?_)
          show fx_W _ _ _ 23 lv [.int (X.1 53 (y4).toInt.toNat)] _ _
          refine fx_qa (c := 0 ≤ (y4).toInt) g160 ?_
          refine fx_cs aj_d29 rfl (Nat.le_succ _) rfl rfl [_] rfl rfl (gx_26_ok (X.1 53 (y4).toInt.toNat)) ?_
          rintro _ X17 ⟨w18, rfl, hR17⟩ hok17 hle17
          refine fx_qc hR17 ?_
          show fx_W _ _ _ 26 lv [.int w18] _ _
          refine fx_b0 (tgt := 52) aj_d29 rfl (Nat.le_succ _) rfl (fun q19 => ?_) (fun q19 => ?_)
          · skip
            refine fx_qi (c := (w18).toInt = 0) (fx_t_eq q19) ?_
            show fx_W _ _ _ 52 lv [] _ _
            refine fx_i0 aj_d29 rfl (Nat.le_succ _) (fun _ => rfl) hlv_4 ?_
            refine fx_i0 aj_d29 rfl (Nat.le_succ _) (fun _ => rfl) hlv_3 ?_
            refine fx_n (pc' := 56) (lv' := lv) (st' := [.int (y4 - p3)]) aj_d29 rfl (Nat.le_succ _) (fun _ => rfl) ?_
            refine fx_n (pc' := 57) (lv' := lv) (st' := [.int (Int32.ofInt 4), .int (y4 - p3)]) aj_d29 rfl (Nat.le_succ _) (fun _ => rfl) ?_
            refine fx_b (tgt := 69) aj_d29 rfl (Nat.le_succ _) rfl (fun q20 => ?_) (fun q20 => ?_)
            · skip
              refine fx_qe (c := 4 < ((y4 - p3)).toInt) (fx_t_le q20) ?_
              show fx_W _ _ _ 69 lv [] _ _
              refine fx_i2 aj_d29 rfl (Nat.le_succ _) (fun _ => rfl) hlv_0 ?_
              refine fx_n (pc' := 71) (lv' := lv) (st' := [.int (Int32.ofInt 4), .ref 78]) aj_d29 rfl (Nat.le_succ _) (fun _ => rfl) ?_
              refine fx_i0 aj_d29 rfl (Nat.le_succ _) (fun _ => rfl) hlv_3 ?_
              refine fx_i1 aj_d29 rfl (Nat.le_succ _) (fun _ => rfl) hlv_5 ?_
              refine fx_cv aj_d29 rfl (Nat.le_succ _) rfl [_, _, _] rfl rfl (gx_27_ok (Int32.ofInt 4) p3 y5) ?_
              rintro _ X21 ⟨w22, rfl, hR21⟩ hok21 hle21
              refine fx_qc hR21 ?_
              show fx_W _ _ _ 77 lv [] _ _
              refine fx_i0 aj_d29 rfl (Nat.le_succ _) (fun _ => rfl) hlv_4 ?_
              exact fx_ri aj_d29 rfl ⟨_, rfl, 0, rfl, rfl⟩
            · skip
              refine fx_qi (c := 4 < ((y4 - p3)).toInt) (fx_f_le q20) ?_
              show fx_W _ _ _ 60 lv [] _ _
              refine fx_i2 aj_d29 rfl (Nat.le_succ _) (fun _ => rfl) hlv_0 ?_
              refine fx_n (pc' := 62) (lv' := lv) (st' := [.int (Int32.ofInt 2), .ref 78]) aj_d29 rfl (Nat.le_succ _) (fun _ => rfl) ?_
              refine fx_i0 aj_d29 rfl (Nat.le_succ _) (fun _ => rfl) hlv_3 ?_
              refine fx_n (pc' := 64) (lv' := lv) (st' := [.long (Int64.ofNat 0), .int p3, .int (Int32.ofInt 2), .ref 78]) aj_d29 rfl (Nat.le_succ _) (fun _ => rfl) ?_
              refine fx_cv aj_d29 rfl (Nat.le_succ _) rfl [_, _, _] rfl rfl (gx_27_ok (Int32.ofInt 2) p3 (Int64.ofNat 0)) ?_
              rintro _ X23 ⟨w24, rfl, hR23⟩ hok23 hle23
              refine fx_qc hR23 ?_
              show fx_W _ _ _ 67 lv [] _ _
              refine fx_i0 aj_d29 rfl (Nat.le_succ _) (fun _ => rfl) hlv_3 ?_
              exact fx_ri aj_d29 rfl ⟨_, rfl, 0, rfl, rfl⟩
          · skip
            refine fx_qe (c := (w18).toInt = 0) (fx_f_eq q19) ?_
            show fx_W _ _ _ 29 lv [] _ _
            refine fx_i1 aj_d29 rfl (Nat.le_succ _) (fun _ => rfl) hlv_5 ?_
            refine fx_n (pc' := 34) (lv' := lv) (st' := [.long (Int64.ofInt 10), .long y5]) aj_d29 rfl (Nat.le_succ _) (fun _ => rfl) ?_
            refine fx_n (pc' := 35) (lv' := lv) (st' := [.long (y5 * (Int64.ofInt 10))]) aj_d29 rfl (Nat.le_succ _) (fun _ => rfl) ?_
            refine fx_i2 aj_d29 rfl (Nat.le_succ _) (fun _ => rfl) hlv_1 ?_
            refine fx_i0 aj_d29 rfl (Nat.le_succ _) (fun _ => rfl) hlv_4 ?_
            refine fx_ld aj_d29 (Or.inr (Or.inl rfl)) rfl (Nat.le_succ _) (fun g250 g251 => ?_)
            show fx_W _ _ _ 39 lv [.int (X17.1 53 (y4).toInt.toNat), .long (y5 * (Int64.ofInt 10))] _ _
            refine fx_qa (c := 0 ≤ (y4).toInt) g250 ?_
            refine fx_n (pc' := 41) (lv' := lv) (st' := [.int ((Int8.ofInt 48).toInt32), .int (X17.1 53 (y4).toInt.toNat), .long (y5 * (Int64.ofInt 10))]) aj_d29 rfl (Nat.le_succ _) (fun _ => rfl) ?_
            refine fx_n (pc' := 42) (lv' := lv) (st' := [.int ((X17.1 53 (y4).toInt.toNat) - ((Int8.ofInt 48).toInt32)), .long (y5 * (Int64.ofInt 10))]) aj_d29 rfl (Nat.le_succ _) (fun _ => rfl) ?_
            refine fx_n (pc' := 43) (lv' := lv) (st' := [.long ((((X17.1 53 (y4).toInt.toNat) - ((Int8.ofInt 48).toInt32))).toInt64), .long (y5 * (Int64.ofInt 10))]) aj_d29 rfl (Nat.le_succ _) (fun _ => rfl) ?_
            refine fx_n (pc' := 44) (lv' := lv) (st' := [.long ((y5 * (Int64.ofInt 10)) + ((((X17.1 53 (y4).toInt.toNat) - ((Int8.ofInt 48).toInt32))).toInt64))]) aj_d29 rfl (Nat.le_succ _) (fun _ => rfl) ?_
            refine fx_qxL (fun x26 ex26 => ?_)
            refine fx_s1 (j := 5) aj_d29 rfl (Nat.le_succ _) (by decide) (fun _ => rfl) ?_
            obtain ⟨lv27, elv27⟩ : ∃ l, l = aj_set2 lv 5 (.long x26) := ⟨_, rfl⟩
            rw [← elv27]
            have hlv27_0 : aj_lv lv27 0 = some (.ref 78) := fx_e2 elv27 hlv_0 (by decide) (by decide) (Or.inl (by decide))
            have hlv27_1 : aj_lv lv27 1 = some (.ref 53) := fx_e2 elv27 hlv_1 (by decide) (by decide) (Or.inl (by decide))
            have hlv27_2 : aj_lv lv27 2 = some (.int p2) := fx_e2 elv27 hlv_2 (by decide) (by decide) (Or.inl (by decide))
            have hlv27_3 : aj_lv lv27 3 = some (.int p3) := fx_e2 elv27 hlv_3 (by decide) (by decide) (Or.inl (by decide))
            have hlv27_4 : aj_lv lv27 4 = some (.int y4) := fx_e2 elv27 hlv_4 (by decide) (by decide) (Or.inr rfl)
            have hlv27_5 : aj_lv lv27 5 = some (.long x26) := by rw [elv27]; exact ak_set2_eq _ _ _
            show fx_W _ _ _ 46 lv27 [] _ _
            refine fx_incq aj_d29 rfl (Nat.le_succ _) hlv27_4 (by decide) (fun x28 ex28 => ?_)
            obtain ⟨lv29, elv29⟩ : ∃ l, l = aj_set1 lv27 4 (.int x28) := ⟨_, rfl⟩
            rw [← elv29]
            have hlv29_0 : aj_lv lv29 0 = some (.ref 78) := fx_e1 elv29 hlv27_0 (by decide) (Or.inl (by decide))
            have hlv29_1 : aj_lv lv29 1 = some (.ref 53) := fx_e1 elv29 hlv27_1 (by decide) (Or.inl (by decide))
            have hlv29_2 : aj_lv lv29 2 = some (.int p2) := fx_e1 elv29 hlv27_2 (by decide) (Or.inl (by decide))
            have hlv29_3 : aj_lv lv29 3 = some (.int p3) := fx_e1 elv29 hlv27_3 (by decide) (Or.inr rfl)
            have hlv29_5 : aj_lv lv29 5 = some (.long x26) := fx_e1 elv29 hlv27_5 (by decide) (Or.inl (by decide))
            have hlv29_4 : aj_lv lv29 4 = some (.int x28) := by rw [elv29]; exact ak_set1_eq _ _ _
            show fx_W _ _ _ 49 lv29 [] _ _
            refine fx_n (pc' := 6) (lv' := lv29) (st' := []) aj_d29 rfl (Nat.le_succ _) (fun _ => rfl) ?_
            exact (ih) lv29 (x28) (x26) X17  hlv29_0 hlv29_1 hlv29_2 hlv29_3 hlv29_4 hlv29_5
theorem gx_29_ok {tb : aj_T} (p2 : Int32) (p3 : Int32) {X : fx_X} : fx_K tb 29 [.ref 78, .ref 53, .int p2, .int p3] X (fx_Q fx_qI (fun v X' => gx_29 p2 p3 X v X')) := by
  refine fx_m aj_m29_at rfl (fun N => ?_)
  refine fx_mono (Q := fx_Q fx_qI (fun v X' => ∃ n : Nat, gxE_29 p2 p3 (gxF_29 p2 p3 n) X v X')) (fun r X' h => h) ?_
  unfold gxE_29
  show fx_W _ _ _ 0 [(0, .ref 78), (1, .ref 53), (2, .int p2), (3, .int p3)] [] _ _
  obtain ⟨lv1, elv1⟩ : ∃ l : aj_V, l = [(0, .ref 78), (1, .ref 53), (2, .int p2), (3, .int p3)] := ⟨_, rfl⟩
  rw [← elv1]
  have hlv1_0 : aj_lv lv1 0 = some (.ref 78) := by rw [elv1]; rfl
  have hlv1_1 : aj_lv lv1 1 = some (.ref 53) := by rw [elv1]; rfl
  have hlv1_2 : aj_lv lv1 2 = some (.int p2) := by rw [elv1]; rfl
  have hlv1_3 : aj_lv lv1 3 = some (.int p3) := by rw [elv1]; rfl
  refine fx_i0 aj_d29 rfl (Nat.le_succ _) (fun _ => rfl) hlv1_3 ?_
  refine fx_s0 (j := 4) aj_d29 rfl (Nat.le_succ _) (by decide) (fun _ => rfl) ?_
  obtain ⟨lv2, elv2⟩ : ∃ l, l = aj_set1 lv1 4 (.int p3) := ⟨_, rfl⟩
  rw [← elv2]
  have hlv2_0 : aj_lv lv2 0 = some (.ref 78) := fx_e1 elv2 hlv1_0 (by decide) (Or.inl (by decide))
  have hlv2_1 : aj_lv lv2 1 = some (.ref 53) := fx_e1 elv2 hlv1_1 (by decide) (Or.inl (by decide))
  have hlv2_2 : aj_lv lv2 2 = some (.int p2) := fx_e1 elv2 hlv1_2 (by decide) (Or.inl (by decide))
  have hlv2_3 : aj_lv lv2 3 = some (.int p3) := fx_e1 elv2 hlv1_3 (by decide) (Or.inr rfl)
  have hlv2_4 : aj_lv lv2 4 = some (.int p3) := by rw [elv2]; exact ak_set1_eq _ _ _
  show fx_W _ _ _ 3 lv2 [] _ _
  refine fx_n (pc' := 4) (lv' := lv2) (st' := [.long (Int64.ofNat 0)]) aj_d29 rfl (Nat.le_succ _) (fun _ => rfl) ?_
  refine fx_s1 (j := 5) aj_d29 rfl (Nat.le_succ _) (by decide) (fun _ => rfl) ?_
  obtain ⟨lv3, elv3⟩ : ∃ l, l = aj_set2 lv2 5 (.long (Int64.ofNat 0)) := ⟨_, rfl⟩
  rw [← elv3]
  have hlv3_0 : aj_lv lv3 0 = some (.ref 78) := fx_e2 elv3 hlv2_0 (by decide) (by decide) (Or.inl (by decide))
  have hlv3_1 : aj_lv lv3 1 = some (.ref 53) := fx_e2 elv3 hlv2_1 (by decide) (by decide) (Or.inl (by decide))
  have hlv3_2 : aj_lv lv3 2 = some (.int p2) := fx_e2 elv3 hlv2_2 (by decide) (by decide) (Or.inl (by decide))
  have hlv3_3 : aj_lv lv3 3 = some (.int p3) := fx_e2 elv3 hlv2_3 (by decide) (by decide) (Or.inl (by decide))
  have hlv3_4 : aj_lv lv3 4 = some (.int p3) := fx_e2 elv3 hlv2_4 (by decide) (by decide) (Or.inr rfl)
  have hlv3_5 : aj_lv lv3 5 = some (.long (Int64.ofNat 0)) := by rw [elv3]; exact ak_set2_eq _ _ _
  show fx_W _ _ _ 6 lv3 [] _ _
  exact ((gxL_29 p2 p3 N)) lv3 (p3) ((Int64.ofNat 0)) X  hlv3_0 hlv3_1 hlv3_2 hlv3_3 hlv3_4 hlv3_5
def gxT_28_2 (p0 : Int64) (P : Nat → List Int32 → List Int64 → List Nat → fx_X → Int32 → fx_X → Prop) (y2 : Int32) (X : fx_X) (v : Int32) (X' : fx_X) : Prop :=
  (if (y2).toInt < 10 then ((0 ≤ (y2).toInt ∧ (y2).toInt < ((10 : Nat) : Int)) ∧ (if (X.2.1 0 (y2).toInt.toNat) = p0 then (v = (((Int8.ofInt 10).toInt32) + y2) ∧ X' = X) else (∃ x8 : Int32, x8 = y2 + Int32.ofInt 1 ∧ P 2 [x8] [] [] X v X'))) else (v = (Int32.ofInt 3) ∧ X' = X))
def gxE_28 (p0 : Int64) (P : Nat → List Int32 → List Int64 → List Nat → fx_X → Int32 → fx_X → Prop) (X : fx_X) (v : Int32) (X' : fx_X) : Prop :=
  P 2 [(Int32.ofInt 0)] [] [] X v X'
noncomputable def gxF_28 (p0 : Int64) (n : Nat) : Nat → List Int32 → List Int64 → List Nat → fx_X → Int32 → fx_X → Prop := Nat.rec (motive := fun _ => Nat → List Int32 → List Int64 → List Nat → fx_X → Int32 → fx_X → Prop) (fun _ _ _ _ _ _ _ => False) (fun _ P l is ls rs X v X' => (l = 2 ∧ ∃ (y2 : Int32), is = [y2] ∧ ls = [] ∧ rs = [] ∧ gxT_28_2 p0 P y2 X v X')) n
theorem gxI_28_2 {p0 : Int64} {n : Nat} {y2 : Int32} {X : fx_X} {v : Int32} {X' : fx_X} (h : gxT_28_2 p0 (gxF_28 p0 n) y2 X v X') : gxF_28 p0 (n + 1) 2 [y2] [] [] X v X' := ⟨rfl, y2, rfl, rfl, rfl, h⟩
theorem gxO_28_2 {p0 : Int64} {n : Nat} {y2 : Int32} {X : fx_X} {v : Int32} {X' : fx_X} (h : gxF_28 p0 (n + 1) 2 [y2] [] [] X v X') : gxT_28_2 p0 (gxF_28 p0 n) y2 X v X' := by
  rcases h with ⟨-, _, e1, e2, e3, h⟩
  · cases e1; cases e2; cases e3; exact h
def gx_28 (p0 : Int64) (X : fx_X) (v : Int32) (X' : fx_X) : Prop := ∃ n : Nat, gxE_28 p0 (gxF_28 p0 n) X v X'
theorem gxL_28 {tb : aj_T} (p0 : Int64) : ∀ N : Nat, (∀ (lv : aj_V) (y2 : Int32) (X : fx_X), aj_lv lv 0 = some (.long p0) → aj_lv lv 2 = some (.int y2) → fx_W tb aj_m28 N 2 lv [] X (fx_Q fx_qI (fun v X' => ∃ n : Nat, gxF_28 p0 n 2 [y2] [] [] X v X'))) := by
  intro N
  induction N with
  | zero => exact (by intros; exact fx_z)
  | succ N ih =>
    skip
    · intro lv y2 X hlv_0 hlv_2
      refine fx_mono (Q := fx_Q fx_qI (fun v X' => ∃ n : Nat, gxT_28_2 p0 (gxF_28 p0 n) y2 X v X')) (fun r X' ⟨v, e, n, z⟩ => ⟨v, e, n + 1, gxI_28_2 z⟩) ?_
      unfold gxT_28_2
      refine fx_i0 aj_d28 rfl (Nat.le_refl _) (fun _ => rfl) hlv_2 ?_
      refine fx_gs (a := 0) (v := 0) aj_d28 rfl (Nat.le_succ _) rfl (kd := 1) (n := 10) rfl (by decide) (fun hA3 => ?_)
      refine fx_al aj_d28 rfl (Nat.le_succ _) ?_
      rw [(hA3 : X.2.2.2.1 0 = (1, 10))]
      show fx_W _ _ _ 7 lv [.int (Int32.ofNat 10), .int y2] _ _
      refine fx_b (tgt := 31) aj_d28 rfl (Nat.le_succ _) rfl (fun q4 => ?_) (fun q4 => ?_)
      · skip
        refine fx_qe (c := (y2).toInt < 10) (fx_t_ge q4) ?_
        show fx_W _ _ _ 31 lv [] _ _
        refine fx_n (pc' := 32) (lv' := lv) (st' := [.int (Int32.ofInt 3)]) aj_d28 rfl (Nat.le_succ _) (fun _ => rfl) ?_
        exact fx_ri aj_d28 rfl ⟨_, rfl, 0, rfl, rfl⟩
      · skip
        refine fx_qi (c := (y2).toInt < 10) (fx_f_ge q4) ?_
        show fx_W _ _ _ 10 lv [] _ _
        refine fx_gs (a := 0) (v := 0) aj_d28 rfl (Nat.le_succ _) rfl (kd := 1) (n := 10) rfl (by decide) (fun hA5 => ?_)
        refine fx_i0 aj_d28 rfl (Nat.le_succ _) (fun _ => rfl) hlv_2 ?_
        refine fx_ldL aj_d28 rfl (Nat.le_succ _) (fun g60 g61 => ?_)
        show fx_W _ _ _ 15 lv [.long (X.2.1 0 (y2).toInt.toNat)] _ _
        refine fx_qa (c := 0 ≤ (y2).toInt ∧ (y2).toInt < ((10 : Nat) : Int)) ⟨g60, fx_lnk g61 hA5⟩ ?_
        refine fx_i1 aj_d28 rfl (Nat.le_succ _) (fun _ => rfl) hlv_0 ?_
        refine fx_n (pc' := 17) (lv' := lv) (st' := [.int (lg_cmp (X.2.1 0 (y2).toInt.toNat) p0)]) aj_d28 rfl (Nat.le_succ _) (fun _ => rfl) ?_
        refine fx_b0 (tgt := 25) aj_d28 rfl (Nat.le_succ _) rfl (fun q7 => ?_) (fun q7 => ?_)
        · skip
          refine fx_qe (c := (X.2.1 0 (y2).toInt.toNat) = p0) (fun z => (fx_t_ne q7) (fx_lc.mpr z)) ?_
          show fx_W _ _ _ 25 lv [] _ _
          refine fx_incq aj_d28 rfl (Nat.le_succ _) hlv_2 (by decide) (fun x8 ex8 => ?_)
          obtain ⟨lv9, elv9⟩ : ∃ l, l = aj_set1 lv 2 (.int x8) := ⟨_, rfl⟩
          rw [← elv9]
          have hlv9_0 : aj_lv lv9 0 = some (.long p0) := fx_e1 elv9 hlv_0 (by decide) (Or.inl (by decide))
          have hlv9_2 : aj_lv lv9 2 = some (.int x8) := by rw [elv9]; exact ak_set1_eq _ _ _
          show fx_W _ _ _ 28 lv9 [] _ _
          refine fx_n (pc' := 2) (lv' := lv9) (st' := []) aj_d28 rfl (Nat.le_succ _) (fun _ => rfl) ?_
          exact (ih) lv9 (x8) X  hlv9_0 hlv9_2
        · skip
          refine fx_qi (c := (X.2.1 0 (y2).toInt.toNat) = p0) (fx_lc.mp (fx_f_ne q7)) ?_
          show fx_W _ _ _ 20 lv [] _ _
          refine fx_n (pc' := 22) (lv' := lv) (st' := [.int ((Int8.ofInt 10).toInt32)]) aj_d28 rfl (Nat.le_succ _) (fun _ => rfl) ?_
          refine fx_i0 aj_d28 rfl (Nat.le_succ _) (fun _ => rfl) hlv_2 ?_
          refine fx_n (pc' := 24) (lv' := lv) (st' := [.int (((Int8.ofInt 10).toInt32) + y2)]) aj_d28 rfl (Nat.le_succ _) (fun _ => rfl) ?_
          exact fx_ri aj_d28 rfl ⟨_, rfl, 0, rfl, rfl⟩
theorem gx_28_ok {tb : aj_T} (p0 : Int64) {X : fx_X} : fx_K tb 28 [.long p0] X (fx_Q fx_qI (fun v X' => gx_28 p0 X v X')) := by
  refine fx_m aj_m28_at rfl (fun N => ?_)
  refine fx_mono (Q := fx_Q fx_qI (fun v X' => ∃ n : Nat, gxE_28 p0 (gxF_28 p0 n) X v X')) (fun r X' h => h) ?_
  unfold gxE_28
  show fx_W _ _ _ 0 [(0, .long p0)] [] _ _
  obtain ⟨lv1, elv1⟩ : ∃ l : aj_V, l = [(0, .long p0)] := ⟨_, rfl⟩
  rw [← elv1]
  have hlv1_0 : aj_lv lv1 0 = some (.long p0) := by rw [elv1]; rfl
  refine fx_n (pc' := 1) (lv' := lv1) (st' := [.int (Int32.ofInt 0)]) aj_d28 rfl (Nat.le_succ _) (fun _ => rfl) ?_
  refine fx_s0 (j := 2) aj_d28 rfl (Nat.le_succ _) (by decide) (fun _ => rfl) ?_
  obtain ⟨lv2, elv2⟩ : ∃ l, l = aj_set1 lv1 2 (.int (Int32.ofInt 0)) := ⟨_, rfl⟩
  rw [← elv2]
  have hlv2_0 : aj_lv lv2 0 = some (.long p0) := fx_e1 elv2 hlv1_0 (by decide) (Or.inl (by decide))
  have hlv2_2 : aj_lv lv2 2 = some (.int (Int32.ofInt 0)) := by rw [elv2]; exact ak_set1_eq _ _ _
  show fx_W _ _ _ 2 lv2 [] _ _
  exact ((gxL_28 p0 N)) lv2 ((Int32.ofInt 0)) X  hlv2_0 hlv2_2
def gxT_25_6 (p2 : Int32) (p3 : Int32) (P : Nat → List Int32 → List Int64 → List Nat → fx_X → Int32 → fx_X → Prop) (y4 : Int32) (y5 : Int64) (X : fx_X) (v : Int32) (X' : fx_X) : Prop :=
  (if (y4).toInt < (p2).toInt then ((if (y4).toInt < ((Int32.ofNat (X.2.2.2.1 53).2)).toInt then ((0 ≤ (y4).toInt) ∧ ∃ (w22 : Int32) (X21 : fx_X), gx_24 (X.1 53 (y4).toInt.toNat) X w22 X21 ∧ (if (w22).toInt = 0 then ((0 ≤ (y4).toInt) ∧ ∃ (w31 : Int32) (X30 : fx_X), gx_26 (X21.1 53 (y4).toInt.toNat) X21 w31 X30 ∧ (if (w31).toInt = 0 then ((if 8 < ((y4 - p3)).toInt then (∃ (w39 : Unit) (X38 : fx_X), gx_27 (Int32.ofInt 2) p3 (Int64.ofNat 0) X30 w39 X38 ∧ v = p3 ∧ X' = X38) else (∃ (w35 : Int32) (X34 : fx_X), gx_28 y5 X30 w35 X34 ∧ ∃ (w37 : Unit) (X36 : fx_X), gx_27 w35 p3 y5 X34 w37 X36 ∧ v = y4 ∧ X' = X36))) else ((0 ≤ (y4).toInt) ∧ ∃ x41 : Int64, x41 = ((y5 <<< ((((Int8.ofInt 8).toInt32)).toInt64 &&& 63)) ||| (((X30.1 53 (y4).toInt.toNat)).toInt64)) ∧ ∃ x43 : Int32, x43 = y4 + Int32.ofInt 1 ∧ P 6 [x43] [x41] [] X30 v X'))) else ((0 ≤ (y4).toInt) ∧ ∃ x25 : Int64, x25 = ((y5 <<< ((((Int8.ofInt 8).toInt32)).toInt64 &&& 63)) ||| (((X21.1 53 (y4).toInt.toNat)).toInt64)) ∧ ∃ x27 : Int32, x27 = y4 + Int32.ofInt 1 ∧ P 6 [x27] [x25] [] X21 v X'))) else ((if 8 < ((y4 - p3)).toInt then (∃ (w19 : Unit) (X18 : fx_X), gx_27 (Int32.ofInt 2) p3 (Int64.ofNat 0) X w19 X18 ∧ v = p3 ∧ X' = X18) else (∃ (w15 : Int32) (X14 : fx_X), gx_28 y5 X w15 X14 ∧ ∃ (w17 : Unit) (X16 : fx_X), gx_27 w15 p3 y5 X14 w17 X16 ∧ v = y4 ∧ X' = X16))))) else ((if 8 < ((y4 - p3)).toInt then (∃ (w11 : Unit) (X10 : fx_X), gx_27 (Int32.ofInt 2) p3 (Int64.ofNat 0) X w11 X10 ∧ v = p3 ∧ X' = X10) else (∃ (w7 : Int32) (X6 : fx_X), gx_28 y5 X w7 X6 ∧ ∃ (w9 : Unit) (X8 : fx_X), gx_27 w7 p3 y5 X6 w9 X8 ∧ v = y4 ∧ X' = X8))))
def gxE_25 (p2 : Int32) (p3 : Int32) (P : Nat → List Int32 → List Int64 → List Nat → fx_X → Int32 → fx_X → Prop) (X : fx_X) (v : Int32) (X' : fx_X) : Prop :=
  P 6 [p3] [(Int64.ofNat 0)] [] X v X'
noncomputable def gxF_25 (p2 : Int32) (p3 : Int32) (n : Nat) : Nat → List Int32 → List Int64 → List Nat → fx_X → Int32 → fx_X → Prop := Nat.rec (motive := fun _ => Nat → List Int32 → List Int64 → List Nat → fx_X → Int32 → fx_X → Prop) (fun _ _ _ _ _ _ _ => False) (fun _ P l is ls rs X v X' => (l = 6 ∧ ∃ (y4 : Int32) (y5 : Int64), is = [y4] ∧ ls = [y5] ∧ rs = [] ∧ gxT_25_6 p2 p3 P y4 y5 X v X')) n
theorem gxI_25_6 {p2 : Int32} {p3 : Int32} {n : Nat} {y4 : Int32} {y5 : Int64} {X : fx_X} {v : Int32} {X' : fx_X} (h : gxT_25_6 p2 p3 (gxF_25 p2 p3 n) y4 y5 X v X') : gxF_25 p2 p3 (n + 1) 6 [y4] [y5] [] X v X' := ⟨rfl, y4, y5, rfl, rfl, rfl, h⟩
theorem gxO_25_6 {p2 : Int32} {p3 : Int32} {n : Nat} {y4 : Int32} {y5 : Int64} {X : fx_X} {v : Int32} {X' : fx_X} (h : gxF_25 p2 p3 (n + 1) 6 [y4] [y5] [] X v X') : gxT_25_6 p2 p3 (gxF_25 p2 p3 n) y4 y5 X v X' := by
  rcases h with ⟨-, _, _, e1, e2, e3, h⟩
  · cases e1; cases e2; cases e3; exact h
def gx_25 (p2 : Int32) (p3 : Int32) (X : fx_X) (v : Int32) (X' : fx_X) : Prop := ∃ n : Nat, gxE_25 p2 p3 (gxF_25 p2 p3 n) X v X'
theorem gxL_25 {tb : aj_T} (p2 : Int32) (p3 : Int32) : ∀ N : Nat, (∀ (lv : aj_V) (y4 : Int32) (y5 : Int64) (X : fx_X), aj_lv lv 0 = some (.ref 78) → aj_lv lv 1 = some (.ref 53) → aj_lv lv 2 = some (.int p2) → aj_lv lv 3 = some (.int p3) → aj_lv lv 4 = some (.int y4) → aj_lv lv 5 = some (.long y5) → fx_W tb aj_m25 N 6 lv [] X (fx_Q fx_qI (fun v X' => ∃ n : Nat, gxF_25 p2 p3 n 6 [y4] [y5] [] X v X'))) := by
  intro N
  induction N with
  | zero => exact (by intros; exact fx_z)
  | succ N ih =>
    skip
    · intro lv y4 y5 X hlv_0 hlv_1 hlv_2 hlv_3 hlv_4 hlv_5
      refine fx_mono (Q := fx_Q fx_qI (fun v X' => ∃ n : Nat, gxT_25_6 p2 p3 (gxF_25 p2 p3 n) y4 y5 X v X')) (fun r X' ⟨v, e, n, z⟩ => ⟨v, e, n + 1, gxI_25_6 z⟩) ?_
      unfold gxT_25_6
      refine fx_i0 aj_d25 rfl (Nat.le_refl _) (fun _ => rfl) hlv_4 ?_
      refine fx_i0 aj_d25 rfl (Nat.le_succ _) (fun _ => rfl) hlv_2 ?_
      refine fx_b (tgt := 58) aj_d25 rfl (Nat.le_succ _) rfl (fun q4 => ?_) (fun q4 => ?_)
      · skip
        refine fx_qe (c := (y4).toInt < (p2).toInt) (fx_t_ge q4) ?_
        show fx_W _ _ _ 58 lv [] _ _
        refine fx_i0 aj_d25 rfl (Nat.le_succ _) (fun _ => rfl) hlv_4 ?_
        refine fx_i0 aj_d25 rfl (Nat.le_succ _) (fun _ => rfl) hlv_3 ?_
        refine fx_n (pc' := 62) (lv' := lv) (st' := [.int (y4 - p3)]) aj_d25 rfl (Nat.le_succ _) (fun _ => rfl) ?_
        refine fx_n (pc' := 64) (lv' := lv) (st' := [.int ((Int8.ofInt 8).toInt32), .int (y4 - p3)]) aj_d25 rfl (Nat.le_succ _) (fun _ => rfl) ?_
        refine fx_b (tgt := 76) aj_d25 rfl (Nat.le_succ _) rfl (fun q5 => ?_) (fun q5 => ?_)
        · skip
          refine fx_qe (c := 8 < ((y4 - p3)).toInt) (fx_t_le q5) ?_
          show fx_W _ _ _ 76 lv [] _ _
          refine fx_i2 aj_d25 rfl (Nat.le_succ _) (fun _ => rfl) hlv_0 ?_
          refine fx_i1 aj_d25 rfl (Nat.le_succ _) (fun _ => rfl) hlv_5 ?_
          refine fx_cs aj_d25 rfl (Nat.le_succ _) rfl rfl [_] rfl rfl (gx_28_ok y5) ?_
          rintro _ X6 ⟨w7, rfl, hR6⟩ hok6 hle6
          refine fx_qc hR6 ?_
          show fx_W _ _ _ 82 lv [.int w7, .ref 78] _ _
          refine fx_i0 aj_d25 rfl (Nat.le_succ _) (fun _ => rfl) hlv_3 ?_
          refine fx_i1 aj_d25 rfl (Nat.le_succ _) (fun _ => rfl) hlv_5 ?_
          refine fx_cv aj_d25 rfl (Nat.le_succ _) rfl [_, _, _] rfl rfl (gx_27_ok w7 p3 y5) ?_
          rintro _ X8 ⟨w9, rfl, hR8⟩ hok8 hle8
          refine fx_qc hR8 ?_
          show fx_W _ _ _ 88 lv [] _ _
          refine fx_i0 aj_d25 rfl (Nat.le_succ _) (fun _ => rfl) hlv_4 ?_
          exact fx_ri aj_d25 rfl ⟨_, rfl, 0, rfl, rfl⟩
        · skip
          refine fx_qi (c := 8 < ((y4 - p3)).toInt) (fx_f_le q5) ?_
          show fx_W _ _ _ 67 lv [] _ _
          refine fx_i2 aj_d25 rfl (Nat.le_succ _) (fun _ => rfl) hlv_0 ?_
          refine fx_n (pc' := 69) (lv' := lv) (st' := [.int (Int32.ofInt 2), .ref 78]) aj_d25 rfl (Nat.le_succ _) (fun _ => rfl) ?_
          refine fx_i0 aj_d25 rfl (Nat.le_succ _) (fun _ => rfl) hlv_3 ?_
          refine fx_n (pc' := 71) (lv' := lv) (st' := [.long (Int64.ofNat 0), .int p3, .int (Int32.ofInt 2), .ref 78]) aj_d25 rfl (Nat.le_succ _) (fun _ => rfl) ?_
          refine fx_cv aj_d25 rfl (Nat.le_succ _) rfl [_, _, _] rfl rfl (gx_27_ok (Int32.ofInt 2) p3 (Int64.ofNat 0)) ?_
          rintro _ X10 ⟨w11, rfl, hR10⟩ hok10 hle10
          refine fx_qc hR10 ?_
          show fx_W _ _ _ 74 lv [] _ _
          refine fx_i0 aj_d25 rfl (Nat.le_succ _) (fun _ => rfl) hlv_3 ?_
          exact fx_ri aj_d25 rfl ⟨_, rfl, 0, rfl, rfl⟩
      · skip
        refine fx_qi (c := (y4).toInt < (p2).toInt) (fx_f_ge q4) ?_
        show fx_W _ _ _ 12 lv [] _ _
        refine fx_i0 aj_d25 rfl (Nat.le_succ _) (fun _ => rfl) hlv_4 ?_
        refine fx_i2 aj_d25 rfl (Nat.le_succ _) (fun _ => rfl) hlv_1 ?_
        refine fx_al aj_d25 rfl (Nat.le_succ _) ?_
        show fx_W _ _ _ 16 lv [.int (Int32.ofNat (X.2.2.2.1 53).2), .int y4] _ _
        refine fx_b (tgt := 58) aj_d25 rfl (Nat.le_succ _) rfl (fun q12 => ?_) (fun q12 => ?_)
        · skip
          refine fx_qe (c := (y4).toInt < ((Int32.ofNat (X.2.2.2.1 53).2)).toInt) (fx_t_ge q12) ?_
          show fx_W _ _ _ 58 lv [] _ _
          refine fx_i0 aj_d25 rfl (Nat.le_succ _) (fun _ => rfl) hlv_4 ?_
          refine fx_i0 aj_d25 rfl (Nat.le_succ _) (fun _ => rfl) hlv_3 ?_
          refine fx_n (pc' := 62) (lv' := lv) (st' := [.int (y4 - p3)]) aj_d25 rfl (Nat.le_succ _) (fun _ => rfl) ?_
          refine fx_n (pc' := 64) (lv' := lv) (st' := [.int ((Int8.ofInt 8).toInt32), .int (y4 - p3)]) aj_d25 rfl (Nat.le_succ _) (fun _ => rfl) ?_
          refine fx_b (tgt := 76) aj_d25 rfl (Nat.le_succ _) rfl (fun q13 => ?_) (fun q13 => ?_)
          · skip
            refine fx_qe (c := 8 < ((y4 - p3)).toInt) (fx_t_le q13) ?_
            show fx_W _ _ _ 76 lv [] _ _
            refine fx_i2 aj_d25 rfl (Nat.le_succ _) (fun _ => rfl) hlv_0 ?_
            refine fx_i1 aj_d25 rfl (Nat.le_succ _) (fun _ => rfl) hlv_5 ?_
            refine fx_cs aj_d25 rfl (Nat.le_succ _) rfl rfl [_] rfl rfl (gx_28_ok y5) ?_
            rintro _ X14 ⟨w15, rfl, hR14⟩ hok14 hle14
            refine fx_qc hR14 ?_
            show fx_W _ _ _ 82 lv [.int w15, .ref 78] _ _
            refine fx_i0 aj_d25 rfl (Nat.le_succ _) (fun _ => rfl) hlv_3 ?_
            refine fx_i1 aj_d25 rfl (Nat.le_succ _) (fun _ => rfl) hlv_5 ?_
            refine fx_cv aj_d25 rfl (Nat.le_succ _) rfl [_, _, _] rfl rfl (gx_27_ok w15 p3 y5) ?_
            rintro _ X16 ⟨w17, rfl, hR16⟩ hok16 hle16
            refine fx_qc hR16 ?_
            show fx_W _ _ _ 88 lv [] _ _
            refine fx_i0 aj_d25 rfl (Nat.le_succ _) (fun _ => rfl) hlv_4 ?_
            exact fx_ri aj_d25 rfl ⟨_, rfl, 0, rfl, rfl⟩
          · skip
            refine fx_qi (c := 8 < ((y4 - p3)).toInt) (fx_f_le q13) ?_
            show fx_W _ _ _ 67 lv [] _ _
            refine fx_i2 aj_d25 rfl (Nat.le_succ _) (fun _ => rfl) hlv_0 ?_
            refine fx_n (pc' := 69) (lv' := lv) (st' := [.int (Int32.ofInt 2), .ref 78]) aj_d25 rfl (Nat.le_succ _) (fun _ => rfl) ?_
            refine fx_i0 aj_d25 rfl (Nat.le_succ _) (fun _ => rfl) hlv_3 ?_
            refine fx_n (pc' := 71) (lv' := lv) (st' := [.long (Int64.ofNat 0), .int p3, .int (Int32.ofInt 2), .ref 78]) aj_d25 rfl (Nat.le_succ _) (fun _ => rfl) ?_
            refine fx_cv aj_d25 rfl (Nat.le_succ _) rfl [_, _, _] rfl rfl (gx_27_ok (Int32.ofInt 2) p3 (Int64.ofNat 0)) ?_
            rintro _ X18 ⟨w19, rfl, hR18⟩ hok18 hle18
            refine fx_qc hR18 ?_
            show fx_W _ _ _ 74 lv [] _ _
            refine fx_i0 aj_d25 rfl (Nat.le_succ _) (fun _ => rfl) hlv_3 ?_
            exact fx_ri aj_d25 rfl ⟨_, rfl, 0, rfl, rfl⟩
        · skip
          refine fx_qi (c := (y4).toInt < ((Int32.ofNat (X.2.2.2.1 53).2)).toInt) (fx_f_ge q12) ?_
          show fx_W _ _ _ 19 lv [] _ _
          refine fx_i2 aj_d25 rfl (Nat.le_succ _) (fun _ => rfl) hlv_1 ?_
          refine fx_i0 aj_d25 rfl (Nat.le_succ _) (fun _ => rfl) hlv_4 ?_
          refine fx_ld aj_d25 (Or.inr (Or.inl rfl)) rfl (Nat.le_succ _) (fun g200 g201 => ?_)
          show fx_W _ _ _ 23 lv [.int (X.1 53 (y4).toInt.toNat)] _ _
          refine fx_qa (c := 0 ≤ (y4).toInt) g200 ?_
          refine fx_cs aj_d25 rfl (Nat.le_succ _) rfl rfl [_] rfl rfl (gx_24_ok (X.1 53 (y4).toInt.toNat)) ?_
          rintro _ X21 ⟨w22, rfl, hR21⟩ hok21 hle21
          refine fx_qc hR21 ?_
          show fx_W _ _ _ 26 lv [.int w22] _ _
          refine fx_b0 (tgt := 39) aj_d25 rfl (Nat.le_succ _) rfl (fun q23 => ?_) (fun q23 => ?_)
          · skip
            refine fx_qe (c := (w22).toInt = 0) (fx_t_ne q23) ?_
            show fx_W _ _ _ 39 lv [] _ _
            refine fx_i1 aj_d25 rfl (Nat.le_succ _) (fun _ => rfl) hlv_5 ?_
            refine fx_n (pc' := 43) (lv' := lv) (st' := [.int ((Int8.ofInt 8).toInt32), .long y5]) aj_d25 rfl (Nat.le_succ _) (fun _ => rfl) ?_
            refine fx_n (pc' := 44) (lv' := lv) (st' := [.long (y5 <<< ((((Int8.ofInt 8).toInt32)).toInt64 &&& 63))]) aj_d25 rfl (Nat.le_succ _) (fun _ => rfl) ?_
            refine fx_i2 aj_d25 rfl (Nat.le_succ _) (fun _ => rfl) hlv_1 ?_
            refine fx_i0 aj_d25 rfl (Nat.le_succ _) (fun _ => rfl) hlv_4 ?_
            refine fx_ld aj_d25 (Or.inr (Or.inl rfl)) rfl (Nat.le_succ _) (fun g240 g241 => ?_)
            show fx_W _ _ _ 48 lv [.int (X21.1 53 (y4).toInt.toNat), .long (y5 <<< ((((Int8.ofInt 8).toInt32)).toInt64 &&& 63))] _ _
            refine fx_qa (c := 0 ≤ (y4).toInt) g240 ?_
            refine fx_n (pc' := 49) (lv' := lv) (st' := [.long (((X21.1 53 (y4).toInt.toNat)).toInt64), .long (y5 <<< ((((Int8.ofInt 8).toInt32)).toInt64 &&& 63))]) aj_d25 rfl (Nat.le_succ _) (fun _ => rfl) ?_
            refine fx_n (pc' := 50) (lv' := lv) (st' := [.long ((y5 <<< ((((Int8.ofInt 8).toInt32)).toInt64 &&& 63)) ||| (((X21.1 53 (y4).toInt.toNat)).toInt64))]) aj_d25 rfl (Nat.le_succ _) (fun _ => rfl) ?_
            refine fx_qxL (fun x25 ex25 => ?_)
            refine fx_s1 (j := 5) aj_d25 rfl (Nat.le_succ _) (by decide) (fun _ => rfl) ?_
            obtain ⟨lv26, elv26⟩ : ∃ l, l = aj_set2 lv 5 (.long x25) := ⟨_, rfl⟩
            rw [← elv26]
            have hlv26_0 : aj_lv lv26 0 = some (.ref 78) := fx_e2 elv26 hlv_0 (by decide) (by decide) (Or.inl (by decide))
            have hlv26_1 : aj_lv lv26 1 = some (.ref 53) := fx_e2 elv26 hlv_1 (by decide) (by decide) (Or.inl (by decide))
            have hlv26_2 : aj_lv lv26 2 = some (.int p2) := fx_e2 elv26 hlv_2 (by decide) (by decide) (Or.inl (by decide))
            have hlv26_3 : aj_lv lv26 3 = some (.int p3) := fx_e2 elv26 hlv_3 (by decide) (by decide) (Or.inl (by decide))
            have hlv26_4 : aj_lv lv26 4 = some (.int y4) := fx_e2 elv26 hlv_4 (by decide) (by decide) (Or.inr rfl)
            have hlv26_5 : aj_lv lv26 5 = some (.long x25) := by rw [elv26]; exact ak_set2_eq _ _ _
            show fx_W _ _ _ 52 lv26 [] _ _
            refine fx_incq aj_d25 rfl (Nat.le_succ _) hlv26_4 (by decide) (fun x27 ex27 => ?_)
            obtain ⟨lv28, elv28⟩ : ∃ l, l = aj_set1 lv26 4 (.int x27) := ⟨_, rfl⟩
            rw [← elv28]
            have hlv28_0 : aj_lv lv28 0 = some (.ref 78) := fx_e1 elv28 hlv26_0 (by decide) (Or.inl (by decide))
            have hlv28_1 : aj_lv lv28 1 = some (.ref 53) := fx_e1 elv28 hlv26_1 (by decide) (Or.inl (by decide))
            have hlv28_2 : aj_lv lv28 2 = some (.int p2) := fx_e1 elv28 hlv26_2 (by decide) (Or.inl (by decide))
            have hlv28_3 : aj_lv lv28 3 = some (.int p3) := fx_e1 elv28 hlv26_3 (by decide) (Or.inr rfl)
            have hlv28_5 : aj_lv lv28 5 = some (.long x25) := fx_e1 elv28 hlv26_5 (by decide) (Or.inl (by decide))
            have hlv28_4 : aj_lv lv28 4 = some (.int x27) := by rw [elv28]; exact ak_set1_eq _ _ _
            show fx_W _ _ _ 55 lv28 [] _ _
            refine fx_n (pc' := 6) (lv' := lv28) (st' := []) aj_d25 rfl (Nat.le_succ _) (fun _ => rfl) ?_
            exact (ih) lv28 (x27) (x25) X21  hlv28_0 hlv28_1 hlv28_2 hlv28_3 hlv28_4 hlv28_5
          · skip
            refine fx_qi (c := (w22).toInt = 0) (fx_f_ne q23) ?_
            show fx_W _ _ _ 29 lv [] _ _
            refine fx_i2 aj_d25 rfl (Nat.le_succ _) (fun _ => rfl) hlv_1 ?_
            refine fx_i0 aj_d25 rfl (Nat.le_succ _) (fun _ => rfl) hlv_4 ?_
            refine fx_ld aj_d25 (Or.inr (Or.inl rfl)) rfl (Nat.le_succ _) (fun g290 g291 => ?_)
            show fx_W _ _ _ 33 lv [.int (X21.1 53 (y4).toInt.toNat)] _ _
            refine fx_qa (c := 0 ≤ (y4).toInt) g290 ?_
            refine fx_cs aj_d25 rfl (Nat.le_succ _) rfl rfl [_] rfl rfl (gx_26_ok (X21.1 53 (y4).toInt.toNat)) ?_
            rintro _ X30 ⟨w31, rfl, hR30⟩ hok30 hle30
            refine fx_qc hR30 ?_
            show fx_W _ _ _ 36 lv [.int w31] _ _
            refine fx_b0 (tgt := 58) aj_d25 rfl (Nat.le_succ _) rfl (fun q32 => ?_) (fun q32 => ?_)
            · skip
              refine fx_qi (c := (w31).toInt = 0) (fx_t_eq q32) ?_
              show fx_W _ _ _ 58 lv [] _ _
              refine fx_i0 aj_d25 rfl (Nat.le_succ _) (fun _ => rfl) hlv_4 ?_
              refine fx_i0 aj_d25 rfl (Nat.le_succ _) (fun _ => rfl) hlv_3 ?_
              refine fx_n (pc' := 62) (lv' := lv) (st' := [.int (y4 - p3)]) aj_d25 rfl (Nat.le_succ _) (fun _ => rfl) ?_
              refine fx_n (pc' := 64) (lv' := lv) (st' := [.int ((Int8.ofInt 8).toInt32), .int (y4 - p3)]) aj_d25 rfl (Nat.le_succ _) (fun _ => rfl) ?_
              refine fx_b (tgt := 76) aj_d25 rfl (Nat.le_succ _) rfl (fun q33 => ?_) (fun q33 => ?_)
              · skip
                refine fx_qe (c := 8 < ((y4 - p3)).toInt) (fx_t_le q33) ?_
                show fx_W _ _ _ 76 lv [] _ _
                refine fx_i2 aj_d25 rfl (Nat.le_succ _) (fun _ => rfl) hlv_0 ?_
                refine fx_i1 aj_d25 rfl (Nat.le_succ _) (fun _ => rfl) hlv_5 ?_
                refine fx_cs aj_d25 rfl (Nat.le_succ _) rfl rfl [_] rfl rfl (gx_28_ok y5) ?_
                rintro _ X34 ⟨w35, rfl, hR34⟩ hok34 hle34
                refine fx_qc hR34 ?_
                show fx_W _ _ _ 82 lv [.int w35, .ref 78] _ _
                refine fx_i0 aj_d25 rfl (Nat.le_succ _) (fun _ => rfl) hlv_3 ?_
                refine fx_i1 aj_d25 rfl (Nat.le_succ _) (fun _ => rfl) hlv_5 ?_
                refine fx_cv aj_d25 rfl (Nat.le_succ _) rfl [_, _, _] rfl rfl (gx_27_ok w35 p3 y5) ?_
                rintro _ X36 ⟨w37, rfl, hR36⟩ hok36 hle36
                refine fx_qc hR36 ?_
                show fx_W _ _ _ 88 lv [] _ _
                refine fx_i0 aj_d25 rfl (Nat.le_succ _) (fun _ => rfl) hlv_4 ?_
                exact fx_ri aj_d25 rfl ⟨_, rfl, 0, rfl, rfl⟩
              · skip
                refine fx_qi (c := 8 < ((y4 - p3)).toInt) (fx_f_le q33) ?_
                show fx_W _ _ _ 67 lv [] _ _
                refine fx_i2 aj_d25 rfl (Nat.le_succ _) (fun _ => rfl) hlv_0 ?_
                refine fx_n (pc' := 69) (lv' := lv) (st' := [.int (Int32.ofInt 2), .ref 78]) aj_d25 rfl (Nat.le_succ _) (fun _ => rfl) ?_
                refine fx_i0 aj_d25 rfl (Nat.le_succ _) (fun _ => rfl) hlv_3 ?_
                refine fx_n (pc' := 71) (lv' := lv) (st' := [.long (Int64.ofNat 0), .int p3, .int (Int32.ofInt 2), .ref 78]) aj_d25 rfl (Nat.le_succ _) (fun _ => rfl) ?_
                refine fx_cv aj_d25 rfl (Nat.le_succ _) rfl [_, _, _] rfl rfl (gx_27_ok (Int32.ofInt 2) p3 (Int64.ofNat 0)) ?_
                rintro _ X38 ⟨w39, rfl, hR38⟩ hok38 hle38
                refine fx_qc hR38 ?_
                show fx_W _ _ _ 74 lv [] _ _
                refine fx_i0 aj_d25 rfl (Nat.le_succ _) (fun _ => rfl) hlv_3 ?_
                exact fx_ri aj_d25 rfl ⟨_, rfl, 0, rfl, rfl⟩
            · skip
              refine fx_qe (c := (w31).toInt = 0) (fx_f_eq q32) ?_
              show fx_W _ _ _ 39 lv [] _ _
              refine fx_i1 aj_d25 rfl (Nat.le_succ _) (fun _ => rfl) hlv_5 ?_
              refine fx_n (pc' := 43) (lv' := lv) (st' := [.int ((Int8.ofInt 8).toInt32), .long y5]) aj_d25 rfl (Nat.le_succ _) (fun _ => rfl) ?_
              refine fx_n (pc' := 44) (lv' := lv) (st' := [.long (y5 <<< ((((Int8.ofInt 8).toInt32)).toInt64 &&& 63))]) aj_d25 rfl (Nat.le_succ _) (fun _ => rfl) ?_
              refine fx_i2 aj_d25 rfl (Nat.le_succ _) (fun _ => rfl) hlv_1 ?_
              refine fx_i0 aj_d25 rfl (Nat.le_succ _) (fun _ => rfl) hlv_4 ?_
              refine fx_ld aj_d25 (Or.inr (Or.inl rfl)) rfl (Nat.le_succ _) (fun g400 g401 => ?_)
              show fx_W _ _ _ 48 lv [.int (X30.1 53 (y4).toInt.toNat), .long (y5 <<< ((((Int8.ofInt 8).toInt32)).toInt64 &&& 63))] _ _
              refine fx_qa (c := 0 ≤ (y4).toInt) g400 ?_
              refine fx_n (pc' := 49) (lv' := lv) (st' := [.long (((X30.1 53 (y4).toInt.toNat)).toInt64), .long (y5 <<< ((((Int8.ofInt 8).toInt32)).toInt64 &&& 63))]) aj_d25 rfl (Nat.le_succ _) (fun _ => rfl) ?_
              refine fx_n (pc' := 50) (lv' := lv) (st' := [.long ((y5 <<< ((((Int8.ofInt 8).toInt32)).toInt64 &&& 63)) ||| (((X30.1 53 (y4).toInt.toNat)).toInt64))]) aj_d25 rfl (Nat.le_succ _) (fun _ => rfl) ?_
              refine fx_qxL (fun x41 ex41 => ?_)
              refine fx_s1 (j := 5) aj_d25 rfl (Nat.le_succ _) (by decide) (fun _ => rfl) ?_
              obtain ⟨lv42, elv42⟩ : ∃ l, l = aj_set2 lv 5 (.long x41) := ⟨_, rfl⟩
              rw [← elv42]
              have hlv42_0 : aj_lv lv42 0 = some (.ref 78) := fx_e2 elv42 hlv_0 (by decide) (by decide) (Or.inl (by decide))
              have hlv42_1 : aj_lv lv42 1 = some (.ref 53) := fx_e2 elv42 hlv_1 (by decide) (by decide) (Or.inl (by decide))
              have hlv42_2 : aj_lv lv42 2 = some (.int p2) := fx_e2 elv42 hlv_2 (by decide) (by decide) (Or.inl (by decide))
              have hlv42_3 : aj_lv lv42 3 = some (.int p3) := fx_e2 elv42 hlv_3 (by decide) (by decide) (Or.inl (by decide))
              have hlv42_4 : aj_lv lv42 4 = some (.int y4) := fx_e2 elv42 hlv_4 (by decide) (by decide) (Or.inr rfl)
              have hlv42_5 : aj_lv lv42 5 = some (.long x41) := by rw [elv42]; exact ak_set2_eq _ _ _
              show fx_W _ _ _ 52 lv42 [] _ _
              refine fx_incq aj_d25 rfl (Nat.le_succ _) hlv42_4 (by decide) (fun x43 ex43 => ?_)
              obtain ⟨lv44, elv44⟩ : ∃ l, l = aj_set1 lv42 4 (.int x43) := ⟨_, rfl⟩
              rw [← elv44]
              have hlv44_0 : aj_lv lv44 0 = some (.ref 78) := fx_e1 elv44 hlv42_0 (by decide) (Or.inl (by decide))
              have hlv44_1 : aj_lv lv44 1 = some (.ref 53) := fx_e1 elv44 hlv42_1 (by decide) (Or.inl (by decide))
              have hlv44_2 : aj_lv lv44 2 = some (.int p2) := fx_e1 elv44 hlv42_2 (by decide) (Or.inl (by decide))
              have hlv44_3 : aj_lv lv44 3 = some (.int p3) := fx_e1 elv44 hlv42_3 (by decide) (Or.inr rfl)
              have hlv44_5 : aj_lv lv44 5 = some (.long x41) := fx_e1 elv44 hlv42_5 (by decide) (Or.inl (by decide))
              have hlv44_4 : aj_lv lv44 4 = some (.int x43) := by rw [elv44]; exact ak_set1_eq _ _ _
              show fx_W _ _ _ 55 lv44 [] _ _
              refine fx_n (pc' := 6) (lv' := lv44) (st' := []) aj_d25 rfl (Nat.le_succ _) (fun _ => rfl) ?_
              exact (ih) lv44 (x43) (x41) X30  hlv44_0 hlv44_1 hlv44_2 hlv44_3 hlv44_4 hlv44_5
theorem gx_25_ok {tb : aj_T} (p2 : Int32) (p3 : Int32) {X : fx_X} : fx_K tb 25 [.ref 78, .ref 53, .int p2, .int p3] X (fx_Q fx_qI (fun v X' => gx_25 p2 p3 X v X')) := by
  refine fx_m aj_m25_at rfl (fun N => ?_)
  refine fx_mono (Q := fx_Q fx_qI (fun v X' => ∃ n : Nat, gxE_25 p2 p3 (gxF_25 p2 p3 n) X v X')) (fun r X' h => h) ?_
  unfold gxE_25
  show fx_W _ _ _ 0 [(0, .ref 78), (1, .ref 53), (2, .int p2), (3, .int p3)] [] _ _
  obtain ⟨lv1, elv1⟩ : ∃ l : aj_V, l = [(0, .ref 78), (1, .ref 53), (2, .int p2), (3, .int p3)] := ⟨_, rfl⟩
  rw [← elv1]
  have hlv1_0 : aj_lv lv1 0 = some (.ref 78) := by rw [elv1]; rfl
  have hlv1_1 : aj_lv lv1 1 = some (.ref 53) := by rw [elv1]; rfl
  have hlv1_2 : aj_lv lv1 2 = some (.int p2) := by rw [elv1]; rfl
  have hlv1_3 : aj_lv lv1 3 = some (.int p3) := by rw [elv1]; rfl
  refine fx_i0 aj_d25 rfl (Nat.le_succ _) (fun _ => rfl) hlv1_3 ?_
  refine fx_s0 (j := 4) aj_d25 rfl (Nat.le_succ _) (by decide) (fun _ => rfl) ?_
  obtain ⟨lv2, elv2⟩ : ∃ l, l = aj_set1 lv1 4 (.int p3) := ⟨_, rfl⟩
  rw [← elv2]
  have hlv2_0 : aj_lv lv2 0 = some (.ref 78) := fx_e1 elv2 hlv1_0 (by decide) (Or.inl (by decide))
  have hlv2_1 : aj_lv lv2 1 = some (.ref 53) := fx_e1 elv2 hlv1_1 (by decide) (Or.inl (by decide))
  have hlv2_2 : aj_lv lv2 2 = some (.int p2) := fx_e1 elv2 hlv1_2 (by decide) (Or.inl (by decide))
  have hlv2_3 : aj_lv lv2 3 = some (.int p3) := fx_e1 elv2 hlv1_3 (by decide) (Or.inr rfl)
  have hlv2_4 : aj_lv lv2 4 = some (.int p3) := by rw [elv2]; exact ak_set1_eq _ _ _
  show fx_W _ _ _ 3 lv2 [] _ _
  refine fx_n (pc' := 4) (lv' := lv2) (st' := [.long (Int64.ofNat 0)]) aj_d25 rfl (Nat.le_succ _) (fun _ => rfl) ?_
  refine fx_s1 (j := 5) aj_d25 rfl (Nat.le_succ _) (by decide) (fun _ => rfl) ?_
  obtain ⟨lv3, elv3⟩ : ∃ l, l = aj_set2 lv2 5 (.long (Int64.ofNat 0)) := ⟨_, rfl⟩
  rw [← elv3]
  have hlv3_0 : aj_lv lv3 0 = some (.ref 78) := fx_e2 elv3 hlv2_0 (by decide) (by decide) (Or.inl (by decide))
  have hlv3_1 : aj_lv lv3 1 = some (.ref 53) := fx_e2 elv3 hlv2_1 (by decide) (by decide) (Or.inl (by decide))
  have hlv3_2 : aj_lv lv3 2 = some (.int p2) := fx_e2 elv3 hlv2_2 (by decide) (by decide) (Or.inl (by decide))
  have hlv3_3 : aj_lv lv3 3 = some (.int p3) := fx_e2 elv3 hlv2_3 (by decide) (by decide) (Or.inl (by decide))
  have hlv3_4 : aj_lv lv3 4 = some (.int p3) := fx_e2 elv3 hlv2_4 (by decide) (by decide) (Or.inr rfl)
  have hlv3_5 : aj_lv lv3 5 = some (.long (Int64.ofNat 0)) := by rw [elv3]; exact ak_set2_eq _ _ _
  show fx_W _ _ _ 6 lv3 [] _ _
  exact ((gxL_25 p2 p3 N)) lv3 (p3) ((Int64.ofNat 0)) X  hlv3_0 hlv3_1 hlv3_2 hlv3_3 hlv3_4 hlv3_5
def gx_30 (p0 : Int32) (X : fx_X) (v : Int32) (X' : fx_X) : Prop :=
  (if (p0).toInt = 33 then (v = (Int32.ofInt 1) ∧ X' = X) else ((if (p0).toInt = 35 then (v = (Int32.ofInt 1) ∧ X' = X) else ((if (p0).toInt = 38 then (v = (Int32.ofInt 1) ∧ X' = X) else ((if (p0).toInt = 40 then (v = (Int32.ofInt 1) ∧ X' = X) else ((if (p0).toInt = 41 then (v = (Int32.ofInt 1) ∧ X' = X) else ((if (p0).toInt = 42 then (v = (Int32.ofInt 1) ∧ X' = X) else ((if (p0).toInt = 43 then (v = (Int32.ofInt 1) ∧ X' = X) else ((if (p0).toInt = 44 then (v = (Int32.ofInt 1) ∧ X' = X) else ((if (p0).toInt = 45 then (v = (Int32.ofInt 1) ∧ X' = X) else ((if (p0).toInt = 58 then (v = (Int32.ofInt 1) ∧ X' = X) else ((if (p0).toInt = 59 then (v = (Int32.ofInt 1) ∧ X' = X) else ((if (p0).toInt = 60 then (v = (Int32.ofInt 1) ∧ X' = X) else ((if (p0).toInt = 61 then (v = (Int32.ofInt 1) ∧ X' = X) else ((if (p0).toInt = 63 then (v = (Int32.ofInt 1) ∧ X' = X) else ((if (p0).toInt = 91 then (v = (Int32.ofInt 1) ∧ X' = X) else ((if (p0).toInt = 93 then (v = (Int32.ofInt 1) ∧ X' = X) else ((if (p0).toInt = 123 then (v = (Int32.ofInt 1) ∧ X' = X) else ((if (p0).toInt = 124 then (v = (Int32.ofInt 1) ∧ X' = X) else ((if (p0).toInt = 125 then (v = (Int32.ofInt 1) ∧ X' = X) else (v = (Int32.ofInt 0) ∧ X' = X))))))))))))))))))))))))))))))))))))))
theorem gx_30_ok {tb : aj_T} (p0 : Int32) {X : fx_X} : fx_K tb 30 [.int p0] X (fx_Q fx_qI (fun v X' => gx_30 p0 X v X')) := by
  refine fx_m aj_m30_at rfl (fun N => ?_)
  refine fx_mono (Q := fx_Q fx_qI (fun v X' => ∃ n : Nat, gx_30 p0 X v X')) (fun r X' ⟨v, e, _, z⟩ => ⟨v, e, z⟩) ?_
  unfold gx_30
  show fx_W _ _ _ 0 [(0, .int p0)] [] _ _
  obtain ⟨lv1, elv1⟩ : ∃ l : aj_V, l = [(0, .int p0)] := ⟨_, rfl⟩
  rw [← elv1]
  have hlv1_0 : aj_lv lv1 0 = some (.int p0) := by rw [elv1]; rfl
  refine fx_i0 aj_d30 rfl (Nat.le_succ _) (fun _ => rfl) hlv1_0 ?_
  by_cases q3 : (p0).toInt = 33
  · skip
    refine fx_qi (c := (p0).toInt = 33) q3 ?_
    refine fx_lk (tgt := 164) (off := 163) aj_d30 rfl (Nat.le_succ _) (by decide) (by rw [q3]; rfl) rfl ?_
    show fx_W _ _ _ 164 lv1 [] _ _
    refine fx_n (pc' := 165) (lv' := lv1) (st' := [.int (Int32.ofInt 1)]) aj_d30 rfl (Nat.le_succ _) (fun _ => rfl) ?_
    exact fx_ri aj_d30 rfl ⟨_, rfl, 0, rfl, rfl⟩
  · skip
    refine fx_qe (c := (p0).toInt = 33) q3 ?_
    by_cases q4 : (p0).toInt = 35
    · skip
      refine fx_qi (c := (p0).toInt = 35) q4 ?_
      refine fx_lk (tgt := 164) (off := 163) aj_d30 rfl (Nat.le_succ _) (by decide) (by rw [q4]; rfl) rfl ?_
      show fx_W _ _ _ 164 lv1 [] _ _
      refine fx_n (pc' := 165) (lv' := lv1) (st' := [.int (Int32.ofInt 1)]) aj_d30 rfl (Nat.le_succ _) (fun _ => rfl) ?_
      exact fx_ri aj_d30 rfl ⟨_, rfl, 0, rfl, rfl⟩
    · skip
      refine fx_qe (c := (p0).toInt = 35) q4 ?_
      by_cases q5 : (p0).toInt = 38
      · skip
        refine fx_qi (c := (p0).toInt = 38) q5 ?_
        refine fx_lk (tgt := 164) (off := 163) aj_d30 rfl (Nat.le_succ _) (by decide) (by rw [q5]; rfl) rfl ?_
        show fx_W _ _ _ 164 lv1 [] _ _
        refine fx_n (pc' := 165) (lv' := lv1) (st' := [.int (Int32.ofInt 1)]) aj_d30 rfl (Nat.le_succ _) (fun _ => rfl) ?_
        exact fx_ri aj_d30 rfl ⟨_, rfl, 0, rfl, rfl⟩
      · skip
        refine fx_qe (c := (p0).toInt = 38) q5 ?_
        by_cases q6 : (p0).toInt = 40
        · skip
          refine fx_qi (c := (p0).toInt = 40) q6 ?_
          refine fx_lk (tgt := 164) (off := 163) aj_d30 rfl (Nat.le_succ _) (by decide) (by rw [q6]; rfl) rfl ?_
          show fx_W _ _ _ 164 lv1 [] _ _
          refine fx_n (pc' := 165) (lv' := lv1) (st' := [.int (Int32.ofInt 1)]) aj_d30 rfl (Nat.le_succ _) (fun _ => rfl) ?_
          exact fx_ri aj_d30 rfl ⟨_, rfl, 0, rfl, rfl⟩
        · skip
          refine fx_qe (c := (p0).toInt = 40) q6 ?_
          by_cases q7 : (p0).toInt = 41
          · skip
            refine fx_qi (c := (p0).toInt = 41) q7 ?_
            refine fx_lk (tgt := 164) (off := 163) aj_d30 rfl (Nat.le_succ _) (by decide) (by rw [q7]; rfl) rfl ?_
            show fx_W _ _ _ 164 lv1 [] _ _
            refine fx_n (pc' := 165) (lv' := lv1) (st' := [.int (Int32.ofInt 1)]) aj_d30 rfl (Nat.le_succ _) (fun _ => rfl) ?_
            exact fx_ri aj_d30 rfl ⟨_, rfl, 0, rfl, rfl⟩
          · skip
            refine fx_qe (c := (p0).toInt = 41) q7 ?_
            by_cases q8 : (p0).toInt = 42
            · skip
              refine fx_qi (c := (p0).toInt = 42) q8 ?_
              refine fx_lk (tgt := 164) (off := 163) aj_d30 rfl (Nat.le_succ _) (by decide) (by rw [q8]; rfl) rfl ?_
              show fx_W _ _ _ 164 lv1 [] _ _
              refine fx_n (pc' := 165) (lv' := lv1) (st' := [.int (Int32.ofInt 1)]) aj_d30 rfl (Nat.le_succ _) (fun _ => rfl) ?_
              exact fx_ri aj_d30 rfl ⟨_, rfl, 0, rfl, rfl⟩
            · skip
              refine fx_qe (c := (p0).toInt = 42) q8 ?_
              by_cases q9 : (p0).toInt = 43
              · skip
                refine fx_qi (c := (p0).toInt = 43) q9 ?_
                refine fx_lk (tgt := 164) (off := 163) aj_d30 rfl (Nat.le_succ _) (by decide) (by rw [q9]; rfl) rfl ?_
                show fx_W _ _ _ 164 lv1 [] _ _
                refine fx_n (pc' := 165) (lv' := lv1) (st' := [.int (Int32.ofInt 1)]) aj_d30 rfl (Nat.le_succ _) (fun _ => rfl) ?_
                exact fx_ri aj_d30 rfl ⟨_, rfl, 0, rfl, rfl⟩
              · skip
                refine fx_qe (c := (p0).toInt = 43) q9 ?_
                by_cases q10 : (p0).toInt = 44
                · skip
                  refine fx_qi (c := (p0).toInt = 44) q10 ?_
                  refine fx_lk (tgt := 164) (off := 163) aj_d30 rfl (Nat.le_succ _) (by decide) (by rw [q10]; rfl) rfl ?_
                  show fx_W _ _ _ 164 lv1 [] _ _
                  refine fx_n (pc' := 165) (lv' := lv1) (st' := [.int (Int32.ofInt 1)]) aj_d30 rfl (Nat.le_succ _) (fun _ => rfl) ?_
                  exact fx_ri aj_d30 rfl ⟨_, rfl, 0, rfl, rfl⟩
                · skip
                  refine fx_qe (c := (p0).toInt = 44) q10 ?_
                  by_cases q11 : (p0).toInt = 45
                  · skip
                    refine fx_qi (c := (p0).toInt = 45) q11 ?_
                    refine fx_lk (tgt := 164) (off := 163) aj_d30 rfl (Nat.le_succ _) (by decide) (by rw [q11]; rfl) rfl ?_
                    show fx_W _ _ _ 164 lv1 [] _ _
                    refine fx_n (pc' := 165) (lv' := lv1) (st' := [.int (Int32.ofInt 1)]) aj_d30 rfl (Nat.le_succ _) (fun _ => rfl) ?_
                    exact fx_ri aj_d30 rfl ⟨_, rfl, 0, rfl, rfl⟩
                  · skip
                    refine fx_qe (c := (p0).toInt = 45) q11 ?_
                    by_cases q12 : (p0).toInt = 58
                    · skip
                      refine fx_qi (c := (p0).toInt = 58) q12 ?_
                      refine fx_lk (tgt := 164) (off := 163) aj_d30 rfl (Nat.le_succ _) (by decide) (by rw [q12]; rfl) rfl ?_
                      show fx_W _ _ _ 164 lv1 [] _ _
                      refine fx_n (pc' := 165) (lv' := lv1) (st' := [.int (Int32.ofInt 1)]) aj_d30 rfl (Nat.le_succ _) (fun _ => rfl) ?_
                      exact fx_ri aj_d30 rfl ⟨_, rfl, 0, rfl, rfl⟩
                    · skip
                      refine fx_qe (c := (p0).toInt = 58) q12 ?_
                      by_cases q13 : (p0).toInt = 59
                      · skip
                        refine fx_qi (c := (p0).toInt = 59) q13 ?_
                        refine fx_lk (tgt := 164) (off := 163) aj_d30 rfl (Nat.le_succ _) (by decide) (by rw [q13]; rfl) rfl ?_
                        show fx_W _ _ _ 164 lv1 [] _ _
                        refine fx_n (pc' := 165) (lv' := lv1) (st' := [.int (Int32.ofInt 1)]) aj_d30 rfl (Nat.le_succ _) (fun _ => rfl) ?_
                        exact fx_ri aj_d30 rfl ⟨_, rfl, 0, rfl, rfl⟩
                      · skip
                        refine fx_qe (c := (p0).toInt = 59) q13 ?_
                        by_cases q14 : (p0).toInt = 60
                        · skip
                          refine fx_qi (c := (p0).toInt = 60) q14 ?_
                          refine fx_lk (tgt := 164) (off := 163) aj_d30 rfl (Nat.le_succ _) (by decide) (by rw [q14]; rfl) rfl ?_
                          show fx_W _ _ _ 164 lv1 [] _ _
                          refine fx_n (pc' := 165) (lv' := lv1) (st' := [.int (Int32.ofInt 1)]) aj_d30 rfl (Nat.le_succ _) (fun _ => rfl) ?_
                          exact fx_ri aj_d30 rfl ⟨_, rfl, 0, rfl, rfl⟩
                        · skip
                          refine fx_qe (c := (p0).toInt = 60) q14 ?_
                          by_cases q15 : (p0).toInt = 61
                          · skip
                            refine fx_qi (c := (p0).toInt = 61) q15 ?_
                            refine fx_lk (tgt := 164) (off := 163) aj_d30 rfl (Nat.le_succ _) (by decide) (by rw [q15]; rfl) rfl ?_
                            show fx_W _ _ _ 164 lv1 [] _ _
                            refine fx_n (pc' := 165) (lv' := lv1) (st' := [.int (Int32.ofInt 1)]) aj_d30 rfl (Nat.le_succ _) (fun _ => rfl) ?_
                            exact fx_ri aj_d30 rfl ⟨_, rfl, 0, rfl, rfl⟩
                          · skip
                            refine fx_qe (c := (p0).toInt = 61) q15 ?_
                            by_cases q16 : (p0).toInt = 63
                            · skip
                              refine fx_qi (c := (p0).toInt = 63) q16 ?_
                              refine fx_lk (tgt := 164) (off := 163) aj_d30 rfl (Nat.le_succ _) (by decide) (by rw [q16]; rfl) rfl ?_
                              show fx_W _ _ _ 164 lv1 [] _ _
                              refine fx_n (pc' := 165) (lv' := lv1) (st' := [.int (Int32.ofInt 1)]) aj_d30 rfl (Nat.le_succ _) (fun _ => rfl) ?_
                              exact fx_ri aj_d30 rfl ⟨_, rfl, 0, rfl, rfl⟩
                            · skip
                              refine fx_qe (c := (p0).toInt = 63) q16 ?_
                              by_cases q17 : (p0).toInt = 91
                              · skip
                                refine fx_qi (c := (p0).toInt = 91) q17 ?_
                                refine fx_lk (tgt := 164) (off := 163) aj_d30 rfl (Nat.le_succ _) (by decide) (by rw [q17]; rfl) rfl ?_
                                show fx_W _ _ _ 164 lv1 [] _ _
                                refine fx_n (pc' := 165) (lv' := lv1) (st' := [.int (Int32.ofInt 1)]) aj_d30 rfl (Nat.le_succ _) (fun _ => rfl) ?_
                                exact fx_ri aj_d30 rfl ⟨_, rfl, 0, rfl, rfl⟩
                              · skip
                                refine fx_qe (c := (p0).toInt = 91) q17 ?_
                                by_cases q18 : (p0).toInt = 93
                                · skip
                                  refine fx_qi (c := (p0).toInt = 93) q18 ?_
                                  refine fx_lk (tgt := 164) (off := 163) aj_d30 rfl (Nat.le_succ _) (by decide) (by rw [q18]; rfl) rfl ?_
                                  show fx_W _ _ _ 164 lv1 [] _ _
                                  refine fx_n (pc' := 165) (lv' := lv1) (st' := [.int (Int32.ofInt 1)]) aj_d30 rfl (Nat.le_succ _) (fun _ => rfl) ?_
                                  exact fx_ri aj_d30 rfl ⟨_, rfl, 0, rfl, rfl⟩
                                · skip
                                  refine fx_qe (c := (p0).toInt = 93) q18 ?_
                                  by_cases q19 : (p0).toInt = 123
                                  · skip
                                    refine fx_qi (c := (p0).toInt = 123) q19 ?_
                                    refine fx_lk (tgt := 164) (off := 163) aj_d30 rfl (Nat.le_succ _) (by decide) (by rw [q19]; rfl) rfl ?_
                                    show fx_W _ _ _ 164 lv1 [] _ _
                                    refine fx_n (pc' := 165) (lv' := lv1) (st' := [.int (Int32.ofInt 1)]) aj_d30 rfl (Nat.le_succ _) (fun _ => rfl) ?_
                                    exact fx_ri aj_d30 rfl ⟨_, rfl, 0, rfl, rfl⟩
                                  · skip
                                    refine fx_qe (c := (p0).toInt = 123) q19 ?_
                                    by_cases q20 : (p0).toInt = 124
                                    · skip
                                      refine fx_qi (c := (p0).toInt = 124) q20 ?_
                                      refine fx_lk (tgt := 164) (off := 163) aj_d30 rfl (Nat.le_succ _) (by decide) (by rw [q20]; rfl) rfl ?_
                                      show fx_W _ _ _ 164 lv1 [] _ _
                                      refine fx_n (pc' := 165) (lv' := lv1) (st' := [.int (Int32.ofInt 1)]) aj_d30 rfl (Nat.le_succ _) (fun _ => rfl) ?_
                                      exact fx_ri aj_d30 rfl ⟨_, rfl, 0, rfl, rfl⟩
                                    · skip
                                      refine fx_qe (c := (p0).toInt = 124) q20 ?_
                                      by_cases q21 : (p0).toInt = 125
                                      · skip
                                        refine fx_qi (c := (p0).toInt = 125) q21 ?_
                                        refine fx_lk (tgt := 164) (off := 163) aj_d30 rfl (Nat.le_succ _) (by decide) (by rw [q21]; rfl) rfl ?_
                                        show fx_W _ _ _ 164 lv1 [] _ _
                                        refine fx_n (pc' := 165) (lv' := lv1) (st' := [.int (Int32.ofInt 1)]) aj_d30 rfl (Nat.le_succ _) (fun _ => rfl) ?_
                                        exact fx_ri aj_d30 rfl ⟨_, rfl, 0, rfl, rfl⟩
                                      · skip
                                        refine fx_qe (c := (p0).toInt = 125) q21 ?_
                                        refine fx_lk (tgt := 166) (off := 165) aj_d30 rfl (Nat.le_succ _) (by decide) (fx_lkd (by intro z hz; simp only [List.mem_cons, List.not_mem_nil, or_false] at hz; rcases hz with rfl | rfl | rfl | rfl | rfl | rfl | rfl | rfl | rfl | rfl | rfl | rfl | rfl | rfl | rfl | rfl | rfl | rfl | rfl <;> (dsimp only; omega))) rfl ?_
                                        show fx_W _ _ _ 166 lv1 [] _ _
                                        refine fx_n (pc' := 167) (lv' := lv1) (st' := [.int (Int32.ofInt 0)]) aj_d30 rfl (Nat.le_succ _) (fun _ => rfl) ?_
                                        exact fx_ri aj_d30 rfl ⟨_, rfl, 0, rfl, rfl⟩
def gxT_23_98 (p2 : Int32) (p3 : Int32) (P : Nat → List Int32 → List Int64 → List Nat → fx_X → Int32 → fx_X → Prop) (y4 : Int32) (y5 : Int32) (X : fx_X) (v : Int32) (X' : fx_X) : Prop :=
  (if (y5).toInt = 61 then ((if (y4).toInt = 33 then ((if (y4).toInt = 33 then (∃ (w65 : Unit) (X64 : fx_X), gx_27 ((Int8.ofInt 6).toInt32) p3 (Int64.ofNat 0) X w65 X64 ∧ v = (p3 + (Int32.ofInt 2)) ∧ X' = X64) else (∃ (w63 : Unit) (X62 : fx_X), gx_27 ((Int8.ofInt 7).toInt32) p3 (Int64.ofNat 0) X w63 X62 ∧ v = (p3 + (Int32.ofInt 2)) ∧ X' = X62))) else ((if (y4).toInt = 60 then ((if (y4).toInt = 33 then (∃ (w78 : Unit) (X77 : fx_X), gx_27 ((Int8.ofInt 6).toInt32) p3 (Int64.ofNat 0) X w78 X77 ∧ v = (p3 + (Int32.ofInt 2)) ∧ X' = X77) else (∃ (w76 : Unit) (X75 : fx_X), gx_27 ((Int8.ofInt 7).toInt32) p3 (Int64.ofNat 0) X w76 X75 ∧ v = (p3 + (Int32.ofInt 2)) ∧ X' = X75))) else (∃ (w68 : Int32) (X67 : fx_X), gx_30 y4 X w68 X67 ∧ (if (w68).toInt = 0 then (∃ (w73 : Unit) (X72 : fx_X), gx_27 (Int32.ofInt 2) p3 (Int64.ofNat 0) X67 w73 X72 ∧ v = p3 ∧ X' = X72) else (∃ (w71 : Unit) (X70 : fx_X), gx_27 y4 p3 (Int64.ofNat 0) X67 w71 X70 ∧ v = (p3 + (Int32.ofInt 1)) ∧ X' = X70))))))) else (∃ (w54 : Int32) (X53 : fx_X), gx_30 y4 X w54 X53 ∧ (if (w54).toInt = 0 then (∃ (w59 : Unit) (X58 : fx_X), gx_27 (Int32.ofInt 2) p3 (Int64.ofNat 0) X53 w59 X58 ∧ v = p3 ∧ X' = X58) else (∃ (w57 : Unit) (X56 : fx_X), gx_27 y4 p3 (Int64.ofNat 0) X53 w57 X56 ∧ v = (p3 + (Int32.ofInt 1)) ∧ X' = X56))))
def gxE_23 (p2 : Int32) (p3 : Int32) (P : Nat → List Int32 → List Int64 → List Nat → fx_X → Int32 → fx_X → Prop) (X : fx_X) (v : Int32) (X' : fx_X) : Prop :=
  (if (p3).toInt < ((Int32.ofNat (X.2.2.2.1 53).2)).toInt then ((0 ≤ (p3).toInt) ∧ ∃ x25 : Int32, x25 = (X.1 53 (p3).toInt.toNat) ∧ ∃ (w28 : Int32) (X27 : fx_X), gx_24 x25 X w28 X27 ∧ (if (w28).toInt = 0 then (∃ (w31 : Int32) (X30 : fx_X), gx_26 x25 X27 w31 X30 ∧ (if (w31).toInt = 0 then ((if ((p3 + (Int32.ofInt 1))).toInt < (p2).toInt then ((if ((p3 + (Int32.ofInt 1))).toInt < ((Int32.ofNat (X30.2.2.2.1 53).2)).toInt then ((0 ≤ ((p3 + (Int32.ofInt 1))).toInt) ∧ ∃ x42 : Int32, x42 = (X30.1 53 ((p3 + (Int32.ofInt 1))).toInt.toNat) ∧ (if (x25).toInt = 46 then ((if (x42).toInt = 46 then (∃ (w47 : Unit) (X46 : fx_X), gx_27 (Int32.ofInt 5) p3 (Int64.ofNat 0) X30 w47 X46 ∧ v = (p3 + (Int32.ofInt 2)) ∧ X' = X46) else (P 98 [x25, x42] [] [] X30 v X'))) else (P 98 [x25, x42] [] [] X30 v X'))) else ((if (x25).toInt = 46 then (P 98 [x25, (Int32.ofInt 0)] [] [] X30 v X') else (P 98 [x25, (Int32.ofInt 0)] [] [] X30 v X'))))) else ((if (x25).toInt = 46 then (P 98 [x25, (Int32.ofInt 0)] [] [] X30 v X') else (P 98 [x25, (Int32.ofInt 0)] [] [] X30 v X'))))) else (∃ (w49 : Int32) (X48 : fx_X), gx_29 p2 p3 X30 w49 X48 ∧ v = w49 ∧ X' = X48))) else (∃ (w51 : Int32) (X50 : fx_X), gx_25 p2 p3 X27 w51 X50 ∧ v = w51 ∧ X' = X50))) else (∃ (w5 : Int32) (X4 : fx_X), gx_24 (Int32.ofInt 0) X w5 X4 ∧ (if (w5).toInt = 0 then (∃ (w8 : Int32) (X7 : fx_X), gx_26 (Int32.ofInt 0) X4 w8 X7 ∧ (if (w8).toInt = 0 then ((if ((p3 + (Int32.ofInt 1))).toInt < (p2).toInt then ((if ((p3 + (Int32.ofInt 1))).toInt < ((Int32.ofNat (X7.2.2.2.1 53).2)).toInt then ((0 ≤ ((p3 + (Int32.ofInt 1))).toInt) ∧ ∃ x17 : Int32, x17 = (X7.1 53 ((p3 + (Int32.ofInt 1))).toInt.toNat) ∧ P 98 [(Int32.ofInt 0), x17] [] [] X7 v X') else (P 98 [(Int32.ofInt 0), (Int32.ofInt 0)] [] [] X7 v X'))) else (P 98 [(Int32.ofInt 0), (Int32.ofInt 0)] [] [] X7 v X'))) else (∃ (w21 : Int32) (X20 : fx_X), gx_29 p2 p3 X7 w21 X20 ∧ v = w21 ∧ X' = X20))) else (∃ (w23 : Int32) (X22 : fx_X), gx_25 p2 p3 X4 w23 X22 ∧ v = w23 ∧ X' = X22))))
noncomputable def gxF_23 (p2 : Int32) (p3 : Int32) (n : Nat) : Nat → List Int32 → List Int64 → List Nat → fx_X → Int32 → fx_X → Prop := Nat.rec (motive := fun _ => Nat → List Int32 → List Int64 → List Nat → fx_X → Int32 → fx_X → Prop) (fun _ _ _ _ _ _ _ => False) (fun _ P l is ls rs X v X' => (l = 98 ∧ ∃ (y4 : Int32) (y5 : Int32), is = [y4, y5] ∧ ls = [] ∧ rs = [] ∧ gxT_23_98 p2 p3 P y4 y5 X v X')) n
theorem gxI_23_98 {p2 : Int32} {p3 : Int32} {n : Nat} {y4 : Int32} {y5 : Int32} {X : fx_X} {v : Int32} {X' : fx_X} (h : gxT_23_98 p2 p3 (gxF_23 p2 p3 n) y4 y5 X v X') : gxF_23 p2 p3 (n + 1) 98 [y4, y5] [] [] X v X' := ⟨rfl, y4, y5, rfl, rfl, rfl, h⟩
theorem gxO_23_98 {p2 : Int32} {p3 : Int32} {n : Nat} {y4 : Int32} {y5 : Int32} {X : fx_X} {v : Int32} {X' : fx_X} (h : gxF_23 p2 p3 (n + 1) 98 [y4, y5] [] [] X v X') : gxT_23_98 p2 p3 (gxF_23 p2 p3 n) y4 y5 X v X' := by
  rcases h with ⟨-, _, _, e1, e2, e3, h⟩
  · cases e1; cases e2; cases e3; exact h
def gx_23 (p2 : Int32) (p3 : Int32) (X : fx_X) (v : Int32) (X' : fx_X) : Prop := ∃ n : Nat, gxE_23 p2 p3 (gxF_23 p2 p3 n) X v X'
theorem gxL_23 {tb : aj_T} (p2 : Int32) (p3 : Int32) : ∀ N : Nat, (∀ (lv : aj_V) (y4 : Int32) (y5 : Int32) (X : fx_X), aj_lv lv 0 = some (.ref 78) → aj_lv lv 3 = some (.int p3) → aj_lv lv 4 = some (.int y4) → aj_lv lv 5 = some (.int y5) → fx_W tb aj_m23 N 98 lv [] X (fx_Q fx_qI (fun v X' => ∃ n : Nat, gxF_23 p2 p3 n 98 [y4, y5] [] [] X v X'))) := by
  intro N
  induction N with
  | zero => exact (by intros; exact fx_z)
  | succ N ih =>
    skip
    · intro lv y4 y5 X hlv_0 hlv_3 hlv_4 hlv_5
      refine fx_mono (Q := fx_Q fx_qI (fun v X' => ∃ n : Nat, gxT_23_98 p2 p3 (gxF_23 p2 p3 n) y4 y5 X v X')) (fun r X' ⟨v, e, n, z⟩ => ⟨v, e, n + 1, gxI_23_98 z⟩) ?_
      unfold gxT_23_98
      refine fx_i0 aj_d23 rfl (Nat.le_refl _) (fun _ => rfl) hlv_5 ?_
      refine fx_n (pc' := 102) (lv' := lv) (st' := [.int ((Int8.ofInt 61).toInt32), .int y5]) aj_d23 rfl (Nat.le_succ _) (fun _ => rfl) ?_
      refine fx_b (tgt := 143) aj_d23 rfl (Nat.le_succ _) rfl (fun q52 => ?_) (fun q52 => ?_)
      · skip
        refine fx_qe (c := (y5).toInt = 61) (fx_t_ne q52) ?_
        show fx_W _ _ _ 143 lv [] _ _
        refine fx_i0 aj_d23 rfl (Nat.le_succ _) (fun _ => rfl) hlv_4 ?_
        refine fx_cs aj_d23 rfl (Nat.le_succ _) rfl rfl [_] rfl rfl (gx_30_ok y4) ?_
        rintro _ X53 ⟨w54, rfl, hR53⟩ hok53 hle53
        refine fx_qc hR53 ?_
        show fx_W _ _ _ 148 lv [.int w54] _ _
        refine fx_b0 (tgt := 160) aj_d23 rfl (Nat.le_succ _) rfl (fun q55 => ?_) (fun q55 => ?_)
        · skip
          refine fx_qe (c := (w54).toInt = 0) (fx_t_ne q55) ?_
          show fx_W _ _ _ 160 lv [] _ _
          refine fx_i2 aj_d23 rfl (Nat.le_succ _) (fun _ => rfl) hlv_0 ?_
          refine fx_i0 aj_d23 rfl (Nat.le_succ _) (fun _ => rfl) hlv_4 ?_
          refine fx_i0 aj_d23 rfl (Nat.le_succ _) (fun _ => rfl) hlv_3 ?_
          refine fx_n (pc' := 165) (lv' := lv) (st' := [.long (Int64.ofNat 0), .int p3, .int y4, .ref 78]) aj_d23 rfl (Nat.le_succ _) (fun _ => rfl) ?_
          refine fx_cv aj_d23 rfl (Nat.le_succ _) rfl [_, _, _] rfl rfl (gx_27_ok y4 p3 (Int64.ofNat 0)) ?_
          rintro _ X56 ⟨w57, rfl, hR56⟩ hok56 hle56
          refine fx_qc hR56 ?_
          show fx_W _ _ _ 168 lv [] _ _
          refine fx_i0 aj_d23 rfl (Nat.le_succ _) (fun _ => rfl) hlv_3 ?_
          refine fx_n (pc' := 170) (lv' := lv) (st' := [.int (Int32.ofInt 1), .int p3]) aj_d23 rfl (Nat.le_succ _) (fun _ => rfl) ?_
          refine fx_n (pc' := 171) (lv' := lv) (st' := [.int (p3 + (Int32.ofInt 1))]) aj_d23 rfl (Nat.le_succ _) (fun _ => rfl) ?_
          exact fx_ri aj_d23 rfl ⟨_, rfl, 0, rfl, rfl⟩
        · skip
          refine fx_qi (c := (w54).toInt = 0) (fx_f_ne q55) ?_
          show fx_W _ _ _ 151 lv [] _ _
          refine fx_i2 aj_d23 rfl (Nat.le_succ _) (fun _ => rfl) hlv_0 ?_
          refine fx_n (pc' := 153) (lv' := lv) (st' := [.int (Int32.ofInt 2), .ref 78]) aj_d23 rfl (Nat.le_succ _) (fun _ => rfl) ?_
          refine fx_i0 aj_d23 rfl (Nat.le_succ _) (fun _ => rfl) hlv_3 ?_
          refine fx_n (pc' := 155) (lv' := lv) (st' := [.long (Int64.ofNat 0), .int p3, .int (Int32.ofInt 2), .ref 78]) aj_d23 rfl (Nat.le_succ _) (fun _ => rfl) ?_
          refine fx_cv aj_d23 rfl (Nat.le_succ _) rfl [_, _, _] rfl rfl (gx_27_ok (Int32.ofInt 2) p3 (Int64.ofNat 0)) ?_
          rintro _ X58 ⟨w59, rfl, hR58⟩ hok58 hle58
          refine fx_qc hR58 ?_
          show fx_W _ _ _ 158 lv [] _ _
          refine fx_i0 aj_d23 rfl (Nat.le_succ _) (fun _ => rfl) hlv_3 ?_
          exact fx_ri aj_d23 rfl ⟨_, rfl, 0, rfl, rfl⟩
      · skip
        refine fx_qi (c := (y5).toInt = 61) (fx_f_ne q52) ?_
        show fx_W _ _ _ 105 lv [] _ _
        refine fx_i0 aj_d23 rfl (Nat.le_succ _) (fun _ => rfl) hlv_4 ?_
        refine fx_n (pc' := 109) (lv' := lv) (st' := [.int ((Int8.ofInt 33).toInt32), .int y4]) aj_d23 rfl (Nat.le_succ _) (fun _ => rfl) ?_
        refine fx_b (tgt := 119) aj_d23 rfl (Nat.le_succ _) rfl (fun q60 => ?_) (fun q60 => ?_)
        · skip
          refine fx_qi (c := (y4).toInt = 33) (fx_t_eq q60) ?_
          show fx_W _ _ _ 119 lv [] _ _
          refine fx_i2 aj_d23 rfl (Nat.le_succ _) (fun _ => rfl) hlv_0 ?_
          refine fx_i0 aj_d23 rfl (Nat.le_succ _) (fun _ => rfl) hlv_4 ?_
          refine fx_n (pc' := 124) (lv' := lv) (st' := [.int ((Int8.ofInt 33).toInt32), .int y4, .ref 78]) aj_d23 rfl (Nat.le_succ _) (fun _ => rfl) ?_
          refine fx_b (tgt := 132) aj_d23 rfl (Nat.le_succ _) rfl (fun q61 => ?_) (fun q61 => ?_)
          · skip
            refine fx_qe (c := (y4).toInt = 33) (fx_t_ne q61) ?_
            show fx_W _ _ _ 132 lv [.ref 78] _ _
            refine fx_n (pc' := 134) (lv' := lv) (st' := [.int ((Int8.ofInt 7).toInt32), .ref 78]) aj_d23 rfl (Nat.le_succ _) (fun _ => rfl) ?_
            refine fx_i0 aj_d23 rfl (Nat.le_succ _) (fun _ => rfl) hlv_3 ?_
            refine fx_n (pc' := 136) (lv' := lv) (st' := [.long (Int64.ofNat 0), .int p3, .int ((Int8.ofInt 7).toInt32), .ref 78]) aj_d23 rfl (Nat.le_succ _) (fun _ => rfl) ?_
            refine fx_cv aj_d23 rfl (Nat.le_succ _) rfl [_, _, _] rfl rfl (gx_27_ok ((Int8.ofInt 7).toInt32) p3 (Int64.ofNat 0)) ?_
            rintro _ X62 ⟨w63, rfl, hR62⟩ hok62 hle62
            refine fx_qc hR62 ?_
            show fx_W _ _ _ 139 lv [] _ _
            refine fx_i0 aj_d23 rfl (Nat.le_succ _) (fun _ => rfl) hlv_3 ?_
            refine fx_n (pc' := 141) (lv' := lv) (st' := [.int (Int32.ofInt 2), .int p3]) aj_d23 rfl (Nat.le_succ _) (fun _ => rfl) ?_
            refine fx_n (pc' := 142) (lv' := lv) (st' := [.int (p3 + (Int32.ofInt 2))]) aj_d23 rfl (Nat.le_succ _) (fun _ => rfl) ?_
            exact fx_ri aj_d23 rfl ⟨_, rfl, 0, rfl, rfl⟩
          · skip
            refine fx_qi (c := (y4).toInt = 33) (fx_f_ne q61) ?_
            show fx_W _ _ _ 127 lv [.ref 78] _ _
            refine fx_n (pc' := 129) (lv' := lv) (st' := [.int ((Int8.ofInt 6).toInt32), .ref 78]) aj_d23 rfl (Nat.le_succ _) (fun _ => rfl) ?_
            refine fx_n (pc' := 134) (lv' := lv) (st' := [.int ((Int8.ofInt 6).toInt32), .ref 78]) aj_d23 rfl (Nat.le_succ _) (fun _ => rfl) ?_
            refine fx_i0 aj_d23 rfl (Nat.le_succ _) (fun _ => rfl) hlv_3 ?_
            refine fx_n (pc' := 136) (lv' := lv) (st' := [.long (Int64.ofNat 0), .int p3, .int ((Int8.ofInt 6).toInt32), .ref 78]) aj_d23 rfl (Nat.le_succ _) (fun _ => rfl) ?_
            refine fx_cv aj_d23 rfl (Nat.le_succ _) rfl [_, _, _] rfl rfl (gx_27_ok ((Int8.ofInt 6).toInt32) p3 (Int64.ofNat 0)) ?_
            rintro _ X64 ⟨w65, rfl, hR64⟩ hok64 hle64
            refine fx_qc hR64 ?_
            show fx_W _ _ _ 139 lv [] _ _
            refine fx_i0 aj_d23 rfl (Nat.le_succ _) (fun _ => rfl) hlv_3 ?_
            refine fx_n (pc' := 141) (lv' := lv) (st' := [.int (Int32.ofInt 2), .int p3]) aj_d23 rfl (Nat.le_succ _) (fun _ => rfl) ?_
            refine fx_n (pc' := 142) (lv' := lv) (st' := [.int (p3 + (Int32.ofInt 2))]) aj_d23 rfl (Nat.le_succ _) (fun _ => rfl) ?_
            exact fx_ri aj_d23 rfl ⟨_, rfl, 0, rfl, rfl⟩
        · skip
          refine fx_qe (c := (y4).toInt = 33) (fx_f_eq q60) ?_
          show fx_W _ _ _ 112 lv [] _ _
          refine fx_i0 aj_d23 rfl (Nat.le_succ _) (fun _ => rfl) hlv_4 ?_
          refine fx_n (pc' := 116) (lv' := lv) (st' := [.int ((Int8.ofInt 60).toInt32), .int y4]) aj_d23 rfl (Nat.le_succ _) (fun _ => rfl) ?_
          refine fx_b (tgt := 143) aj_d23 rfl (Nat.le_succ _) rfl (fun q66 => ?_) (fun q66 => ?_)
          · skip
            refine fx_qe (c := (y4).toInt = 60) (fx_t_ne q66) ?_
            show fx_W _ _ _ 143 lv [] _ _
            refine fx_i0 aj_d23 rfl (Nat.le_succ _) (fun _ => rfl) hlv_4 ?_
            refine fx_cs aj_d23 rfl (Nat.le_succ _) rfl rfl [_] rfl rfl (gx_30_ok y4) ?_
            rintro _ X67 ⟨w68, rfl, hR67⟩ hok67 hle67
            refine fx_qc hR67 ?_
            show fx_W _ _ _ 148 lv [.int w68] _ _
            refine fx_b0 (tgt := 160) aj_d23 rfl (Nat.le_succ _) rfl (fun q69 => ?_) (fun q69 => ?_)
            · skip
              refine fx_qe (c := (w68).toInt = 0) (fx_t_ne q69) ?_
              show fx_W _ _ _ 160 lv [] _ _
              refine fx_i2 aj_d23 rfl (Nat.le_succ _) (fun _ => rfl) hlv_0 ?_
              refine fx_i0 aj_d23 rfl (Nat.le_succ _) (fun _ => rfl) hlv_4 ?_
              refine fx_i0 aj_d23 rfl (Nat.le_succ _) (fun _ => rfl) hlv_3 ?_
              refine fx_n (pc' := 165) (lv' := lv) (st' := [.long (Int64.ofNat 0), .int p3, .int y4, .ref 78]) aj_d23 rfl (Nat.le_succ _) (fun _ => rfl) ?_
              refine fx_cv aj_d23 rfl (Nat.le_succ _) rfl [_, _, _] rfl rfl (gx_27_ok y4 p3 (Int64.ofNat 0)) ?_
              rintro _ X70 ⟨w71, rfl, hR70⟩ hok70 hle70
              refine fx_qc hR70 ?_
              show fx_W _ _ _ 168 lv [] _ _
              refine fx_i0 aj_d23 rfl (Nat.le_succ _) (fun _ => rfl) hlv_3 ?_
              refine fx_n (pc' := 170) (lv' := lv) (st' := [.int (Int32.ofInt 1), .int p3]) aj_d23 rfl (Nat.le_succ _) (fun _ => rfl) ?_
              refine fx_n (pc' := 171) (lv' := lv) (st' := [.int (p3 + (Int32.ofInt 1))]) aj_d23 rfl (Nat.le_succ _) (fun _ => rfl) ?_
              exact fx_ri aj_d23 rfl ⟨_, rfl, 0, rfl, rfl⟩
            · skip
              refine fx_qi (c := (w68).toInt = 0) (fx_f_ne q69) ?_
              show fx_W _ _ _ 151 lv [] _ _
              refine fx_i2 aj_d23 rfl (Nat.le_succ _) (fun _ => rfl) hlv_0 ?_
              refine fx_n (pc' := 153) (lv' := lv) (st' := [.int (Int32.ofInt 2), .ref 78]) aj_d23 rfl (Nat.le_succ _) (fun _ => rfl) ?_
              refine fx_i0 aj_d23 rfl (Nat.le_succ _) (fun _ => rfl) hlv_3 ?_
              refine fx_n (pc' := 155) (lv' := lv) (st' := [.long (Int64.ofNat 0), .int p3, .int (Int32.ofInt 2), .ref 78]) aj_d23 rfl (Nat.le_succ _) (fun _ => rfl) ?_
              refine fx_cv aj_d23 rfl (Nat.le_succ _) rfl [_, _, _] rfl rfl (gx_27_ok (Int32.ofInt 2) p3 (Int64.ofNat 0)) ?_
              rintro _ X72 ⟨w73, rfl, hR72⟩ hok72 hle72
              refine fx_qc hR72 ?_
              show fx_W _ _ _ 158 lv [] _ _
              refine fx_i0 aj_d23 rfl (Nat.le_succ _) (fun _ => rfl) hlv_3 ?_
              exact fx_ri aj_d23 rfl ⟨_, rfl, 0, rfl, rfl⟩
          · skip
            refine fx_qi (c := (y4).toInt = 60) (fx_f_ne q66) ?_
            show fx_W _ _ _ 119 lv [] _ _
            refine fx_i2 aj_d23 rfl (Nat.le_succ _) (fun _ => rfl) hlv_0 ?_
            refine fx_i0 aj_d23 rfl (Nat.le_succ _) (fun _ => rfl) hlv_4 ?_
            refine fx_n (pc' := 124) (lv' := lv) (st' := [.int ((Int8.ofInt 33).toInt32), .int y4, .ref 78]) aj_d23 rfl (Nat.le_succ _) (fun _ => rfl) ?_
            refine fx_b (tgt := 132) aj_d23 rfl (Nat.le_succ _) rfl (fun q74 => ?_) (fun q74 => ?_)
            · skip
              refine fx_qe (c := (y4).toInt = 33) (fx_t_ne q74) ?_
              show fx_W _ _ _ 132 lv [.ref 78] _ _
              refine fx_n (pc' := 134) (lv' := lv) (st' := [.int ((Int8.ofInt 7).toInt32), .ref 78]) aj_d23 rfl (Nat.le_succ _) (fun _ => rfl) ?_
              refine fx_i0 aj_d23 rfl (Nat.le_succ _) (fun _ => rfl) hlv_3 ?_
              refine fx_n (pc' := 136) (lv' := lv) (st' := [.long (Int64.ofNat 0), .int p3, .int ((Int8.ofInt 7).toInt32), .ref 78]) aj_d23 rfl (Nat.le_succ _) (fun _ => rfl) ?_
              refine fx_cv aj_d23 rfl (Nat.le_succ _) rfl [_, _, _] rfl rfl (gx_27_ok ((Int8.ofInt 7).toInt32) p3 (Int64.ofNat 0)) ?_
              rintro _ X75 ⟨w76, rfl, hR75⟩ hok75 hle75
              refine fx_qc hR75 ?_
              show fx_W _ _ _ 139 lv [] _ _
              refine fx_i0 aj_d23 rfl (Nat.le_succ _) (fun _ => rfl) hlv_3 ?_
              refine fx_n (pc' := 141) (lv' := lv) (st' := [.int (Int32.ofInt 2), .int p3]) aj_d23 rfl (Nat.le_succ _) (fun _ => rfl) ?_
              refine fx_n (pc' := 142) (lv' := lv) (st' := [.int (p3 + (Int32.ofInt 2))]) aj_d23 rfl (Nat.le_succ _) (fun _ => rfl) ?_
              exact fx_ri aj_d23 rfl ⟨_, rfl, 0, rfl, rfl⟩
            · skip
              refine fx_qi (c := (y4).toInt = 33) (fx_f_ne q74) ?_
              show fx_W _ _ _ 127 lv [.ref 78] _ _
              refine fx_n (pc' := 129) (lv' := lv) (st' := [.int ((Int8.ofInt 6).toInt32), .ref 78]) aj_d23 rfl (Nat.le_succ _) (fun _ => rfl) ?_
              refine fx_n (pc' := 134) (lv' := lv) (st' := [.int ((Int8.ofInt 6).toInt32), .ref 78]) aj_d23 rfl (Nat.le_succ _) (fun _ => rfl) ?_
              refine fx_i0 aj_d23 rfl (Nat.le_succ _) (fun _ => rfl) hlv_3 ?_
              refine fx_n (pc' := 136) (lv' := lv) (st' := [.long (Int64.ofNat 0), .int p3, .int ((Int8.ofInt 6).toInt32), .ref 78]) aj_d23 rfl (Nat.le_succ _) (fun _ => rfl) ?_
              refine fx_cv aj_d23 rfl (Nat.le_succ _) rfl [_, _, _] rfl rfl (gx_27_ok ((Int8.ofInt 6).toInt32) p3 (Int64.ofNat 0)) ?_
              rintro _ X77 ⟨w78, rfl, hR77⟩ hok77 hle77
              refine fx_qc hR77 ?_
              show fx_W _ _ _ 139 lv [] _ _
              refine fx_i0 aj_d23 rfl (Nat.le_succ _) (fun _ => rfl) hlv_3 ?_
              refine fx_n (pc' := 141) (lv' := lv) (st' := [.int (Int32.ofInt 2), .int p3]) aj_d23 rfl (Nat.le_succ _) (fun _ => rfl) ?_
              refine fx_n (pc' := 142) (lv' := lv) (st' := [.int (p3 + (Int32.ofInt 2))]) aj_d23 rfl (Nat.le_succ _) (fun _ => rfl) ?_
              exact fx_ri aj_d23 rfl ⟨_, rfl, 0, rfl, rfl⟩
theorem gx_23_ok {tb : aj_T} (p2 : Int32) (p3 : Int32) {X : fx_X} : fx_K tb 23 [.ref 78, .ref 53, .int p2, .int p3] X (fx_Q fx_qI (fun v X' => gx_23 p2 p3 X v X')) := by
  refine fx_m aj_m23_at rfl (fun N => ?_)
  refine fx_mono (Q := fx_Q fx_qI (fun v X' => ∃ n : Nat, gxE_23 p2 p3 (gxF_23 p2 p3 n) X v X')) (fun r X' h => h) ?_
  unfold gxE_23
  show fx_W _ _ _ 0 [(0, .ref 78), (1, .ref 53), (2, .int p2), (3, .int p3)] [] _ _
  obtain ⟨lv1, elv1⟩ : ∃ l : aj_V, l = [(0, .ref 78), (1, .ref 53), (2, .int p2), (3, .int p3)] := ⟨_, rfl⟩
  rw [← elv1]
  have hlv1_0 : aj_lv lv1 0 = some (.ref 78) := by rw [elv1]; rfl
  have hlv1_1 : aj_lv lv1 1 = some (.ref 53) := by rw [elv1]; rfl
  have hlv1_2 : aj_lv lv1 2 = some (.int p2) := by rw [elv1]; rfl
  have hlv1_3 : aj_lv lv1 3 = some (.int p3) := by rw [elv1]; rfl
  refine fx_i0 aj_d23 rfl (Nat.le_succ _) (fun _ => rfl) hlv1_3 ?_
  refine fx_i2 aj_d23 rfl (Nat.le_succ _) (fun _ => rfl) hlv1_1 ?_
  refine fx_al aj_d23 rfl (Nat.le_succ _) ?_
  show fx_W _ _ _ 3 lv1 [.int (Int32.ofNat (X.2.2.2.1 53).2), .int p3] _ _
  refine fx_b (tgt := 12) aj_d23 rfl (Nat.le_succ _) rfl (fun q2 => ?_) (fun q2 => ?_)
  · skip
    refine fx_qe (c := (p3).toInt < ((Int32.ofNat (X.2.2.2.1 53).2)).toInt) (fx_t_ge q2) ?_
    show fx_W _ _ _ 12 lv1 [] _ _
    refine fx_n (pc' := 13) (lv' := lv1) (st' := [.int (Int32.ofInt 0)]) aj_d23 rfl (Nat.le_succ _) (fun _ => rfl) ?_
    refine fx_s0 (j := 4) aj_d23 rfl (Nat.le_succ _) (by decide) (fun _ => rfl) ?_
    obtain ⟨lv3, elv3⟩ : ∃ l, l = aj_set1 lv1 4 (.int (Int32.ofInt 0)) := ⟨_, rfl⟩
    rw [← elv3]
    have hlv3_0 : aj_lv lv3 0 = some (.ref 78) := fx_e1 elv3 hlv1_0 (by decide) (Or.inl (by decide))
    have hlv3_1 : aj_lv lv3 1 = some (.ref 53) := fx_e1 elv3 hlv1_1 (by decide) (Or.inl (by decide))
    have hlv3_2 : aj_lv lv3 2 = some (.int p2) := fx_e1 elv3 hlv1_2 (by decide) (Or.inl (by decide))
    have hlv3_3 : aj_lv lv3 3 = some (.int p3) := fx_e1 elv3 hlv1_3 (by decide) (Or.inr rfl)
    have hlv3_4 : aj_lv lv3 4 = some (.int (Int32.ofInt 0)) := by rw [elv3]; exact ak_set1_eq _ _ _
    show fx_W _ _ _ 15 lv3 [] _ _
    refine fx_i0 aj_d23 rfl (Nat.le_succ _) (fun _ => rfl) hlv3_4 ?_
    refine fx_cs aj_d23 rfl (Nat.le_succ _) rfl rfl [_] rfl rfl (gx_24_ok (Int32.ofInt 0)) ?_
    rintro _ X4 ⟨w5, rfl, hR4⟩ hok4 hle4
    refine fx_qc hR4 ?_
    show fx_W _ _ _ 20 lv3 [.int w5] _ _
    refine fx_b0 (tgt := 31) aj_d23 rfl (Nat.le_succ _) rfl (fun q6 => ?_) (fun q6 => ?_)
    · skip
      refine fx_qi (c := (w5).toInt = 0) (fx_t_eq q6) ?_
      show fx_W _ _ _ 31 lv3 [] _ _
      refine fx_i0 aj_d23 rfl (Nat.le_succ _) (fun _ => rfl) hlv3_4 ?_
      refine fx_cs aj_d23 rfl (Nat.le_succ _) rfl rfl [_] rfl rfl (gx_26_ok (Int32.ofInt 0)) ?_
      rintro _ X7 ⟨w8, rfl, hR7⟩ hok7 hle7
      refine fx_qc hR7 ?_
      show fx_W _ _ _ 36 lv3 [.int w8] _ _
      refine fx_b0 (tgt := 47) aj_d23 rfl (Nat.le_succ _) rfl (fun q9 => ?_) (fun q9 => ?_)
      · skip
        refine fx_qi (c := (w8).toInt = 0) (fx_t_eq q9) ?_
        show fx_W _ _ _ 47 lv3 [] _ _
        refine fx_i0 aj_d23 rfl (Nat.le_succ _) (fun _ => rfl) hlv3_3 ?_
        refine fx_n (pc' := 49) (lv' := lv3) (st' := [.int (Int32.ofInt 1), .int p3]) aj_d23 rfl (Nat.le_succ _) (fun _ => rfl) ?_
        refine fx_n (pc' := 50) (lv' := lv3) (st' := [.int (p3 + (Int32.ofInt 1))]) aj_d23 rfl (Nat.le_succ _) (fun _ => rfl) ?_
        refine fx_i0 aj_d23 rfl (Nat.le_succ _) (fun _ => rfl) hlv3_2 ?_
        refine fx_b (tgt := 70) aj_d23 rfl (Nat.le_succ _) rfl (fun q10 => ?_) (fun q10 => ?_)
        · skip
          refine fx_qe (c := ((p3 + (Int32.ofInt 1))).toInt < (p2).toInt) (fx_t_ge q10) ?_
          show fx_W _ _ _ 70 lv3 [] _ _
          refine fx_n (pc' := 71) (lv' := lv3) (st' := [.int (Int32.ofInt 0)]) aj_d23 rfl (Nat.le_succ _) (fun _ => rfl) ?_
          refine fx_s0 (j := 5) aj_d23 rfl (Nat.le_succ _) (by decide) (fun _ => rfl) ?_
          obtain ⟨lv11, elv11⟩ : ∃ l, l = aj_set1 lv3 5 (.int (Int32.ofInt 0)) := ⟨_, rfl⟩
          rw [← elv11]
          have hlv11_0 : aj_lv lv11 0 = some (.ref 78) := fx_e1 elv11 hlv3_0 (by decide) (Or.inl (by decide))
          have hlv11_3 : aj_lv lv11 3 = some (.int p3) := fx_e1 elv11 hlv3_3 (by decide) (Or.inl (by decide))
          have hlv11_4 : aj_lv lv11 4 = some (.int (Int32.ofInt 0)) := fx_e1 elv11 hlv3_4 (by decide) (Or.inr rfl)
          have hlv11_5 : aj_lv lv11 5 = some (.int (Int32.ofInt 0)) := by rw [elv11]; exact ak_set1_eq _ _ _
          show fx_W _ _ _ 73 lv11 [] _ _
          refine fx_i0 aj_d23 rfl (Nat.le_succ _) (fun _ => rfl) hlv11_4 ?_
          refine fx_n (pc' := 77) (lv' := lv11) (st' := [.int ((Int8.ofInt 46).toInt32), .int (Int32.ofInt 0)]) aj_d23 rfl (Nat.le_succ _) (fun _ => rfl) ?_
          refine fx_b (tgt := 98) aj_d23 rfl (Nat.le_succ _) rfl (fun q12 => ?_) (fun q12 => ?_)
          · skip
            show fx_W _ _ _ 98 lv11 [] _ _
            exact ((gxL_23 p2 p3 N)) lv11 ((Int32.ofInt 0)) ((Int32.ofInt 0)) X7  hlv11_0 hlv11_3 hlv11_4 hlv11_5
          · exact absurd q12 (by decide)
        · skip
          refine fx_qi (c := ((p3 + (Int32.ofInt 1))).toInt < (p2).toInt) (fx_f_ge q10) ?_
          show fx_W _ _ _ 54 lv3 [] _ _
          refine fx_i0 aj_d23 rfl (Nat.le_succ _) (fun _ => rfl) hlv3_3 ?_
          refine fx_n (pc' := 56) (lv' := lv3) (st' := [.int (Int32.ofInt 1), .int p3]) aj_d23 rfl (Nat.le_succ _) (fun _ => rfl) ?_
          refine fx_n (pc' := 57) (lv' := lv3) (st' := [.int (p3 + (Int32.ofInt 1))]) aj_d23 rfl (Nat.le_succ _) (fun _ => rfl) ?_
          refine fx_i2 aj_d23 rfl (Nat.le_succ _) (fun _ => rfl) hlv3_1 ?_
          refine fx_al aj_d23 rfl (Nat.le_succ _) ?_
          show fx_W _ _ _ 59 lv3 [.int (Int32.ofNat (X7.2.2.2.1 53).2), .int (p3 + (Int32.ofInt 1))] _ _
          refine fx_b (tgt := 70) aj_d23 rfl (Nat.le_succ _) rfl (fun q13 => ?_) (fun q13 => ?_)
          · skip
            refine fx_qe (c := ((p3 + (Int32.ofInt 1))).toInt < ((Int32.ofNat (X7.2.2.2.1 53).2)).toInt) (fx_t_ge q13) ?_
            show fx_W _ _ _ 70 lv3 [] _ _
            refine fx_n (pc' := 71) (lv' := lv3) (st' := [.int (Int32.ofInt 0)]) aj_d23 rfl (Nat.le_succ _) (fun _ => rfl) ?_
            refine fx_s0 (j := 5) aj_d23 rfl (Nat.le_succ _) (by decide) (fun _ => rfl) ?_
            obtain ⟨lv14, elv14⟩ : ∃ l, l = aj_set1 lv3 5 (.int (Int32.ofInt 0)) := ⟨_, rfl⟩
            rw [← elv14]
            have hlv14_0 : aj_lv lv14 0 = some (.ref 78) := fx_e1 elv14 hlv3_0 (by decide) (Or.inl (by decide))
            have hlv14_3 : aj_lv lv14 3 = some (.int p3) := fx_e1 elv14 hlv3_3 (by decide) (Or.inl (by decide))
            have hlv14_4 : aj_lv lv14 4 = some (.int (Int32.ofInt 0)) := fx_e1 elv14 hlv3_4 (by decide) (Or.inr rfl)
            have hlv14_5 : aj_lv lv14 5 = some (.int (Int32.ofInt 0)) := by rw [elv14]; exact ak_set1_eq _ _ _
            show fx_W _ _ _ 73 lv14 [] _ _
            refine fx_i0 aj_d23 rfl (Nat.le_succ _) (fun _ => rfl) hlv14_4 ?_
            refine fx_n (pc' := 77) (lv' := lv14) (st' := [.int ((Int8.ofInt 46).toInt32), .int (Int32.ofInt 0)]) aj_d23 rfl (Nat.le_succ _) (fun _ => rfl) ?_
            refine fx_b (tgt := 98) aj_d23 rfl (Nat.le_succ _) rfl (fun q15 => ?_) (fun q15 => ?_)
            · skip
              show fx_W _ _ _ 98 lv14 [] _ _
              exact ((gxL_23 p2 p3 N)) lv14 ((Int32.ofInt 0)) ((Int32.ofInt 0)) X7  hlv14_0 hlv14_3 hlv14_4 hlv14_5
            · exact absurd q15 (by decide)
          · skip
            refine fx_qi (c := ((p3 + (Int32.ofInt 1))).toInt < ((Int32.ofNat (X7.2.2.2.1 53).2)).toInt) (fx_f_ge q13) ?_
            show fx_W _ _ _ 62 lv3 [] _ _
            refine fx_i2 aj_d23 rfl (Nat.le_succ _) (fun _ => rfl) hlv3_1 ?_
            refine fx_i0 aj_d23 rfl (Nat.le_succ _) (fun _ => rfl) hlv3_3 ?_
            refine fx_n (pc' := 65) (lv' := lv3) (st' := [.int (Int32.ofInt 1), .int p3, .ref 53]) aj_d23 rfl (Nat.le_succ _) (fun _ => rfl) ?_
            refine fx_n (pc' := 66) (lv' := lv3) (st' := [.int (p3 + (Int32.ofInt 1)), .ref 53]) aj_d23 rfl (Nat.le_succ _) (fun _ => rfl) ?_
            refine fx_ld aj_d23 (Or.inr (Or.inl rfl)) rfl (Nat.le_succ _) (fun g160 g161 => ?_)
            show fx_W _ _ _ 67 lv3 [.int (X7.1 53 ((p3 + (Int32.ofInt 1))).toInt.toNat)] _ _
            refine fx_qa (c := 0 ≤ ((p3 + (Int32.ofInt 1))).toInt) g160 ?_
            refine fx_n (pc' := 71) (lv' := lv3) (st' := [.int (X7.1 53 ((p3 + (Int32.ofInt 1))).toInt.toNat)]) aj_d23 rfl (Nat.le_succ _) (fun _ => rfl) ?_
            refine fx_qxI (fun x17 ex17 => ?_)
            refine fx_s0 (j := 5) aj_d23 rfl (Nat.le_succ _) (by decide) (fun _ => rfl) ?_
            obtain ⟨lv18, elv18⟩ : ∃ l, l = aj_set1 lv3 5 (.int x17) := ⟨_, rfl⟩
            rw [← elv18]
            have hlv18_0 : aj_lv lv18 0 = some (.ref 78) := fx_e1 elv18 hlv3_0 (by decide) (Or.inl (by decide))
            have hlv18_3 : aj_lv lv18 3 = some (.int p3) := fx_e1 elv18 hlv3_3 (by decide) (Or.inl (by decide))
            have hlv18_4 : aj_lv lv18 4 = some (.int (Int32.ofInt 0)) := fx_e1 elv18 hlv3_4 (by decide) (Or.inr rfl)
            have hlv18_5 : aj_lv lv18 5 = some (.int x17) := by rw [elv18]; exact ak_set1_eq _ _ _
            show fx_W _ _ _ 73 lv18 [] _ _
            refine fx_i0 aj_d23 rfl (Nat.le_succ _) (fun _ => rfl) hlv18_4 ?_
            refine fx_n (pc' := 77) (lv' := lv18) (st' := [.int ((Int8.ofInt 46).toInt32), .int (Int32.ofInt 0)]) aj_d23 rfl (Nat.le_succ _) (fun _ => rfl) ?_
            refine fx_b (tgt := 98) aj_d23 rfl (Nat.le_succ _) rfl (fun q19 => ?_) (fun q19 => ?_)
            · skip
              show fx_W _ _ _ 98 lv18 [] _ _
              exact ((gxL_23 p2 p3 N)) lv18 ((Int32.ofInt 0)) (x17) X7  hlv18_0 hlv18_3 hlv18_4 hlv18_5
            · exact absurd q19 (by decide)
      · skip
        refine fx_qe (c := (w8).toInt = 0) (fx_f_eq q9) ?_
        show fx_W _ _ _ 39 lv3 [] _ _
        refine fx_i2 aj_d23 rfl (Nat.le_succ _) (fun _ => rfl) hlv3_0 ?_
        refine fx_i2 aj_d23 rfl (Nat.le_succ _) (fun _ => rfl) hlv3_1 ?_
        refine fx_i0 aj_d23 rfl (Nat.le_succ _) (fun _ => rfl) hlv3_2 ?_
        refine fx_i0 aj_d23 rfl (Nat.le_succ _) (fun _ => rfl) hlv3_3 ?_
        refine fx_cv aj_d23 rfl (Nat.le_succ _) rfl [_, _, _] rfl rfl (gx_29_ok p2 p3) ?_
        rintro _ X20 ⟨w21, rfl, hR20⟩ hok20 hle20
        refine fx_qc hR20 ?_
        show fx_W _ _ _ 46 lv3 [.int w21] _ _
        exact fx_ri aj_d23 rfl ⟨_, rfl, 0, rfl, rfl⟩
    · skip
      refine fx_qe (c := (w5).toInt = 0) (fx_f_eq q6) ?_
      show fx_W _ _ _ 23 lv3 [] _ _
      refine fx_i2 aj_d23 rfl (Nat.le_succ _) (fun _ => rfl) hlv3_0 ?_
      refine fx_i2 aj_d23 rfl (Nat.le_succ _) (fun _ => rfl) hlv3_1 ?_
      refine fx_i0 aj_d23 rfl (Nat.le_succ _) (fun _ => rfl) hlv3_2 ?_
      refine fx_i0 aj_d23 rfl (Nat.le_succ _) (fun _ => rfl) hlv3_3 ?_
      refine fx_cv aj_d23 rfl (Nat.le_succ _) rfl [_, _, _] rfl rfl (gx_25_ok p2 p3) ?_
      rintro _ X22 ⟨w23, rfl, hR22⟩ hok22 hle22
      refine fx_qc hR22 ?_
      show fx_W _ _ _ 30 lv3 [.int w23] _ _
      exact fx_ri aj_d23 rfl ⟨_, rfl, 0, rfl, rfl⟩
  · skip
    refine fx_qi (c := (p3).toInt < ((Int32.ofNat (X.2.2.2.1 53).2)).toInt) (fx_f_ge q2) ?_
    show fx_W _ _ _ 6 lv1 [] _ _
    refine fx_i2 aj_d23 rfl (Nat.le_succ _) (fun _ => rfl) hlv1_1 ?_
    refine fx_i0 aj_d23 rfl (Nat.le_succ _) (fun _ => rfl) hlv1_3 ?_
    refine fx_ld aj_d23 (Or.inr (Or.inl rfl)) rfl (Nat.le_succ _) (fun g240 g241 => ?_)
    show fx_W _ _ _ 9 lv1 [.int (X.1 53 (p3).toInt.toNat)] _ _
    refine fx_qa (c := 0 ≤ (p3).toInt) g240 ?_
    refine fx_n (pc' := 13) (lv' := lv1) (st' := [.int (X.1 53 (p3).toInt.toNat)]) aj_d23 rfl (Nat.le_succ _) (fun _ => rfl) ?_
    refine fx_qxI (fun x25 ex25 => ?_)
    refine fx_s0 (j := 4) aj_d23 rfl (Nat.le_succ _) (by decide) (fun _ => rfl) ?_
    obtain ⟨lv26, elv26⟩ : ∃ l, l = aj_set1 lv1 4 (.int x25) := ⟨_, rfl⟩
    rw [← elv26]
    have hlv26_0 : aj_lv lv26 0 = some (.ref 78) := fx_e1 elv26 hlv1_0 (by decide) (Or.inl (by decide))
    have hlv26_1 : aj_lv lv26 1 = some (.ref 53) := fx_e1 elv26 hlv1_1 (by decide) (Or.inl (by decide))
    have hlv26_2 : aj_lv lv26 2 = some (.int p2) := fx_e1 elv26 hlv1_2 (by decide) (Or.inl (by decide))
    have hlv26_3 : aj_lv lv26 3 = some (.int p3) := fx_e1 elv26 hlv1_3 (by decide) (Or.inr rfl)
    have hlv26_4 : aj_lv lv26 4 = some (.int x25) := by rw [elv26]; exact ak_set1_eq _ _ _
    show fx_W _ _ _ 15 lv26 [] _ _
    refine fx_i0 aj_d23 rfl (Nat.le_succ _) (fun _ => rfl) hlv26_4 ?_
    refine fx_cs aj_d23 rfl (Nat.le_succ _) rfl rfl [_] rfl rfl (gx_24_ok x25) ?_
    rintro _ X27 ⟨w28, rfl, hR27⟩ hok27 hle27
    refine fx_qc hR27 ?_
    show fx_W _ _ _ 20 lv26 [.int w28] _ _
    refine fx_b0 (tgt := 31) aj_d23 rfl (Nat.le_succ _) rfl (fun q29 => ?_) (fun q29 => ?_)
    · skip
      refine fx_qi (c := (w28).toInt = 0) (fx_t_eq q29) ?_
      show fx_W _ _ _ 31 lv26 [] _ _
      refine fx_i0 aj_d23 rfl (Nat.le_succ _) (fun _ => rfl) hlv26_4 ?_
      refine fx_cs aj_d23 rfl (Nat.le_succ _) rfl rfl [_] rfl rfl (gx_26_ok x25) ?_
      rintro _ X30 ⟨w31, rfl, hR30⟩ hok30 hle30
      refine fx_qc hR30 ?_
      show fx_W _ _ _ 36 lv26 [.int w31] _ _
      refine fx_b0 (tgt := 47) aj_d23 rfl (Nat.le_succ _) rfl (fun q32 => ?_) (fun q32 => ?_)
      · skip
        refine fx_qi (c := (w31).toInt = 0) (fx_t_eq q32) ?_
        show fx_W _ _ _ 47 lv26 [] _ _
        refine fx_i0 aj_d23 rfl (Nat.le_succ _) (fun _ => rfl) hlv26_3 ?_
        refine fx_n (pc' := 49) (lv' := lv26) (st' := [.int (Int32.ofInt 1), .int p3]) aj_d23 rfl (Nat.le_succ _) (fun _ => rfl) ?_
        refine fx_n (pc' := 50) (lv' := lv26) (st' := [.int (p3 + (Int32.ofInt 1))]) aj_d23 rfl (Nat.le_succ _) (fun _ => rfl) ?_
        refine fx_i0 aj_d23 rfl (Nat.le_succ _) (fun _ => rfl) hlv26_2 ?_
        refine fx_b (tgt := 70) aj_d23 rfl (Nat.le_succ _) rfl (fun q33 => ?_) (fun q33 => ?_)
        · skip
          refine fx_qe (c := ((p3 + (Int32.ofInt 1))).toInt < (p2).toInt) (fx_t_ge q33) ?_
          show fx_W _ _ _ 70 lv26 [] _ _
          refine fx_n (pc' := 71) (lv' := lv26) (st' := [.int (Int32.ofInt 0)]) aj_d23 rfl (Nat.le_succ _) (fun _ => rfl) ?_
          refine fx_s0 (j := 5) aj_d23 rfl (Nat.le_succ _) (by decide) (fun _ => rfl) ?_
          obtain ⟨lv34, elv34⟩ : ∃ l, l = aj_set1 lv26 5 (.int (Int32.ofInt 0)) := ⟨_, rfl⟩
          rw [← elv34]
          have hlv34_0 : aj_lv lv34 0 = some (.ref 78) := fx_e1 elv34 hlv26_0 (by decide) (Or.inl (by decide))
          have hlv34_3 : aj_lv lv34 3 = some (.int p3) := fx_e1 elv34 hlv26_3 (by decide) (Or.inl (by decide))
          have hlv34_4 : aj_lv lv34 4 = some (.int x25) := fx_e1 elv34 hlv26_4 (by decide) (Or.inr rfl)
          have hlv34_5 : aj_lv lv34 5 = some (.int (Int32.ofInt 0)) := by rw [elv34]; exact ak_set1_eq _ _ _
          show fx_W _ _ _ 73 lv34 [] _ _
          refine fx_i0 aj_d23 rfl (Nat.le_succ _) (fun _ => rfl) hlv34_4 ?_
          refine fx_n (pc' := 77) (lv' := lv34) (st' := [.int ((Int8.ofInt 46).toInt32), .int x25]) aj_d23 rfl (Nat.le_succ _) (fun _ => rfl) ?_
          refine fx_b (tgt := 98) aj_d23 rfl (Nat.le_succ _) rfl (fun q35 => ?_) (fun q35 => ?_)
          · skip
            refine fx_qe (c := (x25).toInt = 46) (fx_t_ne q35) ?_
            show fx_W _ _ _ 98 lv34 [] _ _
            exact ((gxL_23 p2 p3 N)) lv34 (x25) ((Int32.ofInt 0)) X30  hlv34_0 hlv34_3 hlv34_4 hlv34_5
          · skip
            refine fx_qi (c := (x25).toInt = 46) (fx_f_ne q35) ?_
            show fx_W _ _ _ 80 lv34 [] _ _
            refine fx_i0 aj_d23 rfl (Nat.le_succ _) (fun _ => rfl) hlv34_5 ?_
            refine fx_n (pc' := 84) (lv' := lv34) (st' := [.int ((Int8.ofInt 46).toInt32), .int (Int32.ofInt 0)]) aj_d23 rfl (Nat.le_succ _) (fun _ => rfl) ?_
            refine fx_b (tgt := 98) aj_d23 rfl (Nat.le_succ _) rfl (fun q36 => ?_) (fun q36 => ?_)
            · skip
              show fx_W _ _ _ 98 lv34 [] _ _
              exact ((gxL_23 p2 p3 N)) lv34 (x25) ((Int32.ofInt 0)) X30  hlv34_0 hlv34_3 hlv34_4 hlv34_5
            · exact absurd q36 (by decide)
        · skip
          refine fx_qi (c := ((p3 + (Int32.ofInt 1))).toInt < (p2).toInt) (fx_f_ge q33) ?_
          show fx_W _ _ _ 54 lv26 [] _ _
          refine fx_i0 aj_d23 rfl (Nat.le_succ _) (fun _ => rfl) hlv26_3 ?_
          refine fx_n (pc' := 56) (lv' := lv26) (st' := [.int (Int32.ofInt 1), .int p3]) aj_d23 rfl (Nat.le_succ _) (fun _ => rfl) ?_
          refine fx_n (pc' := 57) (lv' := lv26) (st' := [.int (p3 + (Int32.ofInt 1))]) aj_d23 rfl (Nat.le_succ _) (fun _ => rfl) ?_
          refine fx_i2 aj_d23 rfl (Nat.le_succ _) (fun _ => rfl) hlv26_1 ?_
          refine fx_al aj_d23 rfl (Nat.le_succ _) ?_
          show fx_W _ _ _ 59 lv26 [.int (Int32.ofNat (X30.2.2.2.1 53).2), .int (p3 + (Int32.ofInt 1))] _ _
          refine fx_b (tgt := 70) aj_d23 rfl (Nat.le_succ _) rfl (fun q37 => ?_) (fun q37 => ?_)
          · skip
            refine fx_qe (c := ((p3 + (Int32.ofInt 1))).toInt < ((Int32.ofNat (X30.2.2.2.1 53).2)).toInt) (fx_t_ge q37) ?_
            show fx_W _ _ _ 70 lv26 [] _ _
            refine fx_n (pc' := 71) (lv' := lv26) (st' := [.int (Int32.ofInt 0)]) aj_d23 rfl (Nat.le_succ _) (fun _ => rfl) ?_
            refine fx_s0 (j := 5) aj_d23 rfl (Nat.le_succ _) (by decide) (fun _ => rfl) ?_
            obtain ⟨lv38, elv38⟩ : ∃ l, l = aj_set1 lv26 5 (.int (Int32.ofInt 0)) := ⟨_, rfl⟩
            rw [← elv38]
            have hlv38_0 : aj_lv lv38 0 = some (.ref 78) := fx_e1 elv38 hlv26_0 (by decide) (Or.inl (by decide))
            have hlv38_3 : aj_lv lv38 3 = some (.int p3) := fx_e1 elv38 hlv26_3 (by decide) (Or.inl (by decide))
            have hlv38_4 : aj_lv lv38 4 = some (.int x25) := fx_e1 elv38 hlv26_4 (by decide) (Or.inr rfl)
            have hlv38_5 : aj_lv lv38 5 = some (.int (Int32.ofInt 0)) := by rw [elv38]; exact ak_set1_eq _ _ _
            show fx_W _ _ _ 73 lv38 [] _ _
            refine fx_i0 aj_d23 rfl (Nat.le_succ _) (fun _ => rfl) hlv38_4 ?_
            refine fx_n (pc' := 77) (lv' := lv38) (st' := [.int ((Int8.ofInt 46).toInt32), .int x25]) aj_d23 rfl (Nat.le_succ _) (fun _ => rfl) ?_
            refine fx_b (tgt := 98) aj_d23 rfl (Nat.le_succ _) rfl (fun q39 => ?_) (fun q39 => ?_)
            · skip
              refine fx_qe (c := (x25).toInt = 46) (fx_t_ne q39) ?_
              show fx_W _ _ _ 98 lv38 [] _ _
              exact ((gxL_23 p2 p3 N)) lv38 (x25) ((Int32.ofInt 0)) X30  hlv38_0 hlv38_3 hlv38_4 hlv38_5
            · skip
              refine fx_qi (c := (x25).toInt = 46) (fx_f_ne q39) ?_
              show fx_W _ _ _ 80 lv38 [] _ _
              refine fx_i0 aj_d23 rfl (Nat.le_succ _) (fun _ => rfl) hlv38_5 ?_
              refine fx_n (pc' := 84) (lv' := lv38) (st' := [.int ((Int8.ofInt 46).toInt32), .int (Int32.ofInt 0)]) aj_d23 rfl (Nat.le_succ _) (fun _ => rfl) ?_
              refine fx_b (tgt := 98) aj_d23 rfl (Nat.le_succ _) rfl (fun q40 => ?_) (fun q40 => ?_)
              · skip
                show fx_W _ _ _ 98 lv38 [] _ _
                exact ((gxL_23 p2 p3 N)) lv38 (x25) ((Int32.ofInt 0)) X30  hlv38_0 hlv38_3 hlv38_4 hlv38_5
              · exact absurd q40 (by decide)
          · skip
            refine fx_qi (c := ((p3 + (Int32.ofInt 1))).toInt < ((Int32.ofNat (X30.2.2.2.1 53).2)).toInt) (fx_f_ge q37) ?_
            show fx_W _ _ _ 62 lv26 [] _ _
            refine fx_i2 aj_d23 rfl (Nat.le_succ _) (fun _ => rfl) hlv26_1 ?_
            refine fx_i0 aj_d23 rfl (Nat.le_succ _) (fun _ => rfl) hlv26_3 ?_
            refine fx_n (pc' := 65) (lv' := lv26) (st' := [.int (Int32.ofInt 1), .int p3, .ref 53]) aj_d23 rfl (Nat.le_succ _) (fun _ => rfl) ?_
            refine fx_n (pc' := 66) (lv' := lv26) (st' := [.int (p3 + (Int32.ofInt 1)), .ref 53]) aj_d23 rfl (Nat.le_succ _) (fun _ => rfl) ?_
            refine fx_ld aj_d23 (Or.inr (Or.inl rfl)) rfl (Nat.le_succ _) (fun g410 g411 => ?_)
            show fx_W _ _ _ 67 lv26 [.int (X30.1 53 ((p3 + (Int32.ofInt 1))).toInt.toNat)] _ _
            refine fx_qa (c := 0 ≤ ((p3 + (Int32.ofInt 1))).toInt) g410 ?_
            refine fx_n (pc' := 71) (lv' := lv26) (st' := [.int (X30.1 53 ((p3 + (Int32.ofInt 1))).toInt.toNat)]) aj_d23 rfl (Nat.le_succ _) (fun _ => rfl) ?_
            refine fx_qxI (fun x42 ex42 => ?_)
            refine fx_s0 (j := 5) aj_d23 rfl (Nat.le_succ _) (by decide) (fun _ => rfl) ?_
            obtain ⟨lv43, elv43⟩ : ∃ l, l = aj_set1 lv26 5 (.int x42) := ⟨_, rfl⟩
            rw [← elv43]
            have hlv43_0 : aj_lv lv43 0 = some (.ref 78) := fx_e1 elv43 hlv26_0 (by decide) (Or.inl (by decide))
            have hlv43_3 : aj_lv lv43 3 = some (.int p3) := fx_e1 elv43 hlv26_3 (by decide) (Or.inl (by decide))
            have hlv43_4 : aj_lv lv43 4 = some (.int x25) := fx_e1 elv43 hlv26_4 (by decide) (Or.inr rfl)
            have hlv43_5 : aj_lv lv43 5 = some (.int x42) := by rw [elv43]; exact ak_set1_eq _ _ _
            show fx_W _ _ _ 73 lv43 [] _ _
            refine fx_i0 aj_d23 rfl (Nat.le_succ _) (fun _ => rfl) hlv43_4 ?_
            refine fx_n (pc' := 77) (lv' := lv43) (st' := [.int ((Int8.ofInt 46).toInt32), .int x25]) aj_d23 rfl (Nat.le_succ _) (fun _ => rfl) ?_
            refine fx_b (tgt := 98) aj_d23 rfl (Nat.le_succ _) rfl (fun q44 => ?_) (fun q44 => ?_)
            · skip
              refine fx_qe (c := (x25).toInt = 46) (fx_t_ne q44) ?_
              show fx_W _ _ _ 98 lv43 [] _ _
              exact ((gxL_23 p2 p3 N)) lv43 (x25) (x42) X30  hlv43_0 hlv43_3 hlv43_4 hlv43_5
            · skip
              refine fx_qi (c := (x25).toInt = 46) (fx_f_ne q44) ?_
              show fx_W _ _ _ 80 lv43 [] _ _
              refine fx_i0 aj_d23 rfl (Nat.le_succ _) (fun _ => rfl) hlv43_5 ?_
              refine fx_n (pc' := 84) (lv' := lv43) (st' := [.int ((Int8.ofInt 46).toInt32), .int x42]) aj_d23 rfl (Nat.le_succ _) (fun _ => rfl) ?_
              refine fx_b (tgt := 98) aj_d23 rfl (Nat.le_succ _) rfl (fun q45 => ?_) (fun q45 => ?_)
              · skip
                refine fx_qe (c := (x42).toInt = 46) (fx_t_ne q45) ?_
                show fx_W _ _ _ 98 lv43 [] _ _
                exact ((gxL_23 p2 p3 N)) lv43 (x25) (x42) X30  hlv43_0 hlv43_3 hlv43_4 hlv43_5
              · skip
                refine fx_qi (c := (x42).toInt = 46) (fx_f_ne q45) ?_
                show fx_W _ _ _ 87 lv43 [] _ _
                refine fx_i2 aj_d23 rfl (Nat.le_succ _) (fun _ => rfl) hlv43_0 ?_
                refine fx_n (pc' := 89) (lv' := lv43) (st' := [.int (Int32.ofInt 5), .ref 78]) aj_d23 rfl (Nat.le_succ _) (fun _ => rfl) ?_
                refine fx_i0 aj_d23 rfl (Nat.le_succ _) (fun _ => rfl) hlv43_3 ?_
                refine fx_n (pc' := 91) (lv' := lv43) (st' := [.long (Int64.ofNat 0), .int p3, .int (Int32.ofInt 5), .ref 78]) aj_d23 rfl (Nat.le_succ _) (fun _ => rfl) ?_
                refine fx_cv aj_d23 rfl (Nat.le_succ _) rfl [_, _, _] rfl rfl (gx_27_ok (Int32.ofInt 5) p3 (Int64.ofNat 0)) ?_
                rintro _ X46 ⟨w47, rfl, hR46⟩ hok46 hle46
                refine fx_qc hR46 ?_
                show fx_W _ _ _ 94 lv43 [] _ _
                refine fx_i0 aj_d23 rfl (Nat.le_succ _) (fun _ => rfl) hlv43_3 ?_
                refine fx_n (pc' := 96) (lv' := lv43) (st' := [.int (Int32.ofInt 2), .int p3]) aj_d23 rfl (Nat.le_succ _) (fun _ => rfl) ?_
                refine fx_n (pc' := 97) (lv' := lv43) (st' := [.int (p3 + (Int32.ofInt 2))]) aj_d23 rfl (Nat.le_succ _) (fun _ => rfl) ?_
                exact fx_ri aj_d23 rfl ⟨_, rfl, 0, rfl, rfl⟩
      · skip
        refine fx_qe (c := (w31).toInt = 0) (fx_f_eq q32) ?_
        show fx_W _ _ _ 39 lv26 [] _ _
        refine fx_i2 aj_d23 rfl (Nat.le_succ _) (fun _ => rfl) hlv26_0 ?_
        refine fx_i2 aj_d23 rfl (Nat.le_succ _) (fun _ => rfl) hlv26_1 ?_
        refine fx_i0 aj_d23 rfl (Nat.le_succ _) (fun _ => rfl) hlv26_2 ?_
        refine fx_i0 aj_d23 rfl (Nat.le_succ _) (fun _ => rfl) hlv26_3 ?_
        refine fx_cv aj_d23 rfl (Nat.le_succ _) rfl [_, _, _] rfl rfl (gx_29_ok p2 p3) ?_
        rintro _ X48 ⟨w49, rfl, hR48⟩ hok48 hle48
        refine fx_qc hR48 ?_
        show fx_W _ _ _ 46 lv26 [.int w49] _ _
        exact fx_ri aj_d23 rfl ⟨_, rfl, 0, rfl, rfl⟩
    · skip
      refine fx_qe (c := (w28).toInt = 0) (fx_f_eq q29) ?_
      show fx_W _ _ _ 23 lv26 [] _ _
      refine fx_i2 aj_d23 rfl (Nat.le_succ _) (fun _ => rfl) hlv26_0 ?_
      refine fx_i2 aj_d23 rfl (Nat.le_succ _) (fun _ => rfl) hlv26_1 ?_
      refine fx_i0 aj_d23 rfl (Nat.le_succ _) (fun _ => rfl) hlv26_2 ?_
      refine fx_i0 aj_d23 rfl (Nat.le_succ _) (fun _ => rfl) hlv26_3 ?_
      refine fx_cv aj_d23 rfl (Nat.le_succ _) rfl [_, _, _] rfl rfl (gx_25_ok p2 p3) ?_
      rintro _ X50 ⟨w51, rfl, hR50⟩ hok50 hle50
      refine fx_qc hR50 ?_
      show fx_W _ _ _ 30 lv26 [.int w51] _ _
      exact fx_ri aj_d23 rfl ⟨_, rfl, 0, rfl, rfl⟩
def gxT_21_10 (p2 : Int32) (P : Nat → List Int32 → List Int64 → List Nat → fx_X → Unit → fx_X → Prop) (y3 : Int32) (y4 : Int32) (X : fx_X) (v : Unit) (X' : fx_X) : Prop :=
  (if (y3).toInt = 0 then (∃ (w7 : Unit) (X6 : fx_X), gx_27 (Int32.ofInt 1) p2 (Int64.ofNat 0) X w7 X6 ∧ X' = X6) else ((if (y4).toInt < (p2).toInt then ((if (y4).toInt < ((Int32.ofNat (X.2.2.2.1 53).2)).toInt then ((0 ≤ (y4).toInt) ∧ ∃ x15 : Int32, x15 = (X.1 53 (y4).toInt.toNat) ∧ ∃ (w18 : Int32) (X17 : fx_X), gx_22 x15 X w18 X17 ∧ (if (w18).toInt = 0 then (∃ (w21 : Int32) (X20 : fx_X), gx_23 p2 y4 X17 w21 X20 ∧ (if (y4).toInt < (w21).toInt then ((if 1000 < ((X20.1 78 3)).toInt then (P 10 [(Int32.ofInt 0), w21] [] [] X20 v X') else (P 10 [(Int32.ofInt 1), w21] [] [] X20 v X'))) else (P 10 [(Int32.ofInt 0), w21] [] [] X20 v X'))) else (∃ x31 : Int32, x31 = y4 + Int32.ofInt 1 ∧ P 10 [y3, x31] [] [] X17 v X'))) else (∃ (w13 : Unit) (X12 : fx_X), gx_27 (Int32.ofInt 1) p2 (Int64.ofNat 0) X w13 X12 ∧ X' = X12))) else (∃ (w10 : Unit) (X9 : fx_X), gx_27 (Int32.ofInt 1) p2 (Int64.ofNat 0) X w10 X9 ∧ X' = X9))))
def gxE_21 (p2 : Int32) (P : Nat → List Int32 → List Int64 → List Nat → fx_X → Unit → fx_X → Prop) (X : fx_X) (v : Unit) (X' : fx_X) : Prop :=
  ∃ X2 : fx_X, X2 = (fx_wI X 78 3 (Int32.ofInt 0)) ∧ P 10 [(Int32.ofInt 1), (Int32.ofInt 0)] [] [] X2 v X'
noncomputable def gxF_21 (p2 : Int32) (n : Nat) : Nat → List Int32 → List Int64 → List Nat → fx_X → Unit → fx_X → Prop := Nat.rec (motive := fun _ => Nat → List Int32 → List Int64 → List Nat → fx_X → Unit → fx_X → Prop) (fun _ _ _ _ _ _ _ => False) (fun _ P l is ls rs X v X' => (l = 10 ∧ ∃ (y3 : Int32) (y4 : Int32), is = [y3, y4] ∧ ls = [] ∧ rs = [] ∧ gxT_21_10 p2 P y3 y4 X v X')) n
theorem gxI_21_10 {p2 : Int32} {n : Nat} {y3 : Int32} {y4 : Int32} {X : fx_X} {v : Unit} {X' : fx_X} (h : gxT_21_10 p2 (gxF_21 p2 n) y3 y4 X v X') : gxF_21 p2 (n + 1) 10 [y3, y4] [] [] X v X' := ⟨rfl, y3, y4, rfl, rfl, rfl, h⟩
theorem gxO_21_10 {p2 : Int32} {n : Nat} {y3 : Int32} {y4 : Int32} {X : fx_X} {v : Unit} {X' : fx_X} (h : gxF_21 p2 (n + 1) 10 [y3, y4] [] [] X v X') : gxT_21_10 p2 (gxF_21 p2 n) y3 y4 X v X' := by
  rcases h with ⟨-, _, _, e1, e2, e3, h⟩
  · cases e1; cases e2; cases e3; exact h
def gx_21 (p2 : Int32) (X : fx_X) (v : Unit) (X' : fx_X) : Prop := ∃ n : Nat, gxE_21 p2 (gxF_21 p2 n) X v X'
theorem gxL_21 {tb : aj_T} (p2 : Int32) : ∀ N : Nat, (∀ (lv : aj_V) (y3 : Int32) (y4 : Int32) (X : fx_X), aj_lv lv 0 = some (.ref 78) → aj_lv lv 1 = some (.ref 53) → aj_lv lv 2 = some (.int p2) → aj_lv lv 3 = some (.int y3) → aj_lv lv 4 = some (.int y4) → fx_W tb aj_m21 N 10 lv [] X (fx_Q fx_qN (fun v X' => ∃ n : Nat, gxF_21 p2 n 10 [y3, y4] [] [] X v X'))) := by
  intro N
  induction N with
  | zero => exact (by intros; exact fx_z)
  | succ N ih =>
    skip
    · intro lv y3 y4 X hlv_0 hlv_1 hlv_2 hlv_3 hlv_4
      refine fx_mono (Q := fx_Q fx_qN (fun v X' => ∃ n : Nat, gxT_21_10 p2 (gxF_21 p2 n) y3 y4 X v X')) (fun r X' ⟨v, e, n, z⟩ => ⟨v, e, n + 1, gxI_21_10 z⟩) ?_
      unfold gxT_21_10
      refine fx_i0 aj_d21 rfl (Nat.le_refl _) (fun _ => rfl) hlv_3 ?_
      refine fx_b0 (tgt := 87) aj_d21 rfl (Nat.le_succ _) rfl (fun q5 => ?_) (fun q5 => ?_)
      · skip
        refine fx_qi (c := (y3).toInt = 0) (fx_t_eq q5) ?_
        show fx_W _ _ _ 87 lv [] _ _
        refine fx_i2 aj_d21 rfl (Nat.le_succ _) (fun _ => rfl) hlv_0 ?_
        refine fx_n (pc' := 89) (lv' := lv) (st' := [.int (Int32.ofInt 1), .ref 78]) aj_d21 rfl (Nat.le_succ _) (fun _ => rfl) ?_
        refine fx_i0 aj_d21 rfl (Nat.le_succ _) (fun _ => rfl) hlv_2 ?_
        refine fx_n (pc' := 91) (lv' := lv) (st' := [.long (Int64.ofNat 0), .int p2, .int (Int32.ofInt 1), .ref 78]) aj_d21 rfl (Nat.le_succ _) (fun _ => rfl) ?_
        refine fx_cv aj_d21 rfl (Nat.le_succ _) rfl [_, _, _] rfl rfl (gx_27_ok (Int32.ofInt 1) p2 (Int64.ofNat 0)) ?_
        rintro _ X6 ⟨w7, rfl, hR6⟩ hok6 hle6
        refine fx_qc hR6 ?_
        show fx_W _ _ _ 94 lv [] _ _
        exact fx_rn aj_d21 rfl ⟨(), rfl, 0, rfl⟩
      · skip
        refine fx_qe (c := (y3).toInt = 0) (fx_f_eq q5) ?_
        show fx_W _ _ _ 14 lv [] _ _
        refine fx_i0 aj_d21 rfl (Nat.le_succ _) (fun _ => rfl) hlv_4 ?_
        refine fx_i0 aj_d21 rfl (Nat.le_succ _) (fun _ => rfl) hlv_2 ?_
        refine fx_b (tgt := 87) aj_d21 rfl (Nat.le_succ _) rfl (fun q8 => ?_) (fun q8 => ?_)
        · skip
          refine fx_qe (c := (y4).toInt < (p2).toInt) (fx_t_ge q8) ?_
          show fx_W _ _ _ 87 lv [] _ _
          refine fx_i2 aj_d21 rfl (Nat.le_succ _) (fun _ => rfl) hlv_0 ?_
          refine fx_n (pc' := 89) (lv' := lv) (st' := [.int (Int32.ofInt 1), .ref 78]) aj_d21 rfl (Nat.le_succ _) (fun _ => rfl) ?_
          refine fx_i0 aj_d21 rfl (Nat.le_succ _) (fun _ => rfl) hlv_2 ?_
          refine fx_n (pc' := 91) (lv' := lv) (st' := [.long (Int64.ofNat 0), .int p2, .int (Int32.ofInt 1), .ref 78]) aj_d21 rfl (Nat.le_succ _) (fun _ => rfl) ?_
          refine fx_cv aj_d21 rfl (Nat.le_succ _) rfl [_, _, _] rfl rfl (gx_27_ok (Int32.ofInt 1) p2 (Int64.ofNat 0)) ?_
          rintro _ X9 ⟨w10, rfl, hR9⟩ hok9 hle9
          refine fx_qc hR9 ?_
          show fx_W _ _ _ 94 lv [] _ _
          exact fx_rn aj_d21 rfl ⟨(), rfl, 0, rfl⟩
        · skip
          refine fx_qi (c := (y4).toInt < (p2).toInt) (fx_f_ge q8) ?_
          show fx_W _ _ _ 20 lv [] _ _
          refine fx_i0 aj_d21 rfl (Nat.le_succ _) (fun _ => rfl) hlv_4 ?_
          refine fx_i2 aj_d21 rfl (Nat.le_succ _) (fun _ => rfl) hlv_1 ?_
          refine fx_al aj_d21 rfl (Nat.le_succ _) ?_
          show fx_W _ _ _ 24 lv [.int (Int32.ofNat (X.2.2.2.1 53).2), .int y4] _ _
          refine fx_b (tgt := 87) aj_d21 rfl (Nat.le_succ _) rfl (fun q11 => ?_) (fun q11 => ?_)
          · skip
            refine fx_qe (c := (y4).toInt < ((Int32.ofNat (X.2.2.2.1 53).2)).toInt) (fx_t_ge q11) ?_
            show fx_W _ _ _ 87 lv [] _ _
            refine fx_i2 aj_d21 rfl (Nat.le_succ _) (fun _ => rfl) hlv_0 ?_
            refine fx_n (pc' := 89) (lv' := lv) (st' := [.int (Int32.ofInt 1), .ref 78]) aj_d21 rfl (Nat.le_succ _) (fun _ => rfl) ?_
            refine fx_i0 aj_d21 rfl (Nat.le_succ _) (fun _ => rfl) hlv_2 ?_
            refine fx_n (pc' := 91) (lv' := lv) (st' := [.long (Int64.ofNat 0), .int p2, .int (Int32.ofInt 1), .ref 78]) aj_d21 rfl (Nat.le_succ _) (fun _ => rfl) ?_
            refine fx_cv aj_d21 rfl (Nat.le_succ _) rfl [_, _, _] rfl rfl (gx_27_ok (Int32.ofInt 1) p2 (Int64.ofNat 0)) ?_
            rintro _ X12 ⟨w13, rfl, hR12⟩ hok12 hle12
            refine fx_qc hR12 ?_
            show fx_W _ _ _ 94 lv [] _ _
            exact fx_rn aj_d21 rfl ⟨(), rfl, 0, rfl⟩
          · skip
            refine fx_qi (c := (y4).toInt < ((Int32.ofNat (X.2.2.2.1 53).2)).toInt) (fx_f_ge q11) ?_
            show fx_W _ _ _ 27 lv [] _ _
            refine fx_i2 aj_d21 rfl (Nat.le_succ _) (fun _ => rfl) hlv_1 ?_
            refine fx_i0 aj_d21 rfl (Nat.le_succ _) (fun _ => rfl) hlv_4 ?_
            refine fx_ld aj_d21 (Or.inr (Or.inl rfl)) rfl (Nat.le_succ _) (fun g140 g141 => ?_)
            show fx_W _ _ _ 31 lv [.int (X.1 53 (y4).toInt.toNat)] _ _
            refine fx_qa (c := 0 ≤ (y4).toInt) g140 ?_
            refine fx_qxI (fun x15 ex15 => ?_)
            refine fx_s0 (j := 5) aj_d21 rfl (Nat.le_succ _) (by decide) (fun _ => rfl) ?_
            obtain ⟨lv16, elv16⟩ : ∃ l, l = aj_set1 lv 5 (.int x15) := ⟨_, rfl⟩
            rw [← elv16]
            have hlv16_0 : aj_lv lv16 0 = some (.ref 78) := fx_e1 elv16 hlv_0 (by decide) (Or.inl (by decide))
            have hlv16_1 : aj_lv lv16 1 = some (.ref 53) := fx_e1 elv16 hlv_1 (by decide) (Or.inl (by decide))
            have hlv16_2 : aj_lv lv16 2 = some (.int p2) := fx_e1 elv16 hlv_2 (by decide) (Or.inl (by decide))
            have hlv16_3 : aj_lv lv16 3 = some (.int y3) := fx_e1 elv16 hlv_3 (by decide) (Or.inl (by decide))
            have hlv16_4 : aj_lv lv16 4 = some (.int y4) := fx_e1 elv16 hlv_4 (by decide) (Or.inr rfl)
            have hlv16_5 : aj_lv lv16 5 = some (.int x15) := by rw [elv16]; exact ak_set1_eq _ _ _
            show fx_W _ _ _ 33 lv16 [] _ _
            refine fx_i0 aj_d21 rfl (Nat.le_succ _) (fun _ => rfl) hlv16_5 ?_
            refine fx_cs aj_d21 rfl (Nat.le_succ _) rfl rfl [_] rfl rfl (gx_22_ok x15) ?_
            rintro _ X17 ⟨w18, rfl, hR17⟩ hok17 hle17
            refine fx_qc hR17 ?_
            show fx_W _ _ _ 38 lv16 [.int w18] _ _
            refine fx_b0 (tgt := 47) aj_d21 rfl (Nat.le_succ _) rfl (fun q19 => ?_) (fun q19 => ?_)
            · skip
              refine fx_qi (c := (w18).toInt = 0) (fx_t_eq q19) ?_
              show fx_W _ _ _ 47 lv16 [] _ _
              refine fx_i2 aj_d21 rfl (Nat.le_succ _) (fun _ => rfl) hlv16_0 ?_
              refine fx_i2 aj_d21 rfl (Nat.le_succ _) (fun _ => rfl) hlv16_1 ?_
              refine fx_i0 aj_d21 rfl (Nat.le_succ _) (fun _ => rfl) hlv16_2 ?_
              refine fx_i0 aj_d21 rfl (Nat.le_succ _) (fun _ => rfl) hlv16_4 ?_
              refine fx_cv aj_d21 rfl (Nat.le_succ _) rfl [_, _, _] rfl rfl (gx_23_ok p2 y4) ?_
              rintro _ X20 ⟨w21, rfl, hR20⟩ hok20 hle20
              refine fx_qc hR20 ?_
              show fx_W _ _ _ 55 lv16 [.int w21] _ _
              refine fx_s0 (j := 6) aj_d21 rfl (Nat.le_succ _) (by decide) (fun _ => rfl) ?_
              obtain ⟨lv22, elv22⟩ : ∃ l, l = aj_set1 lv16 6 (.int w21) := ⟨_, rfl⟩
              rw [← elv22]
              have hlv22_0 : aj_lv lv22 0 = some (.ref 78) := fx_e1 elv22 hlv16_0 (by decide) (Or.inl (by decide))
              have hlv22_1 : aj_lv lv22 1 = some (.ref 53) := fx_e1 elv22 hlv16_1 (by decide) (Or.inl (by decide))
              have hlv22_2 : aj_lv lv22 2 = some (.int p2) := fx_e1 elv22 hlv16_2 (by decide) (Or.inl (by decide))
              have hlv22_4 : aj_lv lv22 4 = some (.int y4) := fx_e1 elv22 hlv16_4 (by decide) (Or.inl (by decide))
              have hlv22_6 : aj_lv lv22 6 = some (.int w21) := by rw [elv22]; exact ak_set1_eq _ _ _
              show fx_W _ _ _ 57 lv22 [] _ _
              refine fx_i0 aj_d21 rfl (Nat.le_succ _) (fun _ => rfl) hlv22_6 ?_
              refine fx_i0 aj_d21 rfl (Nat.le_succ _) (fun _ => rfl) hlv22_4 ?_
              refine fx_b (tgt := 78) aj_d21 rfl (Nat.le_succ _) rfl (fun q23 => ?_) (fun q23 => ?_)
              · skip
                refine fx_qe (c := (y4).toInt < (w21).toInt) (fx_t_le q23) ?_
                show fx_W _ _ _ 78 lv22 [] _ _
                refine fx_n (pc' := 79) (lv' := lv22) (st' := [.int (Int32.ofInt 0)]) aj_d21 rfl (Nat.le_succ _) (fun _ => rfl) ?_
                refine fx_s0 (j := 3) aj_d21 rfl (Nat.le_succ _) (by decide) (fun _ => rfl) ?_
                obtain ⟨lv24, elv24⟩ : ∃ l, l = aj_set1 lv22 3 (.int (Int32.ofInt 0)) := ⟨_, rfl⟩
                rw [← elv24]
                have hlv24_0 : aj_lv lv24 0 = some (.ref 78) := fx_e1 elv24 hlv22_0 (by decide) (Or.inl (by decide))
                have hlv24_1 : aj_lv lv24 1 = some (.ref 53) := fx_e1 elv24 hlv22_1 (by decide) (Or.inl (by decide))
                have hlv24_2 : aj_lv lv24 2 = some (.int p2) := fx_e1 elv24 hlv22_2 (by decide) (Or.inr rfl)
                have hlv24_6 : aj_lv lv24 6 = some (.int w21) := fx_e1 elv24 hlv22_6 (by decide) (Or.inl (by decide))
                have hlv24_3 : aj_lv lv24 3 = some (.int (Int32.ofInt 0)) := by rw [elv24]; exact ak_set1_eq _ _ _
                show fx_W _ _ _ 80 lv24 [] _ _
                refine fx_i0 aj_d21 rfl (Nat.le_succ _) (fun _ => rfl) hlv24_6 ?_
                refine fx_s0 (j := 4) aj_d21 rfl (Nat.le_succ _) (by decide) (fun _ => rfl) ?_
                obtain ⟨lv25, elv25⟩ : ∃ l, l = aj_set1 lv24 4 (.int w21) := ⟨_, rfl⟩
                rw [← elv25]
                have hlv25_0 : aj_lv lv25 0 = some (.ref 78) := fx_e1 elv25 hlv24_0 (by decide) (Or.inl (by decide))
                have hlv25_1 : aj_lv lv25 1 = some (.ref 53) := fx_e1 elv25 hlv24_1 (by decide) (Or.inl (by decide))
                have hlv25_2 : aj_lv lv25 2 = some (.int p2) := fx_e1 elv25 hlv24_2 (by decide) (Or.inl (by decide))
                have hlv25_3 : aj_lv lv25 3 = some (.int (Int32.ofInt 0)) := fx_e1 elv25 hlv24_3 (by decide) (Or.inr rfl)
                have hlv25_4 : aj_lv lv25 4 = some (.int w21) := by rw [elv25]; exact ak_set1_eq _ _ _
                show fx_W _ _ _ 84 lv25 [] _ _
                refine fx_n (pc' := 10) (lv' := lv25) (st' := []) aj_d21 rfl (Nat.le_succ _) (fun _ => rfl) ?_
                exact (ih) lv25 ((Int32.ofInt 0)) (w21) X20  hlv25_0 hlv25_1 hlv25_2 hlv25_3 hlv25_4
              · skip
                refine fx_qi (c := (y4).toInt < (w21).toInt) (fx_f_le q23) ?_
                show fx_W _ _ _ 64 lv22 [] _ _
                refine fx_i2 aj_d21 rfl (Nat.le_succ _) (fun _ => rfl) hlv22_0 ?_
                refine fx_gI aj_d21 rfl (Nat.le_succ _) rfl rfl (Or.inl rfl) ?_
                refine fx_n (pc' := 71) (lv' := lv22) (st' := [.int ((Int16.ofInt 1000).toInt32), .int (X20.1 78 3)]) aj_d21 rfl (Nat.le_succ _) (fun _ => rfl) ?_
                refine fx_b (tgt := 78) aj_d21 rfl (Nat.le_succ _) rfl (fun q26 => ?_) (fun q26 => ?_)
                · skip
                  refine fx_qi (c := 1000 < ((X20.1 78 3)).toInt) (fx_t_gt q26) ?_
                  show fx_W _ _ _ 78 lv22 [] _ _
                  refine fx_n (pc' := 79) (lv' := lv22) (st' := [.int (Int32.ofInt 0)]) aj_d21 rfl (Nat.le_succ _) (fun _ => rfl) ?_
                  refine fx_s0 (j := 3) aj_d21 rfl (Nat.le_succ _) (by decide) (fun _ => rfl) ?_
                  obtain ⟨lv27, elv27⟩ : ∃ l, l = aj_set1 lv22 3 (.int (Int32.ofInt 0)) := ⟨_, rfl⟩
                  rw [← elv27]
                  have hlv27_0 : aj_lv lv27 0 = some (.ref 78) := fx_e1 elv27 hlv22_0 (by decide) (Or.inl (by decide))
                  have hlv27_1 : aj_lv lv27 1 = some (.ref 53) := fx_e1 elv27 hlv22_1 (by decide) (Or.inl (by decide))
                  have hlv27_2 : aj_lv lv27 2 = some (.int p2) := fx_e1 elv27 hlv22_2 (by decide) (Or.inr rfl)
                  have hlv27_6 : aj_lv lv27 6 = some (.int w21) := fx_e1 elv27 hlv22_6 (by decide) (Or.inl (by decide))
                  have hlv27_3 : aj_lv lv27 3 = some (.int (Int32.ofInt 0)) := by rw [elv27]; exact ak_set1_eq _ _ _
                  show fx_W _ _ _ 80 lv27 [] _ _
                  refine fx_i0 aj_d21 rfl (Nat.le_succ _) (fun _ => rfl) hlv27_6 ?_
                  refine fx_s0 (j := 4) aj_d21 rfl (Nat.le_succ _) (by decide) (fun _ => rfl) ?_
                  obtain ⟨lv28, elv28⟩ : ∃ l, l = aj_set1 lv27 4 (.int w21) := ⟨_, rfl⟩
                  rw [← elv28]
                  have hlv28_0 : aj_lv lv28 0 = some (.ref 78) := fx_e1 elv28 hlv27_0 (by decide) (Or.inl (by decide))
                  have hlv28_1 : aj_lv lv28 1 = some (.ref 53) := fx_e1 elv28 hlv27_1 (by decide) (Or.inl (by decide))
                  have hlv28_2 : aj_lv lv28 2 = some (.int p2) := fx_e1 elv28 hlv27_2 (by decide) (Or.inl (by decide))
                  have hlv28_3 : aj_lv lv28 3 = some (.int (Int32.ofInt 0)) := fx_e1 elv28 hlv27_3 (by decide) (Or.inr rfl)
                  have hlv28_4 : aj_lv lv28 4 = some (.int w21) := by rw [elv28]; exact ak_set1_eq _ _ _
                  show fx_W _ _ _ 84 lv28 [] _ _
                  refine fx_n (pc' := 10) (lv' := lv28) (st' := []) aj_d21 rfl (Nat.le_succ _) (fun _ => rfl) ?_
                  exact (ih) lv28 ((Int32.ofInt 0)) (w21) X20  hlv28_0 hlv28_1 hlv28_2 hlv28_3 hlv28_4
                · skip
                  refine fx_qe (c := 1000 < ((X20.1 78 3)).toInt) (fx_f_gt q26) ?_
                  show fx_W _ _ _ 74 lv22 [] _ _
                  refine fx_n (pc' := 75) (lv' := lv22) (st' := [.int (Int32.ofInt 1)]) aj_d21 rfl (Nat.le_succ _) (fun _ => rfl) ?_
                  refine fx_n (pc' := 79) (lv' := lv22) (st' := [.int (Int32.ofInt 1)]) aj_d21 rfl (Nat.le_succ _) (fun _ => rfl) ?_
                  refine fx_s0 (j := 3) aj_d21 rfl (Nat.le_succ _) (by decide) (fun _ => rfl) ?_
                  obtain ⟨lv29, elv29⟩ : ∃ l, l = aj_set1 lv22 3 (.int (Int32.ofInt 1)) := ⟨_, rfl⟩
                  rw [← elv29]
                  have hlv29_0 : aj_lv lv29 0 = some (.ref 78) := fx_e1 elv29 hlv22_0 (by decide) (Or.inl (by decide))
                  have hlv29_1 : aj_lv lv29 1 = some (.ref 53) := fx_e1 elv29 hlv22_1 (by decide) (Or.inl (by decide))
                  have hlv29_2 : aj_lv lv29 2 = some (.int p2) := fx_e1 elv29 hlv22_2 (by decide) (Or.inr rfl)
                  have hlv29_6 : aj_lv lv29 6 = some (.int w21) := fx_e1 elv29 hlv22_6 (by decide) (Or.inl (by decide))
                  have hlv29_3 : aj_lv lv29 3 = some (.int (Int32.ofInt 1)) := by rw [elv29]; exact ak_set1_eq _ _ _
                  show fx_W _ _ _ 80 lv29 [] _ _
                  refine fx_i0 aj_d21 rfl (Nat.le_succ _) (fun _ => rfl) hlv29_6 ?_
                  refine fx_s0 (j := 4) aj_d21 rfl (Nat.le_succ _) (by decide) (fun _ => rfl) ?_
                  obtain ⟨lv30, elv30⟩ : ∃ l, l = aj_set1 lv29 4 (.int w21) := ⟨_, rfl⟩
                  rw [← elv30]
                  have hlv30_0 : aj_lv lv30 0 = some (.ref 78) := fx_e1 elv30 hlv29_0 (by decide) (Or.inl (by decide))
                  have hlv30_1 : aj_lv lv30 1 = some (.ref 53) := fx_e1 elv30 hlv29_1 (by decide) (Or.inl (by decide))
                  have hlv30_2 : aj_lv lv30 2 = some (.int p2) := fx_e1 elv30 hlv29_2 (by decide) (Or.inl (by decide))
                  have hlv30_3 : aj_lv lv30 3 = some (.int (Int32.ofInt 1)) := fx_e1 elv30 hlv29_3 (by decide) (Or.inr rfl)
                  have hlv30_4 : aj_lv lv30 4 = some (.int w21) := by rw [elv30]; exact ak_set1_eq _ _ _
                  show fx_W _ _ _ 84 lv30 [] _ _
                  refine fx_n (pc' := 10) (lv' := lv30) (st' := []) aj_d21 rfl (Nat.le_succ _) (fun _ => rfl) ?_
                  exact (ih) lv30 ((Int32.ofInt 1)) (w21) X20  hlv30_0 hlv30_1 hlv30_2 hlv30_3 hlv30_4
            · skip
              refine fx_qe (c := (w18).toInt = 0) (fx_f_eq q19) ?_
              show fx_W _ _ _ 41 lv16 [] _ _
              refine fx_incq aj_d21 rfl (Nat.le_succ _) hlv16_4 (by decide) (fun x31 ex31 => ?_)
              obtain ⟨lv32, elv32⟩ : ∃ l, l = aj_set1 lv16 4 (.int x31) := ⟨_, rfl⟩
              rw [← elv32]
              have hlv32_0 : aj_lv lv32 0 = some (.ref 78) := fx_e1 elv32 hlv16_0 (by decide) (Or.inl (by decide))
              have hlv32_1 : aj_lv lv32 1 = some (.ref 53) := fx_e1 elv32 hlv16_1 (by decide) (Or.inl (by decide))
              have hlv32_2 : aj_lv lv32 2 = some (.int p2) := fx_e1 elv32 hlv16_2 (by decide) (Or.inl (by decide))
              have hlv32_3 : aj_lv lv32 3 = some (.int y3) := fx_e1 elv32 hlv16_3 (by decide) (Or.inr rfl)
              have hlv32_4 : aj_lv lv32 4 = some (.int x31) := by rw [elv32]; exact ak_set1_eq _ _ _
              show fx_W _ _ _ 44 lv32 [] _ _
              refine fx_n (pc' := 84) (lv' := lv32) (st' := []) aj_d21 rfl (Nat.le_succ _) (fun _ => rfl) ?_
              refine fx_n (pc' := 10) (lv' := lv32) (st' := []) aj_d21 rfl (Nat.le_succ _) (fun _ => rfl) ?_
              exact (ih) lv32 (y3) (x31) X17  hlv32_0 hlv32_1 hlv32_2 hlv32_3 hlv32_4
theorem gx_21_ok {tb : aj_T} (p2 : Int32) {X : fx_X} : fx_K tb 21 [.ref 78, .ref 53, .int p2] X (fx_Q fx_qN (fun v X' => gx_21 p2 X v X')) := by
  refine fx_m aj_m21_at rfl (fun N => ?_)
  refine fx_mono (Q := fx_Q fx_qN (fun v X' => ∃ n : Nat, gxE_21 p2 (gxF_21 p2 n) X v X')) (fun r X' h => h) ?_
  unfold gxE_21
  show fx_W _ _ _ 0 [(0, .ref 78), (1, .ref 53), (2, .int p2)] [] _ _
  obtain ⟨lv1, elv1⟩ : ∃ l : aj_V, l = [(0, .ref 78), (1, .ref 53), (2, .int p2)] := ⟨_, rfl⟩
  rw [← elv1]
  have hlv1_0 : aj_lv lv1 0 = some (.ref 78) := by rw [elv1]; rfl
  have hlv1_1 : aj_lv lv1 1 = some (.ref 53) := by rw [elv1]; rfl
  have hlv1_2 : aj_lv lv1 2 = some (.int p2) := by rw [elv1]; rfl
  refine fx_i2 aj_d21 rfl (Nat.le_succ _) (fun _ => rfl) hlv1_0 ?_
  refine fx_n (pc' := 2) (lv' := lv1) (st' := [.int (Int32.ofInt 0), .ref 78]) aj_d21 rfl (Nat.le_succ _) (fun _ => rfl) ?_
  refine fx_pI aj_d21 rfl (Nat.le_succ _) rfl rfl (Or.inl rfl) fx_no_8_3 (by decide) ?_
  refine fx_qX (fun X2 eX2 => ?_)
  show fx_W _ _ _ 5 lv1 [] _ _
  refine fx_n (pc' := 6) (lv' := lv1) (st' := [.int (Int32.ofInt 1)]) aj_d21 rfl (Nat.le_succ _) (fun _ => rfl) ?_
  refine fx_s0 (j := 3) aj_d21 rfl (Nat.le_succ _) (by decide) (fun _ => rfl) ?_
  obtain ⟨lv3, elv3⟩ : ∃ l, l = aj_set1 lv1 3 (.int (Int32.ofInt 1)) := ⟨_, rfl⟩
  rw [← elv3]
  have hlv3_0 : aj_lv lv3 0 = some (.ref 78) := fx_e1 elv3 hlv1_0 (by decide) (Or.inl (by decide))
  have hlv3_1 : aj_lv lv3 1 = some (.ref 53) := fx_e1 elv3 hlv1_1 (by decide) (Or.inl (by decide))
  have hlv3_2 : aj_lv lv3 2 = some (.int p2) := fx_e1 elv3 hlv1_2 (by decide) (Or.inr rfl)
  have hlv3_3 : aj_lv lv3 3 = some (.int (Int32.ofInt 1)) := by rw [elv3]; exact ak_set1_eq _ _ _
  show fx_W _ _ _ 7 lv3 [] _ _
  refine fx_n (pc' := 8) (lv' := lv3) (st' := [.int (Int32.ofInt 0)]) aj_d21 rfl (Nat.le_succ _) (fun _ => rfl) ?_
  refine fx_s0 (j := 4) aj_d21 rfl (Nat.le_succ _) (by decide) (fun _ => rfl) ?_
  obtain ⟨lv4, elv4⟩ : ∃ l, l = aj_set1 lv3 4 (.int (Int32.ofInt 0)) := ⟨_, rfl⟩
  rw [← elv4]
  have hlv4_0 : aj_lv lv4 0 = some (.ref 78) := fx_e1 elv4 hlv3_0 (by decide) (Or.inl (by decide))
  have hlv4_1 : aj_lv lv4 1 = some (.ref 53) := fx_e1 elv4 hlv3_1 (by decide) (Or.inl (by decide))
  have hlv4_2 : aj_lv lv4 2 = some (.int p2) := fx_e1 elv4 hlv3_2 (by decide) (Or.inl (by decide))
  have hlv4_3 : aj_lv lv4 3 = some (.int (Int32.ofInt 1)) := fx_e1 elv4 hlv3_3 (by decide) (Or.inr rfl)
  have hlv4_4 : aj_lv lv4 4 = some (.int (Int32.ofInt 0)) := by rw [elv4]; exact ak_set1_eq _ _ _
  show fx_W _ _ _ 10 lv4 [] _ _
  exact ((gxL_21 p2 N)) lv4 ((Int32.ofInt 1)) ((Int32.ofInt 0)) X2  hlv4_0 hlv4_1 hlv4_2 hlv4_3 hlv4_4
def gx_31 (X : fx_X) (v : Unit) (X' : fx_X) : Prop :=
  ∃ X2 : fx_X, X2 = (fx_wI X 82 4 (Int32.ofInt 0)) ∧ ∃ X3 : fx_X, X3 = (fx_wI X2 82 5 (Int32.ofInt 0)) ∧ ∃ X4 : fx_X, X4 = (fx_wI X3 82 6 (Int32.ofInt 0)) ∧ X' = X4
theorem gx_31_ok {tb : aj_T} {X : fx_X} : fx_K tb 31 [.ref 82] X (fx_Q fx_qN (fun v X' => gx_31 X v X')) := by
  refine fx_m aj_m31_at rfl (fun N => ?_)
  refine fx_mono (Q := fx_Q fx_qN (fun v X' => ∃ n : Nat, gx_31 X v X')) (fun r X' ⟨v, e, _, z⟩ => ⟨v, e, z⟩) ?_
  unfold gx_31
  show fx_W _ _ _ 0 [(0, .ref 82)] [] _ _
  obtain ⟨lv1, elv1⟩ : ∃ l : aj_V, l = [(0, .ref 82)] := ⟨_, rfl⟩
  rw [← elv1]
  have hlv1_0 : aj_lv lv1 0 = some (.ref 82) := by rw [elv1]; rfl
  refine fx_i2 aj_d31 rfl (Nat.le_succ _) (fun _ => rfl) hlv1_0 ?_
  refine fx_n (pc' := 2) (lv' := lv1) (st' := [.int (Int32.ofInt 0), .ref 82]) aj_d31 rfl (Nat.le_succ _) (fun _ => rfl) ?_
  refine fx_pI aj_d31 rfl (Nat.le_succ _) rfl rfl (Or.inl rfl) fx_no_4_4 (by decide) ?_
  refine fx_qX (fun X2 eX2 => ?_)
  show fx_W _ _ _ 5 lv1 [] _ _
  refine fx_i2 aj_d31 rfl (Nat.le_succ _) (fun _ => rfl) hlv1_0 ?_
  refine fx_n (pc' := 7) (lv' := lv1) (st' := [.int (Int32.ofInt 0), .ref 82]) aj_d31 rfl (Nat.le_succ _) (fun _ => rfl) ?_
  refine fx_pI aj_d31 rfl (Nat.le_succ _) rfl rfl (Or.inl rfl) fx_no_4_5 (by decide) ?_
  refine fx_qX (fun X3 eX3 => ?_)
  show fx_W _ _ _ 10 lv1 [] _ _
  refine fx_i2 aj_d31 rfl (Nat.le_succ _) (fun _ => rfl) hlv1_0 ?_
  refine fx_n (pc' := 12) (lv' := lv1) (st' := [.int (Int32.ofInt 0), .ref 82]) aj_d31 rfl (Nat.le_succ _) (fun _ => rfl) ?_
  refine fx_pI aj_d31 rfl (Nat.le_succ _) rfl rfl (Or.inl rfl) fx_no_4_6 (by decide) ?_
  refine fx_qX (fun X4 eX4 => ?_)
  show fx_W _ _ _ 15 lv1 [] _ _
  exact fx_rn aj_d31 rfl ⟨(), rfl, 0, rfl⟩
def gx_33 (p1 : Int32) (X : fx_X) (v : Unit) (X' : fx_X) : Prop :=
  (if ((X.1 87 5)).toInt < 0 then (X' = X) else ((if ((X.1 87 5)).toInt < 512 then ((0 ≤ ((X.1 87 5)).toInt ∧ ((X.1 87 5)).toInt < ((512 : Nat) : Int)) ∧ ∃ X7 : fx_X, X7 = (fx_wI X 88 ((X.1 87 5)).toInt.toNat (((X.1 87 6) <<< (((Int8.ofInt 8).toInt32) &&& 31)) ||| p1)) ∧ ∃ X8 : fx_X, X8 = (fx_wI X7 87 5 ((X7.1 87 5) + (Int32.ofInt 1))) ∧ X' = X8) else (X' = X))))
theorem gx_33_ok {tb : aj_T} (p1 : Int32) {X : fx_X} : fx_K tb 33 [.ref 87, .int p1] X (fx_Q fx_qN (fun v X' => gx_33 p1 X v X')) := by
  refine fx_m aj_m33_at rfl (fun N => ?_)
  refine fx_mono (Q := fx_Q fx_qN (fun v X' => ∃ n : Nat, gx_33 p1 X v X')) (fun r X' ⟨v, e, _, z⟩ => ⟨v, e, z⟩) ?_
  unfold gx_33
  show fx_W _ _ _ 0 [(0, .ref 87), (1, .int p1)] [] _ _
  obtain ⟨lv1, elv1⟩ : ∃ l : aj_V, l = [(0, .ref 87), (1, .int p1)] := ⟨_, rfl⟩
  rw [← elv1]
  have hlv1_0 : aj_lv lv1 0 = some (.ref 87) := by rw [elv1]; rfl
  have hlv1_1 : aj_lv lv1 1 = some (.int p1) := by rw [elv1]; rfl
  refine fx_i2 aj_d33 rfl (Nat.le_succ _) (fun _ => rfl) hlv1_0 ?_
  refine fx_gI aj_d33 rfl (Nat.le_succ _) rfl rfl (Or.inl rfl) ?_
  refine fx_b0 (tgt := 47) aj_d33 rfl (Nat.le_succ _) rfl (fun q2 => ?_) (fun q2 => ?_)
  · skip
    refine fx_qi (c := ((X.1 87 5)).toInt < 0) (fx_t_lt q2) ?_
    show fx_W _ _ _ 47 lv1 [] _ _
    exact fx_rn aj_d33 rfl ⟨(), rfl, 0, rfl⟩
  · skip
    refine fx_qe (c := ((X.1 87 5)).toInt < 0) (fx_f_lt q2) ?_
    show fx_W _ _ _ 7 lv1 [] _ _
    refine fx_i2 aj_d33 rfl (Nat.le_succ _) (fun _ => rfl) hlv1_0 ?_
    refine fx_gI aj_d33 rfl (Nat.le_succ _) rfl rfl (Or.inl rfl) ?_
    refine fx_i2 aj_d33 rfl (Nat.le_succ _) (fun _ => rfl) hlv1_0 ?_
    refine fx_gF aj_d33 rfl (Nat.le_succ _) rfl rfl fx_in_3_2 (t := 88) rfl (fun hA3 => ?_)
    refine fx_al aj_d33 rfl (Nat.le_succ _) ?_
    rw [(hA3 : X.2.2.2.1 88 = (0, 512))]
    show fx_W _ _ _ 16 lv1 [.int (Int32.ofNat 512), .int (X.1 87 5)] _ _
    refine fx_b (tgt := 47) aj_d33 rfl (Nat.le_succ _) rfl (fun q4 => ?_) (fun q4 => ?_)
    · skip
      refine fx_qe (c := ((X.1 87 5)).toInt < 512) (fx_t_ge q4) ?_
      show fx_W _ _ _ 47 lv1 [] _ _
      exact fx_rn aj_d33 rfl ⟨(), rfl, 0, rfl⟩
    · skip
      refine fx_qi (c := ((X.1 87 5)).toInt < 512) (fx_f_ge q4) ?_
      show fx_W _ _ _ 19 lv1 [] _ _
      refine fx_i2 aj_d33 rfl (Nat.le_succ _) (fun _ => rfl) hlv1_0 ?_
      refine fx_gF aj_d33 rfl (Nat.le_succ _) rfl rfl fx_in_3_2 (t := 88) rfl (fun hA5 => ?_)
      refine fx_i2 aj_d33 rfl (Nat.le_succ _) (fun _ => rfl) hlv1_0 ?_
      refine fx_gI aj_d33 rfl (Nat.le_succ _) rfl rfl (Or.inl rfl) ?_
      refine fx_i2 aj_d33 rfl (Nat.le_succ _) (fun _ => rfl) hlv1_0 ?_
      refine fx_gI aj_d33 rfl (Nat.le_succ _) rfl rfl (Or.inl rfl) ?_
      refine fx_n (pc' := 33) (lv' := lv1) (st' := [.int ((Int8.ofInt 8).toInt32), .int (X.1 87 6), .int (X.1 87 5), .ref 88]) aj_d33 rfl (Nat.le_succ _) (fun _ => rfl) ?_
      refine fx_n (pc' := 34) (lv' := lv1) (st' := [.int ((X.1 87 6) <<< (((Int8.ofInt 8).toInt32) &&& 31)), .int (X.1 87 5), .ref 88]) aj_d33 rfl (Nat.le_succ _) (fun _ => rfl) ?_
      refine fx_i0 aj_d33 rfl (Nat.le_succ _) (fun _ => rfl) hlv1_1 ?_
      refine fx_n (pc' := 36) (lv' := lv1) (st' := [.int (((X.1 87 6) <<< (((Int8.ofInt 8).toInt32) &&& 31)) ||| p1), .int (X.1 87 5), .ref 88]) aj_d33 rfl (Nat.le_succ _) (fun _ => rfl) ?_
      refine fx_st aj_d33 (Or.inl ⟨rfl, rfl⟩) rfl (Nat.le_succ _) (fun g60 g61 => ?_)
      show fx_W _ _ _ _ _ _ (fx_wI X 88 ((X.1 87 5)).toInt.toNat (((X.1 87 6) <<< (((Int8.ofInt 8).toInt32) &&& 31)) ||| p1)) _
      refine fx_qa (c := 0 ≤ ((X.1 87 5)).toInt ∧ ((X.1 87 5)).toInt < ((512 : Nat) : Int)) ⟨g60, fx_lnk g61 hA5⟩ ?_
      refine fx_qX (fun X7 eX7 => ?_)
      show fx_W _ _ _ 37 lv1 [] _ _
      refine fx_i2 aj_d33 rfl (Nat.le_succ _) (fun _ => rfl) hlv1_0 ?_
      refine fx_n (pc' := 39) (lv' := lv1) (st' := [.ref 87, .ref 87]) aj_d33 rfl (Nat.le_succ _) (fun _ => rfl) ?_
      refine fx_gI aj_d33 rfl (Nat.le_succ _) rfl rfl (Or.inl rfl) ?_
      refine fx_n (pc' := 43) (lv' := lv1) (st' := [.int (Int32.ofInt 1), .int (X7.1 87 5), .ref 87]) aj_d33 rfl (Nat.le_succ _) (fun _ => rfl) ?_
      refine fx_n (pc' := 44) (lv' := lv1) (st' := [.int ((X7.1 87 5) + (Int32.ofInt 1)), .ref 87]) aj_d33 rfl (Nat.le_succ _) (fun _ => rfl) ?_
      refine fx_pI aj_d33 rfl (Nat.le_succ _) rfl rfl (Or.inl rfl) fx_no_3_5 (by decide) ?_
      refine fx_qX (fun X8 eX8 => ?_)
      show fx_W _ _ _ 47 lv1 [] _ _
      exact fx_rn aj_d33 rfl ⟨(), rfl, 0, rfl⟩
def gx_46 (p1 : Int32) (X : fx_X) (v : Int32) (X' : fx_X) : Prop :=
  (if (p1).toInt < 0 then (v = (Int32.ofInt 2) ∧ X' = X) else ((if (p1).toInt < 1002 then ((0 ≤ (p1).toInt ∧ (p1).toInt < ((1002 : Nat) : Int)) ∧ v = (X.1 79 (p1).toInt.toNat) ∧ X' = X) else (v = (Int32.ofInt 2) ∧ X' = X))))
theorem gx_46_ok {tb : aj_T} (p1 : Int32) {X : fx_X} : fx_K tb 46 [.ref 78, .int p1] X (fx_Q fx_qI (fun v X' => gx_46 p1 X v X')) := by
  refine fx_m aj_m46_at rfl (fun N => ?_)
  refine fx_mono (Q := fx_Q fx_qI (fun v X' => ∃ n : Nat, gx_46 p1 X v X')) (fun r X' ⟨v, e, _, z⟩ => ⟨v, e, z⟩) ?_
  unfold gx_46
  show fx_W _ _ _ 0 [(0, .ref 78), (1, .int p1)] [] _ _
  obtain ⟨lv1, elv1⟩ : ∃ l : aj_V, l = [(0, .ref 78), (1, .int p1)] := ⟨_, rfl⟩
  rw [← elv1]
  have hlv1_0 : aj_lv lv1 0 = some (.ref 78) := by rw [elv1]; rfl
  have hlv1_1 : aj_lv lv1 1 = some (.int p1) := by rw [elv1]; rfl
  refine fx_i0 aj_d46 rfl (Nat.le_succ _) (fun _ => rfl) hlv1_1 ?_
  refine fx_b0 (tgt := 22) aj_d46 rfl (Nat.le_succ _) rfl (fun q2 => ?_) (fun q2 => ?_)
  · skip
    refine fx_qi (c := (p1).toInt < 0) (fx_t_lt q2) ?_
    show fx_W _ _ _ 22 lv1 [] _ _
    refine fx_n (pc' := 23) (lv' := lv1) (st' := [.int (Int32.ofInt 2)]) aj_d46 rfl (Nat.le_succ _) (fun _ => rfl) ?_
    exact fx_ri aj_d46 rfl ⟨_, rfl, 0, rfl, rfl⟩
  · skip
    refine fx_qe (c := (p1).toInt < 0) (fx_f_lt q2) ?_
    show fx_W _ _ _ 4 lv1 [] _ _
    refine fx_i0 aj_d46 rfl (Nat.le_succ _) (fun _ => rfl) hlv1_1 ?_
    refine fx_i2 aj_d46 rfl (Nat.le_succ _) (fun _ => rfl) hlv1_0 ?_
    refine fx_gF aj_d46 rfl (Nat.le_succ _) rfl rfl fx_in_8_0 (t := 79) rfl (fun hA3 => ?_)
    refine fx_al aj_d46 rfl (Nat.le_succ _) ?_
    rw [(hA3 : X.2.2.2.1 79 = (0, 1002))]
    show fx_W _ _ _ 10 lv1 [.int (Int32.ofNat 1002), .int p1] _ _
    refine fx_b (tgt := 22) aj_d46 rfl (Nat.le_succ _) rfl (fun q4 => ?_) (fun q4 => ?_)
    · skip
      refine fx_qe (c := (p1).toInt < 1002) (fx_t_ge q4) ?_
      show fx_W _ _ _ 22 lv1 [] _ _
      refine fx_n (pc' := 23) (lv' := lv1) (st' := [.int (Int32.ofInt 2)]) aj_d46 rfl (Nat.le_succ _) (fun _ => rfl) ?_
      exact fx_ri aj_d46 rfl ⟨_, rfl, 0, rfl, rfl⟩
    · skip
      refine fx_qi (c := (p1).toInt < 1002) (fx_f_ge q4) ?_
      show fx_W _ _ _ 13 lv1 [] _ _
      refine fx_i2 aj_d46 rfl (Nat.le_succ _) (fun _ => rfl) hlv1_0 ?_
      refine fx_gF aj_d46 rfl (Nat.le_succ _) rfl rfl fx_in_8_0 (t := 79) rfl (fun hA5 => ?_)
      refine fx_i0 aj_d46 rfl (Nat.le_succ _) (fun _ => rfl) hlv1_1 ?_
      refine fx_ld aj_d46 (Or.inl rfl) rfl (Nat.le_succ _) (fun g60 g61 => ?_)
      show fx_W _ _ _ 19 lv1 [.int (X.1 79 (p1).toInt.toNat)] _ _
      refine fx_qa (c := 0 ≤ (p1).toInt ∧ (p1).toInt < ((1002 : Nat) : Int)) ⟨g60, fx_lnk g61 hA5⟩ ?_
      refine fx_n (pc' := 23) (lv' := lv1) (st' := [.int (X.1 79 (p1).toInt.toNat)]) aj_d46 rfl (Nat.le_succ _) (fun _ => rfl) ?_
      exact fx_ri aj_d46 rfl ⟨_, rfl, 0, rfl, rfl⟩
def gx_43 (p1 : Int32) (X : fx_X) (v : Int32) (X' : fx_X) : Prop :=
  (if (p1).toInt < 0 then (v = (Int32.ofInt 0) ∧ X' = X) else ((if (p1).toInt < 1002 then ((0 ≤ (p1).toInt ∧ (p1).toInt < ((1002 : Nat) : Int)) ∧ v = (X.1 80 (p1).toInt.toNat) ∧ X' = X) else (v = (Int32.ofInt 0) ∧ X' = X))))
theorem gx_43_ok {tb : aj_T} (p1 : Int32) {X : fx_X} : fx_K tb 43 [.ref 78, .int p1] X (fx_Q fx_qI (fun v X' => gx_43 p1 X v X')) := by
  refine fx_m aj_m43_at rfl (fun N => ?_)
  refine fx_mono (Q := fx_Q fx_qI (fun v X' => ∃ n : Nat, gx_43 p1 X v X')) (fun r X' ⟨v, e, _, z⟩ => ⟨v, e, z⟩) ?_
  unfold gx_43
  show fx_W _ _ _ 0 [(0, .ref 78), (1, .int p1)] [] _ _
  obtain ⟨lv1, elv1⟩ : ∃ l : aj_V, l = [(0, .ref 78), (1, .int p1)] := ⟨_, rfl⟩
  rw [← elv1]
  have hlv1_0 : aj_lv lv1 0 = some (.ref 78) := by rw [elv1]; rfl
  have hlv1_1 : aj_lv lv1 1 = some (.int p1) := by rw [elv1]; rfl
  refine fx_i0 aj_d43 rfl (Nat.le_succ _) (fun _ => rfl) hlv1_1 ?_
  refine fx_b0 (tgt := 22) aj_d43 rfl (Nat.le_succ _) rfl (fun q2 => ?_) (fun q2 => ?_)
  · skip
    refine fx_qi (c := (p1).toInt < 0) (fx_t_lt q2) ?_
    show fx_W _ _ _ 22 lv1 [] _ _
    refine fx_n (pc' := 23) (lv' := lv1) (st' := [.int (Int32.ofInt 0)]) aj_d43 rfl (Nat.le_succ _) (fun _ => rfl) ?_
    exact fx_ri aj_d43 rfl ⟨_, rfl, 0, rfl, rfl⟩
  · skip
    refine fx_qe (c := (p1).toInt < 0) (fx_f_lt q2) ?_
    show fx_W _ _ _ 4 lv1 [] _ _
    refine fx_i0 aj_d43 rfl (Nat.le_succ _) (fun _ => rfl) hlv1_1 ?_
    refine fx_i2 aj_d43 rfl (Nat.le_succ _) (fun _ => rfl) hlv1_0 ?_
    refine fx_gF aj_d43 rfl (Nat.le_succ _) rfl rfl fx_in_8_1 (t := 80) rfl (fun hA3 => ?_)
    refine fx_al aj_d43 rfl (Nat.le_succ _) ?_
    rw [(hA3 : X.2.2.2.1 80 = (0, 1002))]
    show fx_W _ _ _ 10 lv1 [.int (Int32.ofNat 1002), .int p1] _ _
    refine fx_b (tgt := 22) aj_d43 rfl (Nat.le_succ _) rfl (fun q4 => ?_) (fun q4 => ?_)
    · skip
      refine fx_qe (c := (p1).toInt < 1002) (fx_t_ge q4) ?_
      show fx_W _ _ _ 22 lv1 [] _ _
      refine fx_n (pc' := 23) (lv' := lv1) (st' := [.int (Int32.ofInt 0)]) aj_d43 rfl (Nat.le_succ _) (fun _ => rfl) ?_
      exact fx_ri aj_d43 rfl ⟨_, rfl, 0, rfl, rfl⟩
    · skip
      refine fx_qi (c := (p1).toInt < 1002) (fx_f_ge q4) ?_
      show fx_W _ _ _ 13 lv1 [] _ _
      refine fx_i2 aj_d43 rfl (Nat.le_succ _) (fun _ => rfl) hlv1_0 ?_
      refine fx_gF aj_d43 rfl (Nat.le_succ _) rfl rfl fx_in_8_1 (t := 80) rfl (fun hA5 => ?_)
      refine fx_i0 aj_d43 rfl (Nat.le_succ _) (fun _ => rfl) hlv1_1 ?_
      refine fx_ld aj_d43 (Or.inl rfl) rfl (Nat.le_succ _) (fun g60 g61 => ?_)
      show fx_W _ _ _ 19 lv1 [.int (X.1 80 (p1).toInt.toNat)] _ _
      refine fx_qa (c := 0 ≤ (p1).toInt ∧ (p1).toInt < ((1002 : Nat) : Int)) ⟨g60, fx_lnk g61 hA5⟩ ?_
      refine fx_n (pc' := 23) (lv' := lv1) (st' := [.int (X.1 80 (p1).toInt.toNat)]) aj_d43 rfl (Nat.le_succ _) (fun _ => rfl) ?_
      exact fx_ri aj_d43 rfl ⟨_, rfl, 0, rfl, rfl⟩
def gx_44 (p1 : Int32) (p2 : Int32) (X : fx_X) (v : Unit) (X' : fx_X) : Prop :=
  (if ((X.1 82 5)).toInt = 0 then (∃ X3 : fx_X, X3 = (fx_wI X 82 5 p1) ∧ ∃ X4 : fx_X, X4 = (fx_wI X3 82 6 p2) ∧ X' = X4) else ((if (p2).toInt < ((X.1 82 6)).toInt then (∃ X6 : fx_X, X6 = (fx_wI X 82 5 p1) ∧ ∃ X7 : fx_X, X7 = (fx_wI X6 82 6 p2) ∧ X' = X7) else ((if (p2).toInt = ((X.1 82 6)).toInt then ((if (p1).toInt < ((X.1 82 5)).toInt then (∃ X10 : fx_X, X10 = (fx_wI X 82 5 p1) ∧ ∃ X11 : fx_X, X11 = (fx_wI X10 82 6 p2) ∧ X' = X11) else (X' = X))) else (X' = X))))))
theorem gx_44_ok {tb : aj_T} (p1 : Int32) (p2 : Int32) {X : fx_X} : fx_K tb 44 [.ref 82, .int p1, .int p2] X (fx_Q fx_qN (fun v X' => gx_44 p1 p2 X v X')) := by
  refine fx_m aj_m44_at rfl (fun N => ?_)
  refine fx_mono (Q := fx_Q fx_qN (fun v X' => ∃ n : Nat, gx_44 p1 p2 X v X')) (fun r X' ⟨v, e, _, z⟩ => ⟨v, e, z⟩) ?_
  unfold gx_44
  show fx_W _ _ _ 0 [(0, .ref 82), (1, .int p1), (2, .int p2)] [] _ _
  obtain ⟨lv1, elv1⟩ : ∃ l : aj_V, l = [(0, .ref 82), (1, .int p1), (2, .int p2)] := ⟨_, rfl⟩
  rw [← elv1]
  have hlv1_0 : aj_lv lv1 0 = some (.ref 82) := by rw [elv1]; rfl
  have hlv1_1 : aj_lv lv1 1 = some (.int p1) := by rw [elv1]; rfl
  have hlv1_2 : aj_lv lv1 2 = some (.int p2) := by rw [elv1]; rfl
  refine fx_i2 aj_d44 rfl (Nat.le_succ _) (fun _ => rfl) hlv1_0 ?_
  refine fx_gI aj_d44 rfl (Nat.le_succ _) rfl rfl (Or.inl rfl) ?_
  refine fx_b0 (tgt := 31) aj_d44 rfl (Nat.le_succ _) rfl (fun q2 => ?_) (fun q2 => ?_)
  · skip
    refine fx_qi (c := ((X.1 82 5)).toInt = 0) (fx_t_eq q2) ?_
    show fx_W _ _ _ 31 lv1 [] _ _
    refine fx_i2 aj_d44 rfl (Nat.le_succ _) (fun _ => rfl) hlv1_0 ?_
    refine fx_i0 aj_d44 rfl (Nat.le_succ _) (fun _ => rfl) hlv1_1 ?_
    refine fx_pI aj_d44 rfl (Nat.le_succ _) rfl rfl (Or.inl rfl) fx_no_4_5 (by decide) ?_
    refine fx_qX (fun X3 eX3 => ?_)
    show fx_W _ _ _ 36 lv1 [] _ _
    refine fx_i2 aj_d44 rfl (Nat.le_succ _) (fun _ => rfl) hlv1_0 ?_
    refine fx_i0 aj_d44 rfl (Nat.le_succ _) (fun _ => rfl) hlv1_2 ?_
    refine fx_pI aj_d44 rfl (Nat.le_succ _) rfl rfl (Or.inl rfl) fx_no_4_6 (by decide) ?_
    refine fx_qX (fun X4 eX4 => ?_)
    show fx_W _ _ _ 41 lv1 [] _ _
    exact fx_rn aj_d44 rfl ⟨(), rfl, 0, rfl⟩
  · skip
    refine fx_qe (c := ((X.1 82 5)).toInt = 0) (fx_f_eq q2) ?_
    show fx_W _ _ _ 7 lv1 [] _ _
    refine fx_i0 aj_d44 rfl (Nat.le_succ _) (fun _ => rfl) hlv1_2 ?_
    refine fx_i2 aj_d44 rfl (Nat.le_succ _) (fun _ => rfl) hlv1_0 ?_
    refine fx_gI aj_d44 rfl (Nat.le_succ _) rfl rfl (Or.inl rfl) ?_
    refine fx_b (tgt := 31) aj_d44 rfl (Nat.le_succ _) rfl (fun q5 => ?_) (fun q5 => ?_)
    · skip
      refine fx_qi (c := (p2).toInt < ((X.1 82 6)).toInt) (fx_t_lt q5) ?_
      show fx_W _ _ _ 31 lv1 [] _ _
      refine fx_i2 aj_d44 rfl (Nat.le_succ _) (fun _ => rfl) hlv1_0 ?_
      refine fx_i0 aj_d44 rfl (Nat.le_succ _) (fun _ => rfl) hlv1_1 ?_
      refine fx_pI aj_d44 rfl (Nat.le_succ _) rfl rfl (Or.inl rfl) fx_no_4_5 (by decide) ?_
      refine fx_qX (fun X6 eX6 => ?_)
      show fx_W _ _ _ 36 lv1 [] _ _
      refine fx_i2 aj_d44 rfl (Nat.le_succ _) (fun _ => rfl) hlv1_0 ?_
      refine fx_i0 aj_d44 rfl (Nat.le_succ _) (fun _ => rfl) hlv1_2 ?_
      refine fx_pI aj_d44 rfl (Nat.le_succ _) rfl rfl (Or.inl rfl) fx_no_4_6 (by decide) ?_
      refine fx_qX (fun X7 eX7 => ?_)
      show fx_W _ _ _ 41 lv1 [] _ _
      exact fx_rn aj_d44 rfl ⟨(), rfl, 0, rfl⟩
    · skip
      refine fx_qe (c := (p2).toInt < ((X.1 82 6)).toInt) (fx_f_lt q5) ?_
      show fx_W _ _ _ 15 lv1 [] _ _
      refine fx_i0 aj_d44 rfl (Nat.le_succ _) (fun _ => rfl) hlv1_2 ?_
      refine fx_i2 aj_d44 rfl (Nat.le_succ _) (fun _ => rfl) hlv1_0 ?_
      refine fx_gI aj_d44 rfl (Nat.le_succ _) rfl rfl (Or.inl rfl) ?_
      refine fx_b (tgt := 41) aj_d44 rfl (Nat.le_succ _) rfl (fun q8 => ?_) (fun q8 => ?_)
      · skip
        refine fx_qe (c := (p2).toInt = ((X.1 82 6)).toInt) (fx_t_ne q8) ?_
        show fx_W _ _ _ 41 lv1 [] _ _
        exact fx_rn aj_d44 rfl ⟨(), rfl, 0, rfl⟩
      · skip
        refine fx_qi (c := (p2).toInt = ((X.1 82 6)).toInt) (fx_f_ne q8) ?_
        show fx_W _ _ _ 23 lv1 [] _ _
        refine fx_i0 aj_d44 rfl (Nat.le_succ _) (fun _ => rfl) hlv1_1 ?_
        refine fx_i2 aj_d44 rfl (Nat.le_succ _) (fun _ => rfl) hlv1_0 ?_
        refine fx_gI aj_d44 rfl (Nat.le_succ _) rfl rfl (Or.inl rfl) ?_
        refine fx_b (tgt := 41) aj_d44 rfl (Nat.le_succ _) rfl (fun q9 => ?_) (fun q9 => ?_)
        · skip
          refine fx_qe (c := (p1).toInt < ((X.1 82 5)).toInt) (fx_t_ge q9) ?_
          show fx_W _ _ _ 41 lv1 [] _ _
          exact fx_rn aj_d44 rfl ⟨(), rfl, 0, rfl⟩
        · skip
          refine fx_qi (c := (p1).toInt < ((X.1 82 5)).toInt) (fx_f_ge q9) ?_
          show fx_W _ _ _ 31 lv1 [] _ _
          refine fx_i2 aj_d44 rfl (Nat.le_succ _) (fun _ => rfl) hlv1_0 ?_
          refine fx_i0 aj_d44 rfl (Nat.le_succ _) (fun _ => rfl) hlv1_1 ?_
          refine fx_pI aj_d44 rfl (Nat.le_succ _) rfl rfl (Or.inl rfl) fx_no_4_5 (by decide) ?_
          refine fx_qX (fun X10 eX10 => ?_)
          show fx_W _ _ _ 36 lv1 [] _ _
          refine fx_i2 aj_d44 rfl (Nat.le_succ _) (fun _ => rfl) hlv1_0 ?_
          refine fx_i0 aj_d44 rfl (Nat.le_succ _) (fun _ => rfl) hlv1_2 ?_
          refine fx_pI aj_d44 rfl (Nat.le_succ _) rfl rfl (Or.inl rfl) fx_no_4_6 (by decide) ?_
          refine fx_qX (fun X11 eX11 => ?_)
          show fx_W _ _ _ 41 lv1 [] _ _
          exact fx_rn aj_d44 rfl ⟨(), rfl, 0, rfl⟩
def gx_55 (p1 : Int32) (X : fx_X) (v : Unit) (X' : fx_X) : Prop :=
  ∃ (w4 : Int32) (X3 : fx_X), gx_46 (X.1 87 6) X w4 X3 ∧ (if (w4).toInt = (p1).toInt then ((if ((X3.1 87 6)).toInt < 1000 then (∃ X7 : fx_X, X7 = (fx_wI X3 87 7 (X3.1 87 6)) ∧ ∃ X8 : fx_X, X8 = (fx_wI X7 87 6 ((X7.1 87 6) + (Int32.ofInt 1))) ∧ X' = X8) else ((if (p1).toInt = 1 then (∃ X10 : fx_X, X10 = (fx_wI X3 87 7 (X3.1 87 6)) ∧ ∃ X11 : fx_X, X11 = (fx_wI X10 87 6 ((X10.1 87 6) + (Int32.ofInt 1))) ∧ X' = X11) else (∃ (w15 : Int32) (X14 : fx_X), gx_43 (X3.1 87 6) X3 w15 X14 ∧ ∃ (w17 : Unit) (X16 : fx_X), gx_44 (Int32.ofInt 2) w15 X14 w17 X16 ∧ ∃ X18 : fx_X, X18 = (fx_wI X16 87 7 (X16.1 87 6)) ∧ ∃ X19 : fx_X, X19 = (fx_wI X18 87 6 ((X18.1 87 6) + (Int32.ofInt 1))) ∧ X' = X19))))) else (∃ (w23 : Int32) (X22 : fx_X), gx_43 (X3.1 87 6) X3 w23 X22 ∧ ∃ (w25 : Unit) (X24 : fx_X), gx_44 (Int32.ofInt 1) w23 X22 w25 X24 ∧ X' = X24))
theorem gx_55_ok {tb : aj_T} (p1 : Int32) {X : fx_X} : fx_K tb 55 [.ref 87, .int p1] X (fx_Q fx_qN (fun v X' => gx_55 p1 X v X')) := by
  refine fx_m aj_m55_at rfl (fun N => ?_)
  refine fx_mono (Q := fx_Q fx_qN (fun v X' => ∃ n : Nat, gx_55 p1 X v X')) (fun r X' ⟨v, e, _, z⟩ => ⟨v, e, z⟩) ?_
  unfold gx_55
  show fx_W _ _ _ 0 [(0, .ref 87), (1, .int p1)] [] _ _
  obtain ⟨lv1, elv1⟩ : ∃ l : aj_V, l = [(0, .ref 87), (1, .int p1)] := ⟨_, rfl⟩
  rw [← elv1]
  have hlv1_0 : aj_lv lv1 0 = some (.ref 87) := by rw [elv1]; rfl
  have hlv1_1 : aj_lv lv1 1 = some (.int p1) := by rw [elv1]; rfl
  refine fx_i2 aj_d55 rfl (Nat.le_succ _) (fun _ => rfl) hlv1_0 ?_
  refine fx_gF aj_d55 rfl (Nat.le_succ _) rfl rfl fx_in_3_0 (t := 78) rfl (fun hA2 => ?_)
  refine fx_i2 aj_d55 rfl (Nat.le_succ _) (fun _ => rfl) hlv1_0 ?_
  refine fx_gI aj_d55 rfl (Nat.le_succ _) rfl rfl (Or.inl rfl) ?_
  refine fx_cv aj_d55 rfl (Nat.le_succ _) rfl [_] rfl rfl (gx_46_ok (X.1 87 6)) ?_
  rintro _ X3 ⟨w4, rfl, hR3⟩ hok3 hle3
  refine fx_qc hR3 ?_
  show fx_W _ _ _ 11 lv1 [.int w4] _ _
  refine fx_i0 aj_d55 rfl (Nat.le_succ _) (fun _ => rfl) hlv1_1 ?_
  refine fx_b (tgt := 35) aj_d55 rfl (Nat.le_succ _) rfl (fun q5 => ?_) (fun q5 => ?_)
  · skip
    refine fx_qi (c := (w4).toInt = (p1).toInt) (fx_t_eq q5) ?_
    show fx_W _ _ _ 35 lv1 [] _ _
    refine fx_i2 aj_d55 rfl (Nat.le_succ _) (fun _ => rfl) hlv1_0 ?_
    refine fx_gI aj_d55 rfl (Nat.le_succ _) rfl rfl (Or.inl rfl) ?_
    refine fx_n (pc' := 42) (lv' := lv1) (st' := [.int ((Int16.ofInt 1000).toInt32), .int (X3.1 87 6)]) aj_d55 rfl (Nat.le_succ _) (fun _ => rfl) ?_
    refine fx_b (tgt := 69) aj_d55 rfl (Nat.le_succ _) rfl (fun q6 => ?_) (fun q6 => ?_)
    · skip
      refine fx_qi (c := ((X3.1 87 6)).toInt < 1000) (fx_t_lt q6) ?_
      show fx_W _ _ _ 69 lv1 [] _ _
      refine fx_i2 aj_d55 rfl (Nat.le_succ _) (fun _ => rfl) hlv1_0 ?_
      refine fx_i2 aj_d55 rfl (Nat.le_succ _) (fun _ => rfl) hlv1_0 ?_
      refine fx_gI aj_d55 rfl (Nat.le_succ _) rfl rfl (Or.inl rfl) ?_
      refine fx_pI aj_d55 rfl (Nat.le_succ _) rfl rfl (Or.inl rfl) fx_no_3_7 (by decide) ?_
      refine fx_qX (fun X7 eX7 => ?_)
      show fx_W _ _ _ 77 lv1 [] _ _
      refine fx_i2 aj_d55 rfl (Nat.le_succ _) (fun _ => rfl) hlv1_0 ?_
      refine fx_n (pc' := 79) (lv' := lv1) (st' := [.ref 87, .ref 87]) aj_d55 rfl (Nat.le_succ _) (fun _ => rfl) ?_
      refine fx_gI aj_d55 rfl (Nat.le_succ _) rfl rfl (Or.inl rfl) ?_
      refine fx_n (pc' := 83) (lv' := lv1) (st' := [.int (Int32.ofInt 1), .int (X7.1 87 6), .ref 87]) aj_d55 rfl (Nat.le_succ _) (fun _ => rfl) ?_
      refine fx_n (pc' := 84) (lv' := lv1) (st' := [.int ((X7.1 87 6) + (Int32.ofInt 1)), .ref 87]) aj_d55 rfl (Nat.le_succ _) (fun _ => rfl) ?_
      refine fx_pI aj_d55 rfl (Nat.le_succ _) rfl rfl (Or.inl rfl) fx_no_3_6 (by decide) ?_
      refine fx_qX (fun X8 eX8 => ?_)
      show fx_W _ _ _ 87 lv1 [] _ _
      exact fx_rn aj_d55 rfl ⟨(), rfl, 0, rfl⟩
    · skip
      refine fx_qe (c := ((X3.1 87 6)).toInt < 1000) (fx_f_lt q6) ?_
      show fx_W _ _ _ 45 lv1 [] _ _
      refine fx_i0 aj_d55 rfl (Nat.le_succ _) (fun _ => rfl) hlv1_1 ?_
      refine fx_n (pc' := 47) (lv' := lv1) (st' := [.int (Int32.ofInt 1), .int p1]) aj_d55 rfl (Nat.le_succ _) (fun _ => rfl) ?_
      refine fx_b (tgt := 69) aj_d55 rfl (Nat.le_succ _) rfl (fun q9 => ?_) (fun q9 => ?_)
      · skip
        refine fx_qi (c := (p1).toInt = 1) (fx_t_eq q9) ?_
        show fx_W _ _ _ 69 lv1 [] _ _
        refine fx_i2 aj_d55 rfl (Nat.le_succ _) (fun _ => rfl) hlv1_0 ?_
        refine fx_i2 aj_d55 rfl (Nat.le_succ _) (fun _ => rfl) hlv1_0 ?_
        refine fx_gI aj_d55 rfl (Nat.le_succ _) rfl rfl (Or.inl rfl) ?_
        refine fx_pI aj_d55 rfl (Nat.le_succ _) rfl rfl (Or.inl rfl) fx_no_3_7 (by decide) ?_
        refine fx_qX (fun X10 eX10 => ?_)
        show fx_W _ _ _ 77 lv1 [] _ _
        refine fx_i2 aj_d55 rfl (Nat.le_succ _) (fun _ => rfl) hlv1_0 ?_
        refine fx_n (pc' := 79) (lv' := lv1) (st' := [.ref 87, .ref 87]) aj_d55 rfl (Nat.le_succ _) (fun _ => rfl) ?_
        refine fx_gI aj_d55 rfl (Nat.le_succ _) rfl rfl (Or.inl rfl) ?_
        refine fx_n (pc' := 83) (lv' := lv1) (st' := [.int (Int32.ofInt 1), .int (X10.1 87 6), .ref 87]) aj_d55 rfl (Nat.le_succ _) (fun _ => rfl) ?_
        refine fx_n (pc' := 84) (lv' := lv1) (st' := [.int ((X10.1 87 6) + (Int32.ofInt 1)), .ref 87]) aj_d55 rfl (Nat.le_succ _) (fun _ => rfl) ?_
        refine fx_pI aj_d55 rfl (Nat.le_succ _) rfl rfl (Or.inl rfl) fx_no_3_6 (by decide) ?_
        refine fx_qX (fun X11 eX11 => ?_)
        show fx_W _ _ _ 87 lv1 [] _ _
        exact fx_rn aj_d55 rfl ⟨(), rfl, 0, rfl⟩
      · skip
        refine fx_qe (c := (p1).toInt = 1) (fx_f_eq q9) ?_
        show fx_W _ _ _ 50 lv1 [] _ _
        refine fx_i2 aj_d55 rfl (Nat.le_succ _) (fun _ => rfl) hlv1_0 ?_
        refine fx_gF aj_d55 rfl (Nat.le_succ _) rfl rfl fx_in_3_1 (t := 82) rfl (fun hA12 => ?_)
        refine fx_n (pc' := 55) (lv' := lv1) (st' := [.int (Int32.ofInt 2), .ref 82]) aj_d55 rfl (Nat.le_succ _) (fun _ => rfl) ?_
        refine fx_i2 aj_d55 rfl (Nat.le_succ _) (fun _ => rfl) hlv1_0 ?_
        refine fx_gF aj_d55 rfl (Nat.le_succ _) rfl rfl fx_in_3_0 (t := 78) rfl (fun hA13 => ?_)
        refine fx_i2 aj_d55 rfl (Nat.le_succ _) (fun _ => rfl) hlv1_0 ?_
        refine fx_gI aj_d55 rfl (Nat.le_succ _) rfl rfl (Or.inl rfl) ?_
        refine fx_cv aj_d55 rfl (Nat.le_succ _) rfl [_] rfl rfl (gx_43_ok (X3.1 87 6)) ?_
        rintro _ X14 ⟨w15, rfl, hR14⟩ hok14 hle14
        refine fx_qc hR14 ?_
        show fx_W _ _ _ 66 lv1 [.int w15, .int (Int32.ofInt 2), .ref 82] _ _
        refine fx_cv aj_d55 rfl (Nat.le_succ _) rfl [_, _] rfl rfl (gx_44_ok (Int32.ofInt 2) w15) ?_
        rintro _ X16 ⟨w17, rfl, hR16⟩ hok16 hle16
        refine fx_qc hR16 ?_
        show fx_W _ _ _ 69 lv1 [] _ _
        refine fx_i2 aj_d55 rfl (Nat.le_succ _) (fun _ => rfl) hlv1_0 ?_
        refine fx_i2 aj_d55 rfl (Nat.le_succ _) (fun _ => rfl) hlv1_0 ?_
        refine fx_gI aj_d55 rfl (Nat.le_succ _) rfl rfl (Or.inl rfl) ?_
        refine fx_pI aj_d55 rfl (Nat.le_succ _) rfl rfl (Or.inl rfl) fx_no_3_7 (by decide) ?_
        refine fx_qX (fun X18 eX18 => ?_)
        show fx_W _ _ _ 77 lv1 [] _ _
        refine fx_i2 aj_d55 rfl (Nat.le_succ _) (fun _ => rfl) hlv1_0 ?_
        refine fx_n (pc' := 79) (lv' := lv1) (st' := [.ref 87, .ref 87]) aj_d55 rfl (Nat.le_succ _) (fun _ => rfl) ?_
        refine fx_gI aj_d55 rfl (Nat.le_succ _) rfl rfl (Or.inl rfl) ?_
        refine fx_n (pc' := 83) (lv' := lv1) (st' := [.int (Int32.ofInt 1), .int (X18.1 87 6), .ref 87]) aj_d55 rfl (Nat.le_succ _) (fun _ => rfl) ?_
        refine fx_n (pc' := 84) (lv' := lv1) (st' := [.int ((X18.1 87 6) + (Int32.ofInt 1)), .ref 87]) aj_d55 rfl (Nat.le_succ _) (fun _ => rfl) ?_
        refine fx_pI aj_d55 rfl (Nat.le_succ _) rfl rfl (Or.inl rfl) fx_no_3_6 (by decide) ?_
        refine fx_qX (fun X19 eX19 => ?_)
        show fx_W _ _ _ 87 lv1 [] _ _
        exact fx_rn aj_d55 rfl ⟨(), rfl, 0, rfl⟩
  · skip
    refine fx_qe (c := (w4).toInt = (p1).toInt) (fx_f_eq q5) ?_
    show fx_W _ _ _ 15 lv1 [] _ _
    refine fx_i2 aj_d55 rfl (Nat.le_succ _) (fun _ => rfl) hlv1_0 ?_
    refine fx_gF aj_d55 rfl (Nat.le_succ _) rfl rfl fx_in_3_1 (t := 82) rfl (fun hA20 => ?_)
    refine fx_n (pc' := 20) (lv' := lv1) (st' := [.int (Int32.ofInt 1), .ref 82]) aj_d55 rfl (Nat.le_succ _) (fun _ => rfl) ?_
    refine fx_i2 aj_d55 rfl (Nat.le_succ _) (fun _ => rfl) hlv1_0 ?_
    refine fx_gF aj_d55 rfl (Nat.le_succ _) rfl rfl fx_in_3_0 (t := 78) rfl (fun hA21 => ?_)
    refine fx_i2 aj_d55 rfl (Nat.le_succ _) (fun _ => rfl) hlv1_0 ?_
    refine fx_gI aj_d55 rfl (Nat.le_succ _) rfl rfl (Or.inl rfl) ?_
    refine fx_cv aj_d55 rfl (Nat.le_succ _) rfl [_] rfl rfl (gx_43_ok (X3.1 87 6)) ?_
    rintro _ X22 ⟨w23, rfl, hR22⟩ hok22 hle22
    refine fx_qc hR22 ?_
    show fx_W _ _ _ 31 lv1 [.int w23, .int (Int32.ofInt 1), .ref 82] _ _
    refine fx_cv aj_d55 rfl (Nat.le_succ _) rfl [_, _] rfl rfl (gx_44_ok (Int32.ofInt 1) w23) ?_
    rintro _ X24 ⟨w25, rfl, hR24⟩ hok24 hle24
    refine fx_qc hR24 ?_
    show fx_W _ _ _ 34 lv1 [] _ _
    exact fx_rn aj_d55 rfl ⟨(), rfl, 0, rfl⟩
def gx_53 (p0 : Int32) (X : fx_X) (v : (Option Nat)) (X' : fx_X) : Prop :=
  (if (p0).toInt = 35 then (v = some 40 ∧ X' = X) else ((if (p0).toInt = 58 then (v = some 38 ∧ X' = X) else ((if (p0).toInt = 91 then (v = some 37 ∧ X' = X) else ((if (p0).toInt = 123 then (v = some 39 ∧ X' = X) else (v = some 6 ∧ X' = X))))))))
theorem gx_53_ok {tb : aj_T} (p0 : Int32) {X : fx_X} : fx_K tb 53 [.int p0] X (fx_Q fx_qR (fun v X' => gx_53 p0 X v X')) := by
  refine fx_m aj_m53_at rfl (fun N => ?_)
  refine fx_mono (Q := fx_Q fx_qR (fun v X' => ∃ n : Nat, gx_53 p0 X v X')) (fun r X' ⟨v, e, _, z⟩ => ⟨v, e, z⟩) ?_
  unfold gx_53
  show fx_W _ _ _ 0 [(0, .int p0)] [] _ _
  obtain ⟨lv1, elv1⟩ : ∃ l : aj_V, l = [(0, .int p0)] := ⟨_, rfl⟩
  rw [← elv1]
  have hlv1_0 : aj_lv lv1 0 = some (.int p0) := by rw [elv1]; rfl
  refine fx_i0 aj_d53 rfl (Nat.le_succ _) (fun _ => rfl) hlv1_0 ?_
  by_cases q3 : (p0).toInt = 35
  · skip
    refine fx_qi (c := (p0).toInt = 35) q3 ?_
    refine fx_lk (tgt := 56) (off := 55) aj_d53 rfl (Nat.le_succ _) (by decide) (by rw [q3]; rfl) rfl ?_
    show fx_W _ _ _ 56 lv1 [] _ _
    refine fx_gs (a := 0) (v := 0) aj_d53 rfl (Nat.le_succ _) rfl (kd := 0) (n := 11) rfl (by decide) (fun hA4 => ?_)
    exact fx_ra aj_d53 rfl ⟨some _, rfl, 0, rfl, rfl⟩
  · skip
    refine fx_qe (c := (p0).toInt = 35) q3 ?_
    by_cases q5 : (p0).toInt = 58
    · skip
      refine fx_qi (c := (p0).toInt = 58) q5 ?_
      refine fx_lk (tgt := 48) (off := 47) aj_d53 rfl (Nat.le_succ _) (by decide) (by rw [q5]; rfl) rfl ?_
      show fx_W _ _ _ 48 lv1 [] _ _
      refine fx_gs (a := 0) (v := 0) aj_d53 rfl (Nat.le_succ _) rfl (kd := 0) (n := 9) rfl (by decide) (fun hA6 => ?_)
      exact fx_ra aj_d53 rfl ⟨some _, rfl, 0, rfl, rfl⟩
    · skip
      refine fx_qe (c := (p0).toInt = 58) q5 ?_
      by_cases q7 : (p0).toInt = 91
      · skip
        refine fx_qi (c := (p0).toInt = 91) q7 ?_
        refine fx_lk (tgt := 44) (off := 43) aj_d53 rfl (Nat.le_succ _) (by decide) (by rw [q7]; rfl) rfl ?_
        show fx_W _ _ _ 44 lv1 [] _ _
        refine fx_gs (a := 0) (v := 0) aj_d53 rfl (Nat.le_succ _) rfl (kd := 0) (n := 5) rfl (by decide) (fun hA8 => ?_)
        exact fx_ra aj_d53 rfl ⟨some _, rfl, 0, rfl, rfl⟩
      · skip
        refine fx_qe (c := (p0).toInt = 91) q7 ?_
        by_cases q9 : (p0).toInt = 123
        · skip
          refine fx_qi (c := (p0).toInt = 123) q9 ?_
          refine fx_lk (tgt := 52) (off := 51) aj_d53 rfl (Nat.le_succ _) (by decide) (by rw [q9]; rfl) rfl ?_
          show fx_W _ _ _ 52 lv1 [] _ _
          refine fx_gs (a := 0) (v := 0) aj_d53 rfl (Nat.le_succ _) rfl (kd := 0) (n := 8) rfl (by decide) (fun hA10 => ?_)
          exact fx_ra aj_d53 rfl ⟨some _, rfl, 0, rfl, rfl⟩
        · skip
          refine fx_qe (c := (p0).toInt = 123) q9 ?_
          refine fx_lk (tgt := 60) (off := 59) aj_d53 rfl (Nat.le_succ _) (by decide) (fx_lkd (by intro z hz; simp only [List.mem_cons, List.not_mem_nil, or_false] at hz; rcases hz with rfl | rfl | rfl | rfl <;> (dsimp only; omega))) rfl ?_
          show fx_W _ _ _ 60 lv1 [] _ _
          refine fx_gs (a := 0) (v := 0) aj_d53 rfl (Nat.le_succ _) rfl (kd := 0) (n := 0) rfl (by decide) (fun hA11 => ?_)
          exact fx_ra aj_d53 rfl ⟨some _, rfl, 0, rfl, rfl⟩
def gx_54 (p0 : Int32) (X : fx_X) (v : (Option Nat)) (X' : fx_X) : Prop :=
  (if (p0).toInt = 16 then (v = some 47 ∧ X' = X) else ((if (p0).toInt = 17 then (v = some 48 ∧ X' = X) else ((if (p0).toInt = 18 then (v = some 49 ∧ X' = X) else ((if (p0).toInt = 19 then (v = some 50 ∧ X' = X) else (v = none ∧ X' = X))))))))
theorem gx_54_ok {tb : aj_T} (p0 : Int32) {X : fx_X} : fx_K tb 54 [.int p0] X (fx_Q fx_qR (fun v X' => gx_54 p0 X v X')) := by
  refine fx_m aj_m54_at rfl (fun N => ?_)
  refine fx_mono (Q := fx_Q fx_qR (fun v X' => ∃ n : Nat, gx_54 p0 X v X')) (fun r X' ⟨v, e, _, z⟩ => ⟨v, e, z⟩) ?_
  unfold gx_54
  show fx_W _ _ _ 0 [(0, .int p0)] [] _ _
  obtain ⟨lv1, elv1⟩ : ∃ l : aj_V, l = [(0, .int p0)] := ⟨_, rfl⟩
  rw [← elv1]
  have hlv1_0 : aj_lv lv1 0 = some (.int p0) := by rw [elv1]; rfl
  refine fx_i0 aj_d54 rfl (Nat.le_succ _) (fun _ => rfl) hlv1_0 ?_
  by_cases q3 : (p0).toInt = 16
  · skip
    refine fx_qi (c := (p0).toInt = 16) q3 ?_
    refine fx_ts (tgt := 32) aj_d54 rfl (Nat.le_succ _) q3 (by decide) rfl rfl ?_
    show fx_W _ _ _ 32 lv1 [] _ _
    refine fx_gs (a := 0) (v := 0) aj_d54 rfl (Nat.le_succ _) rfl (kd := 0) (n := 2) rfl (by decide) (fun hA4 => ?_)
    exact fx_ra aj_d54 rfl ⟨some _, rfl, 0, rfl, rfl⟩
  · skip
    refine fx_qe (c := (p0).toInt = 16) q3 ?_
    by_cases q5 : (p0).toInt = 17
    · skip
      refine fx_qi (c := (p0).toInt = 17) q5 ?_
      refine fx_ts (tgt := 36) aj_d54 rfl (Nat.le_succ _) q5 (by decide) rfl rfl ?_
      show fx_W _ _ _ 36 lv1 [] _ _
      refine fx_gs (a := 0) (v := 0) aj_d54 rfl (Nat.le_succ _) rfl (kd := 0) (n := 4) rfl (by decide) (fun hA6 => ?_)
      exact fx_ra aj_d54 rfl ⟨some _, rfl, 0, rfl, rfl⟩
    · skip
      refine fx_qe (c := (p0).toInt = 17) q5 ?_
      by_cases q7 : (p0).toInt = 18
      · skip
        refine fx_qi (c := (p0).toInt = 18) q7 ?_
        refine fx_ts (tgt := 40) aj_d54 rfl (Nat.le_succ _) q7 (by decide) rfl rfl ?_
        show fx_W _ _ _ 40 lv1 [] _ _
        refine fx_gs (a := 0) (v := 0) aj_d54 rfl (Nat.le_succ _) rfl (kd := 0) (n := 4) rfl (by decide) (fun hA8 => ?_)
        exact fx_ra aj_d54 rfl ⟨some _, rfl, 0, rfl, rfl⟩
      · skip
        refine fx_qe (c := (p0).toInt = 18) q7 ?_
        by_cases q9 : (p0).toInt = 19
        · skip
          refine fx_qi (c := (p0).toInt = 19) q9 ?_
          refine fx_ts (tgt := 44) aj_d54 rfl (Nat.le_succ _) q9 (by decide) rfl rfl ?_
          show fx_W _ _ _ 44 lv1 [] _ _
          refine fx_gs (a := 0) (v := 0) aj_d54 rfl (Nat.le_succ _) rfl (kd := 0) (n := 4) rfl (by decide) (fun hA10 => ?_)
          exact fx_ra aj_d54 rfl ⟨some _, rfl, 0, rfl, rfl⟩
        · skip
          refine fx_qe (c := (p0).toInt = 19) q9 ?_
          refine fx_td (tgt := 48) aj_d54 rfl (Nat.le_succ _) (by omega) rfl ?_
          show fx_W _ _ _ 48 lv1 [] _ _
          refine fx_n (pc' := 49) (lv' := lv1) (st' := [.null]) aj_d54 rfl (Nat.le_succ _) (fun _ => rfl) ?_
          exact fx_ra0 aj_d54 rfl ⟨none, rfl, 0, rfl, rfl⟩
def gx_52 (p0 : Int32) (p1 : Int32) (X : fx_X) (v : (Option Nat)) (X' : fx_X) : Prop :=
  (if (p0).toInt = 145 then (v = some 30 ∧ X' = X) else ((if (p0).toInt = 146 then ((if (p1).toInt = 43 then (v = some 31 ∧ X' = X) else ((if (p1).toInt = 45 then (v = some 32 ∧ X' = X) else (v = some 6 ∧ X' = X))))) else ((if (p0).toInt = 147 then (v = some 33 ∧ X' = X) else ((if (p0).toInt = 148 then ((if (p1).toInt = 42 then (v = some 34 ∧ X' = X) else (v = some 6 ∧ X' = X))) else ((if (p0).toInt = 149 then ((if (p1).toInt = 40 then (v = some 35 ∧ X' = X) else ((if (p1).toInt = 3 then (v = some 36 ∧ X' = X) else (v = none ∧ X' = X))))) else ((if (p0).toInt = 150 then (∃ (w24 : (Option Nat)) (X23 : fx_X), gx_53 p1 X w24 X23 ∧ ((w24 = none ∧ v = none ∧ X' = X23) ∨ (∃ w24b : Nat, w24 = some w24b ∧ v = some w24b ∧ X' = X23))) else ((if (p0).toInt = 151 then (v = some 41 ∧ X' = X) else ((if (p0).toInt = 152 then ((if (p1).toInt = 44 then (v = some 42 ∧ X' = X) else (v = some 6 ∧ X' = X))) else ((if (p0).toInt = 153 then ((if (p1).toInt = 3 then (v = some 43 ∧ X' = X) else (v = some 44 ∧ X' = X))) else ((if (p0).toInt = 154 then ((if (p1).toInt = 44 then (v = some 45 ∧ X' = X) else (v = some 6 ∧ X' = X))) else ((if (p0).toInt = 155 then ((if (p1).toInt = 3 then (v = some 46 ∧ X' = X) else (v = some 6 ∧ X' = X))) else ((if (p0).toInt = 156 then (∃ (w45 : (Option Nat)) (X44 : fx_X), gx_54 p1 X w45 X44 ∧ ((w45 = none ∧ v = none ∧ X' = X44) ∨ (∃ w45b : Nat, w45 = some w45b ∧ v = some w45b ∧ X' = X44))) else (v = none ∧ X' = X))))))))))))))))))))))))
theorem gx_52_ok {tb : aj_T} (p0 : Int32) (p1 : Int32) {X : fx_X} : fx_K tb 52 [.int p0, .int p1] X (fx_Q fx_qR (fun v X' => gx_52 p0 p1 X v X')) := by
  refine fx_m aj_m52_at rfl (fun N => ?_)
  refine fx_mono (Q := fx_Q fx_qR (fun v X' => ∃ n : Nat, gx_52 p0 p1 X v X')) (fun r X' ⟨v, e, _, z⟩ => ⟨v, e, z⟩) ?_
  unfold gx_52
  show fx_W _ _ _ 0 [(0, .int p0), (1, .int p1)] [] _ _
  obtain ⟨lv1, elv1⟩ : ∃ l : aj_V, l = [(0, .int p0), (1, .int p1)] := ⟨_, rfl⟩
  rw [← elv1]
  have hlv1_0 : aj_lv lv1 0 = some (.int p0) := by rw [elv1]; rfl
  have hlv1_1 : aj_lv lv1 1 = some (.int p1) := by rw [elv1]; rfl
  refine fx_i0 aj_d52 rfl (Nat.le_succ _) (fun _ => rfl) hlv1_0 ?_
  by_cases q3 : (p0).toInt = 145
  · skip
    refine fx_qi (c := (p0).toInt = 145) q3 ?_
    refine fx_ts (tgt := 64) aj_d52 rfl (Nat.le_succ _) q3 (by decide) rfl rfl ?_
    show fx_W _ _ _ 64 lv1 [] _ _
    refine fx_gs (a := 0) (v := 0) aj_d52 rfl (Nat.le_succ _) rfl (kd := 0) (n := 2) rfl (by decide) (fun hA4 => ?_)
    exact fx_ra aj_d52 rfl ⟨some _, rfl, 0, rfl, rfl⟩
  · skip
    refine fx_qe (c := (p0).toInt = 145) q3 ?_
    by_cases q5 : (p0).toInt = 146
    · skip
      refine fx_qi (c := (p0).toInt = 146) q5 ?_
      refine fx_ts (tgt := 68) aj_d52 rfl (Nat.le_succ _) q5 (by decide) rfl rfl ?_
      show fx_W _ _ _ 68 lv1 [] _ _
      refine fx_i0 aj_d52 rfl (Nat.le_succ _) (fun _ => rfl) hlv1_1 ?_
      refine fx_n (pc' := 71) (lv' := lv1) (st' := [.int ((Int8.ofInt 43).toInt32), .int p1]) aj_d52 rfl (Nat.le_succ _) (fun _ => rfl) ?_
      refine fx_b (tgt := 80) aj_d52 rfl (Nat.le_succ _) rfl (fun q6 => ?_) (fun q6 => ?_)
      · skip
        refine fx_qe (c := (p1).toInt = 43) (fx_t_ne q6) ?_
        show fx_W _ _ _ 80 lv1 [] _ _
        refine fx_i0 aj_d52 rfl (Nat.le_succ _) (fun _ => rfl) hlv1_1 ?_
        refine fx_n (pc' := 83) (lv' := lv1) (st' := [.int ((Int8.ofInt 45).toInt32), .int p1]) aj_d52 rfl (Nat.le_succ _) (fun _ => rfl) ?_
        refine fx_b (tgt := 92) aj_d52 rfl (Nat.le_succ _) rfl (fun q7 => ?_) (fun q7 => ?_)
        · skip
          refine fx_qe (c := (p1).toInt = 45) (fx_t_ne q7) ?_
          show fx_W _ _ _ 92 lv1 [] _ _
          refine fx_gs (a := 0) (v := 0) aj_d52 rfl (Nat.le_succ _) rfl (kd := 0) (n := 0) rfl (by decide) (fun hA8 => ?_)
          exact fx_ra aj_d52 rfl ⟨some _, rfl, 0, rfl, rfl⟩
        · skip
          refine fx_qi (c := (p1).toInt = 45) (fx_f_ne q7) ?_
          show fx_W _ _ _ 86 lv1 [] _ _
          refine fx_gs (a := 0) (v := 0) aj_d52 rfl (Nat.le_succ _) rfl (kd := 0) (n := 5) rfl (by decide) (fun hA9 => ?_)
          refine fx_n (pc' := 95) (lv' := lv1) (st' := [.ref 32]) aj_d52 rfl (Nat.le_succ _) (fun _ => rfl) ?_
          exact fx_ra aj_d52 rfl ⟨some _, rfl, 0, rfl, rfl⟩
      · skip
        refine fx_qi (c := (p1).toInt = 43) (fx_f_ne q6) ?_
        show fx_W _ _ _ 74 lv1 [] _ _
        refine fx_gs (a := 0) (v := 0) aj_d52 rfl (Nat.le_succ _) rfl (kd := 0) (n := 5) rfl (by decide) (fun hA10 => ?_)
        refine fx_n (pc' := 95) (lv' := lv1) (st' := [.ref 31]) aj_d52 rfl (Nat.le_succ _) (fun _ => rfl) ?_
        exact fx_ra aj_d52 rfl ⟨some _, rfl, 0, rfl, rfl⟩
    · skip
      refine fx_qe (c := (p0).toInt = 146) q5 ?_
      by_cases q11 : (p0).toInt = 147
      · skip
        refine fx_qi (c := (p0).toInt = 147) q11 ?_
        refine fx_ts (tgt := 96) aj_d52 rfl (Nat.le_succ _) q11 (by decide) rfl rfl ?_
        show fx_W _ _ _ 96 lv1 [] _ _
        refine fx_gs (a := 0) (v := 0) aj_d52 rfl (Nat.le_succ _) rfl (kd := 0) (n := 2) rfl (by decide) (fun hA12 => ?_)
        exact fx_ra aj_d52 rfl ⟨some _, rfl, 0, rfl, rfl⟩
      · skip
        refine fx_qe (c := (p0).toInt = 147) q11 ?_
        by_cases q13 : (p0).toInt = 148
        · skip
          refine fx_qi (c := (p0).toInt = 148) q13 ?_
          refine fx_ts (tgt := 100) aj_d52 rfl (Nat.le_succ _) q13 (by decide) rfl rfl ?_
          show fx_W _ _ _ 100 lv1 [] _ _
          refine fx_i0 aj_d52 rfl (Nat.le_succ _) (fun _ => rfl) hlv1_1 ?_
          refine fx_n (pc' := 103) (lv' := lv1) (st' := [.int ((Int8.ofInt 42).toInt32), .int p1]) aj_d52 rfl (Nat.le_succ _) (fun _ => rfl) ?_
          refine fx_b (tgt := 112) aj_d52 rfl (Nat.le_succ _) rfl (fun q14 => ?_) (fun q14 => ?_)
          · skip
            refine fx_qe (c := (p1).toInt = 42) (fx_t_ne q14) ?_
            show fx_W _ _ _ 112 lv1 [] _ _
            refine fx_gs (a := 0) (v := 0) aj_d52 rfl (Nat.le_succ _) rfl (kd := 0) (n := 0) rfl (by decide) (fun hA15 => ?_)
            exact fx_ra aj_d52 rfl ⟨some _, rfl, 0, rfl, rfl⟩
          · skip
            refine fx_qi (c := (p1).toInt = 42) (fx_f_ne q14) ?_
            show fx_W _ _ _ 106 lv1 [] _ _
            refine fx_gs (a := 0) (v := 0) aj_d52 rfl (Nat.le_succ _) rfl (kd := 0) (n := 5) rfl (by decide) (fun hA16 => ?_)
            refine fx_n (pc' := 115) (lv' := lv1) (st' := [.ref 34]) aj_d52 rfl (Nat.le_succ _) (fun _ => rfl) ?_
            exact fx_ra aj_d52 rfl ⟨some _, rfl, 0, rfl, rfl⟩
        · skip
          refine fx_qe (c := (p0).toInt = 148) q13 ?_
          by_cases q17 : (p0).toInt = 149
          · skip
            refine fx_qi (c := (p0).toInt = 149) q17 ?_
            refine fx_ts (tgt := 116) aj_d52 rfl (Nat.le_succ _) q17 (by decide) rfl rfl ?_
            show fx_W _ _ _ 116 lv1 [] _ _
            refine fx_i0 aj_d52 rfl (Nat.le_succ _) (fun _ => rfl) hlv1_1 ?_
            refine fx_n (pc' := 119) (lv' := lv1) (st' := [.int ((Int8.ofInt 40).toInt32), .int p1]) aj_d52 rfl (Nat.le_succ _) (fun _ => rfl) ?_
            refine fx_b (tgt := 128) aj_d52 rfl (Nat.le_succ _) rfl (fun q18 => ?_) (fun q18 => ?_)
            · skip
              refine fx_qe (c := (p1).toInt = 40) (fx_t_ne q18) ?_
              show fx_W _ _ _ 128 lv1 [] _ _
              refine fx_i0 aj_d52 rfl (Nat.le_succ _) (fun _ => rfl) hlv1_1 ?_
              refine fx_n (pc' := 130) (lv' := lv1) (st' := [.int (Int32.ofInt 3), .int p1]) aj_d52 rfl (Nat.le_succ _) (fun _ => rfl) ?_
              refine fx_b (tgt := 139) aj_d52 rfl (Nat.le_succ _) rfl (fun q19 => ?_) (fun q19 => ?_)
              · skip
                refine fx_qe (c := (p1).toInt = 3) (fx_t_ne q19) ?_
                show fx_W _ _ _ 139 lv1 [] _ _
                refine fx_n (pc' := 140) (lv' := lv1) (st' := [.null]) aj_d52 rfl (Nat.le_succ _) (fun _ => rfl) ?_
                exact fx_ra0 aj_d52 rfl ⟨none, rfl, 0, rfl, rfl⟩
              · skip
                refine fx_qi (c := (p1).toInt = 3) (fx_f_ne q19) ?_
                show fx_W _ _ _ 133 lv1 [] _ _
                refine fx_gs (a := 0) (v := 0) aj_d52 rfl (Nat.le_succ _) rfl (kd := 0) (n := 3) rfl (by decide) (fun hA20 => ?_)
                refine fx_n (pc' := 140) (lv' := lv1) (st' := [.ref 36]) aj_d52 rfl (Nat.le_succ _) (fun _ => rfl) ?_
                exact fx_ra aj_d52 rfl ⟨some _, rfl, 0, rfl, rfl⟩
            · skip
              refine fx_qi (c := (p1).toInt = 40) (fx_f_ne q18) ?_
              show fx_W _ _ _ 122 lv1 [] _ _
              refine fx_gs (a := 0) (v := 0) aj_d52 rfl (Nat.le_succ _) rfl (kd := 0) (n := 6) rfl (by decide) (fun hA21 => ?_)
              refine fx_n (pc' := 140) (lv' := lv1) (st' := [.ref 35]) aj_d52 rfl (Nat.le_succ _) (fun _ => rfl) ?_
              exact fx_ra aj_d52 rfl ⟨some _, rfl, 0, rfl, rfl⟩
          · skip
            refine fx_qe (c := (p0).toInt = 149) q17 ?_
            by_cases q22 : (p0).toInt = 150
            · skip
              refine fx_qi (c := (p0).toInt = 150) q22 ?_
              refine fx_ts (tgt := 141) aj_d52 rfl (Nat.le_succ _) q22 (by decide) rfl rfl ?_
              show fx_W _ _ _ 141 lv1 [] _ _
              refine fx_i0 aj_d52 rfl (Nat.le_succ _) (fun _ => rfl) hlv1_1 ?_
              refine fx_cs aj_d52 rfl (Nat.le_succ _) rfl rfl [_] rfl rfl (gx_53_ok p1) ?_
              rintro _ X23 ⟨w24, rfl, hR23⟩ hok23 hle23
              refine fx_qc hR23 ?_
              rcases w24 with _ | w24b
              · skip
                refine fx_o1 (fx_qa rfl ?_)
                show fx_W _ _ _ 145 lv1 [.null] _ _
                exact fx_ra0 aj_d52 rfl ⟨none, rfl, 0, rfl, rfl⟩
              · skip
                refine fx_o2 (fx_qs rfl ?_)
                show fx_W _ _ _ 145 lv1 [.ref w24b] _ _
                exact fx_ra aj_d52 rfl ⟨some _, rfl, 0, rfl, rfl⟩
            · skip
              refine fx_qe (c := (p0).toInt = 150) q22 ?_
              by_cases q25 : (p0).toInt = 151
              · skip
                refine fx_qi (c := (p0).toInt = 151) q25 ?_
                refine fx_ts (tgt := 146) aj_d52 rfl (Nat.le_succ _) q25 (by decide) rfl rfl ?_
                show fx_W _ _ _ 146 lv1 [] _ _
                refine fx_gs (a := 0) (v := 0) aj_d52 rfl (Nat.le_succ _) rfl (kd := 0) (n := 4) rfl (by decide) (fun hA26 => ?_)
                exact fx_ra aj_d52 rfl ⟨some _, rfl, 0, rfl, rfl⟩
              · skip
                refine fx_qe (c := (p0).toInt = 151) q25 ?_
                by_cases q27 : (p0).toInt = 152
                · skip
                  refine fx_qi (c := (p0).toInt = 152) q27 ?_
                  refine fx_ts (tgt := 150) aj_d52 rfl (Nat.le_succ _) q27 (by decide) rfl rfl ?_
                  show fx_W _ _ _ 150 lv1 [] _ _
                  refine fx_i0 aj_d52 rfl (Nat.le_succ _) (fun _ => rfl) hlv1_1 ?_
                  refine fx_n (pc' := 153) (lv' := lv1) (st' := [.int ((Int8.ofInt 44).toInt32), .int p1]) aj_d52 rfl (Nat.le_succ _) (fun _ => rfl) ?_
                  refine fx_b (tgt := 162) aj_d52 rfl (Nat.le_succ _) rfl (fun q28 => ?_) (fun q28 => ?_)
                  · skip
                    refine fx_qe (c := (p1).toInt = 44) (fx_t_ne q28) ?_
                    show fx_W _ _ _ 162 lv1 [] _ _
                    refine fx_gs (a := 0) (v := 0) aj_d52 rfl (Nat.le_succ _) rfl (kd := 0) (n := 0) rfl (by decide) (fun hA29 => ?_)
                    exact fx_ra aj_d52 rfl ⟨some _, rfl, 0, rfl, rfl⟩
                  · skip
                    refine fx_qi (c := (p1).toInt = 44) (fx_f_ne q28) ?_
                    show fx_W _ _ _ 156 lv1 [] _ _
                    refine fx_gs (a := 0) (v := 0) aj_d52 rfl (Nat.le_succ _) rfl (kd := 0) (n := 3) rfl (by decide) (fun hA30 => ?_)
                    refine fx_n (pc' := 165) (lv' := lv1) (st' := [.ref 42]) aj_d52 rfl (Nat.le_succ _) (fun _ => rfl) ?_
                    exact fx_ra aj_d52 rfl ⟨some _, rfl, 0, rfl, rfl⟩
                · skip
                  refine fx_qe (c := (p0).toInt = 152) q27 ?_
                  by_cases q31 : (p0).toInt = 153
                  · skip
                    refine fx_qi (c := (p0).toInt = 153) q31 ?_
                    refine fx_ts (tgt := 166) aj_d52 rfl (Nat.le_succ _) q31 (by decide) rfl rfl ?_
                    show fx_W _ _ _ 166 lv1 [] _ _
                    refine fx_i0 aj_d52 rfl (Nat.le_succ _) (fun _ => rfl) hlv1_1 ?_
                    refine fx_n (pc' := 168) (lv' := lv1) (st' := [.int (Int32.ofInt 3), .int p1]) aj_d52 rfl (Nat.le_succ _) (fun _ => rfl) ?_
                    refine fx_b (tgt := 177) aj_d52 rfl (Nat.le_succ _) rfl (fun q32 => ?_) (fun q32 => ?_)
                    · skip
                      refine fx_qe (c := (p1).toInt = 3) (fx_t_ne q32) ?_
                      show fx_W _ _ _ 177 lv1 [] _ _
                      refine fx_gs (a := 0) (v := 0) aj_d52 rfl (Nat.le_succ _) rfl (kd := 0) (n := 1) rfl (by decide) (fun hA33 => ?_)
                      exact fx_ra aj_d52 rfl ⟨some _, rfl, 0, rfl, rfl⟩
                    · skip
                      refine fx_qi (c := (p1).toInt = 3) (fx_f_ne q32) ?_
                      show fx_W _ _ _ 171 lv1 [] _ _
                      refine fx_gs (a := 0) (v := 0) aj_d52 rfl (Nat.le_succ _) rfl (kd := 0) (n := 2) rfl (by decide) (fun hA34 => ?_)
                      refine fx_n (pc' := 180) (lv' := lv1) (st' := [.ref 43]) aj_d52 rfl (Nat.le_succ _) (fun _ => rfl) ?_
                      exact fx_ra aj_d52 rfl ⟨some _, rfl, 0, rfl, rfl⟩
                  · skip
                    refine fx_qe (c := (p0).toInt = 153) q31 ?_
                    by_cases q35 : (p0).toInt = 154
                    · skip
                      refine fx_qi (c := (p0).toInt = 154) q35 ?_
                      refine fx_ts (tgt := 181) aj_d52 rfl (Nat.le_succ _) q35 (by decide) rfl rfl ?_
                      show fx_W _ _ _ 181 lv1 [] _ _
                      refine fx_i0 aj_d52 rfl (Nat.le_succ _) (fun _ => rfl) hlv1_1 ?_
                      refine fx_n (pc' := 184) (lv' := lv1) (st' := [.int ((Int8.ofInt 44).toInt32), .int p1]) aj_d52 rfl (Nat.le_succ _) (fun _ => rfl) ?_
                      refine fx_b (tgt := 193) aj_d52 rfl (Nat.le_succ _) rfl (fun q36 => ?_) (fun q36 => ?_)
                      · skip
                        refine fx_qe (c := (p1).toInt = 44) (fx_t_ne q36) ?_
                        show fx_W _ _ _ 193 lv1 [] _ _
                        refine fx_gs (a := 0) (v := 0) aj_d52 rfl (Nat.le_succ _) rfl (kd := 0) (n := 0) rfl (by decide) (fun hA37 => ?_)
                        exact fx_ra aj_d52 rfl ⟨some _, rfl, 0, rfl, rfl⟩
                      · skip
                        refine fx_qi (c := (p1).toInt = 44) (fx_f_ne q36) ?_
                        show fx_W _ _ _ 187 lv1 [] _ _
                        refine fx_gs (a := 0) (v := 0) aj_d52 rfl (Nat.le_succ _) rfl (kd := 0) (n := 4) rfl (by decide) (fun hA38 => ?_)
                        refine fx_n (pc' := 196) (lv' := lv1) (st' := [.ref 45]) aj_d52 rfl (Nat.le_succ _) (fun _ => rfl) ?_
                        exact fx_ra aj_d52 rfl ⟨some _, rfl, 0, rfl, rfl⟩
                    · skip
                      refine fx_qe (c := (p0).toInt = 154) q35 ?_
                      by_cases q39 : (p0).toInt = 155
                      · skip
                        refine fx_qi (c := (p0).toInt = 155) q39 ?_
                        refine fx_ts (tgt := 197) aj_d52 rfl (Nat.le_succ _) q39 (by decide) rfl rfl ?_
                        show fx_W _ _ _ 197 lv1 [] _ _
                        refine fx_i0 aj_d52 rfl (Nat.le_succ _) (fun _ => rfl) hlv1_1 ?_
                        refine fx_n (pc' := 199) (lv' := lv1) (st' := [.int (Int32.ofInt 3), .int p1]) aj_d52 rfl (Nat.le_succ _) (fun _ => rfl) ?_
                        refine fx_b (tgt := 208) aj_d52 rfl (Nat.le_succ _) rfl (fun q40 => ?_) (fun q40 => ?_)
                        · skip
                          refine fx_qe (c := (p1).toInt = 3) (fx_t_ne q40) ?_
                          show fx_W _ _ _ 208 lv1 [] _ _
                          refine fx_gs (a := 0) (v := 0) aj_d52 rfl (Nat.le_succ _) rfl (kd := 0) (n := 0) rfl (by decide) (fun hA41 => ?_)
                          exact fx_ra aj_d52 rfl ⟨some _, rfl, 0, rfl, rfl⟩
                        · skip
                          refine fx_qi (c := (p1).toInt = 3) (fx_f_ne q40) ?_
                          show fx_W _ _ _ 202 lv1 [] _ _
                          refine fx_gs (a := 0) (v := 0) aj_d52 rfl (Nat.le_succ _) rfl (kd := 0) (n := 3) rfl (by decide) (fun hA42 => ?_)
                          refine fx_n (pc' := 211) (lv' := lv1) (st' := [.ref 46]) aj_d52 rfl (Nat.le_succ _) (fun _ => rfl) ?_
                          exact fx_ra aj_d52 rfl ⟨some _, rfl, 0, rfl, rfl⟩
                      · skip
                        refine fx_qe (c := (p0).toInt = 155) q39 ?_
                        by_cases q43 : (p0).toInt = 156
                        · skip
                          refine fx_qi (c := (p0).toInt = 156) q43 ?_
                          refine fx_ts (tgt := 212) aj_d52 rfl (Nat.le_succ _) q43 (by decide) rfl rfl ?_
                          show fx_W _ _ _ 212 lv1 [] _ _
                          refine fx_i0 aj_d52 rfl (Nat.le_succ _) (fun _ => rfl) hlv1_1 ?_
                          refine fx_cs aj_d52 rfl (Nat.le_succ _) rfl rfl [_] rfl rfl (gx_54_ok p1) ?_
                          rintro _ X44 ⟨w45, rfl, hR44⟩ hok44 hle44
                          refine fx_qc hR44 ?_
                          rcases w45 with _ | w45b
                          · skip
                            refine fx_o1 (fx_qa rfl ?_)
                            show fx_W _ _ _ 216 lv1 [.null] _ _
                            exact fx_ra0 aj_d52 rfl ⟨none, rfl, 0, rfl, rfl⟩
                          · skip
                            refine fx_o2 (fx_qs rfl ?_)
                            show fx_W _ _ _ 216 lv1 [.ref w45b] _ _
                            exact fx_ra aj_d52 rfl ⟨some _, rfl, 0, rfl, rfl⟩
                        · skip
                          refine fx_qe (c := (p0).toInt = 156) q43 ?_
                          refine fx_td (tgt := 217) aj_d52 rfl (Nat.le_succ _) (by omega) rfl ?_
                          show fx_W _ _ _ 217 lv1 [] _ _
                          refine fx_n (pc' := 218) (lv' := lv1) (st' := [.null]) aj_d52 rfl (Nat.le_succ _) (fun _ => rfl) ?_
                          exact fx_ra0 aj_d52 rfl ⟨none, rfl, 0, rfl, rfl⟩
def gx_51 (p0 : Int32) (X : fx_X) (v : (Option Nat)) (X' : fx_X) : Prop :=
  (if (p0).toInt = 6 then (v = some 24 ∧ X' = X) else ((if (p0).toInt = 7 then (v = some 26 ∧ X' = X) else ((if (p0).toInt = 60 then (v = some 25 ∧ X' = X) else ((if (p0).toInt = 61 then (v = some 23 ∧ X' = X) else (v = none ∧ X' = X))))))))
theorem gx_51_ok {tb : aj_T} (p0 : Int32) {X : fx_X} : fx_K tb 51 [.int p0] X (fx_Q fx_qR (fun v X' => gx_51 p0 X v X')) := by
  refine fx_m aj_m51_at rfl (fun N => ?_)
  refine fx_mono (Q := fx_Q fx_qR (fun v X' => ∃ n : Nat, gx_51 p0 X v X')) (fun r X' ⟨v, e, _, z⟩ => ⟨v, e, z⟩) ?_
  unfold gx_51
  show fx_W _ _ _ 0 [(0, .int p0)] [] _ _
  obtain ⟨lv1, elv1⟩ : ∃ l : aj_V, l = [(0, .int p0)] := ⟨_, rfl⟩
  rw [← elv1]
  have hlv1_0 : aj_lv lv1 0 = some (.int p0) := by rw [elv1]; rfl
  refine fx_i0 aj_d51 rfl (Nat.le_succ _) (fun _ => rfl) hlv1_0 ?_
  by_cases q3 : (p0).toInt = 6
  · skip
    refine fx_qi (c := (p0).toInt = 6) q3 ?_
    refine fx_lk (tgt := 48) (off := 47) aj_d51 rfl (Nat.le_succ _) (by decide) (by rw [q3]; rfl) rfl ?_
    show fx_W _ _ _ 48 lv1 [] _ _
    refine fx_gs (a := 0) (v := 0) aj_d51 rfl (Nat.le_succ _) rfl (kd := 0) (n := 2) rfl (by decide) (fun hA4 => ?_)
    exact fx_ra aj_d51 rfl ⟨some _, rfl, 0, rfl, rfl⟩
  · skip
    refine fx_qe (c := (p0).toInt = 6) q3 ?_
    by_cases q5 : (p0).toInt = 7
    · skip
      refine fx_qi (c := (p0).toInt = 7) q5 ?_
      refine fx_lk (tgt := 56) (off := 55) aj_d51 rfl (Nat.le_succ _) (by decide) (by rw [q5]; rfl) rfl ?_
      show fx_W _ _ _ 56 lv1 [] _ _
      refine fx_gs (a := 0) (v := 0) aj_d51 rfl (Nat.le_succ _) rfl (kd := 0) (n := 2) rfl (by decide) (fun hA6 => ?_)
      exact fx_ra aj_d51 rfl ⟨some _, rfl, 0, rfl, rfl⟩
    · skip
      refine fx_qe (c := (p0).toInt = 7) q5 ?_
      by_cases q7 : (p0).toInt = 60
      · skip
        refine fx_qi (c := (p0).toInt = 60) q7 ?_
        refine fx_lk (tgt := 52) (off := 51) aj_d51 rfl (Nat.le_succ _) (by decide) (by rw [q7]; rfl) rfl ?_
        show fx_W _ _ _ 52 lv1 [] _ _
        refine fx_gs (a := 0) (v := 0) aj_d51 rfl (Nat.le_succ _) rfl (kd := 0) (n := 2) rfl (by decide) (fun hA8 => ?_)
        exact fx_ra aj_d51 rfl ⟨some _, rfl, 0, rfl, rfl⟩
      · skip
        refine fx_qe (c := (p0).toInt = 60) q7 ?_
        by_cases q9 : (p0).toInt = 61
        · skip
          refine fx_qi (c := (p0).toInt = 61) q9 ?_
          refine fx_lk (tgt := 44) (off := 43) aj_d51 rfl (Nat.le_succ _) (by decide) (by rw [q9]; rfl) rfl ?_
          show fx_W _ _ _ 44 lv1 [] _ _
          refine fx_gs (a := 0) (v := 0) aj_d51 rfl (Nat.le_succ _) rfl (kd := 0) (n := 2) rfl (by decide) (fun hA10 => ?_)
          exact fx_ra aj_d51 rfl ⟨some _, rfl, 0, rfl, rfl⟩
        · skip
          refine fx_qe (c := (p0).toInt = 61) q9 ?_
          refine fx_lk (tgt := 60) (off := 59) aj_d51 rfl (Nat.le_succ _) (by decide) (fx_lkd (by intro z hz; simp only [List.mem_cons, List.not_mem_nil, or_false] at hz; rcases hz with rfl | rfl | rfl | rfl <;> (dsimp only; omega))) rfl ?_
          show fx_W _ _ _ 60 lv1 [] _ _
          refine fx_n (pc' := 61) (lv' := lv1) (st' := [.null]) aj_d51 rfl (Nat.le_succ _) (fun _ => rfl) ?_
          exact fx_ra0 aj_d51 rfl ⟨none, rfl, 0, rfl, rfl⟩
def gx_50 (p0 : Int32) (p1 : Int32) (X : fx_X) (v : (Option Nat)) (X' : fx_X) : Prop :=
  (if (p0).toInt = 138 then (v = some 16 ∧ X' = X) else ((if (p0).toInt = 139 then ((if (p1).toInt = 124 then (v = some 17 ∧ X' = X) else (v = some 6 ∧ X' = X))) else ((if (p0).toInt = 140 then (v = some 18 ∧ X' = X) else ((if (p0).toInt = 141 then ((if (p1).toInt = 38 then (v = some 19 ∧ X' = X) else (v = some 6 ∧ X' = X))) else ((if (p0).toInt = 142 then ((if (p1).toInt = 33 then (v = some 20 ∧ X' = X) else ((if (p1).toInt = 40 then (v = some 21 ∧ X' = X) else (v = some 22 ∧ X' = X))))) else ((if (p0).toInt = 143 then (∃ (w23 : (Option Nat)) (X22 : fx_X), gx_51 p1 X w23 X22 ∧ ((w23 = none ∧ v = none ∧ X' = X22) ∨ (∃ w23b : Nat, w23 = some w23b ∧ v = some w23b ∧ X' = X22))) else ((if (p0).toInt = 144 then ((if (p1).toInt = 63 then (v = some 27 ∧ X' = X) else ((if (p1).toInt = 45 then (v = some 28 ∧ X' = X) else ((if (p1).toInt = 4 then (v = some 29 ∧ X' = X) else (v = none ∧ X' = X))))))) else (v = none ∧ X' = X))))))))))))))
theorem gx_50_ok {tb : aj_T} (p0 : Int32) (p1 : Int32) {X : fx_X} : fx_K tb 50 [.int p0, .int p1] X (fx_Q fx_qR (fun v X' => gx_50 p0 p1 X v X')) := by
  refine fx_m aj_m50_at rfl (fun N => ?_)
  refine fx_mono (Q := fx_Q fx_qR (fun v X' => ∃ n : Nat, gx_50 p0 p1 X v X')) (fun r X' ⟨v, e, _, z⟩ => ⟨v, e, z⟩) ?_
  unfold gx_50
  show fx_W _ _ _ 0 [(0, .int p0), (1, .int p1)] [] _ _
  obtain ⟨lv1, elv1⟩ : ∃ l : aj_V, l = [(0, .int p0), (1, .int p1)] := ⟨_, rfl⟩
  rw [← elv1]
  have hlv1_0 : aj_lv lv1 0 = some (.int p0) := by rw [elv1]; rfl
  have hlv1_1 : aj_lv lv1 1 = some (.int p1) := by rw [elv1]; rfl
  refine fx_i0 aj_d50 rfl (Nat.le_succ _) (fun _ => rfl) hlv1_0 ?_
  by_cases q3 : (p0).toInt = 138
  · skip
    refine fx_qi (c := (p0).toInt = 138) q3 ?_
    refine fx_ts (tgt := 44) aj_d50 rfl (Nat.le_succ _) q3 (by decide) rfl rfl ?_
    show fx_W _ _ _ 44 lv1 [] _ _
    refine fx_gs (a := 0) (v := 0) aj_d50 rfl (Nat.le_succ _) rfl (kd := 0) (n := 2) rfl (by decide) (fun hA4 => ?_)
    exact fx_ra aj_d50 rfl ⟨some _, rfl, 0, rfl, rfl⟩
  · skip
    refine fx_qe (c := (p0).toInt = 138) q3 ?_
    by_cases q5 : (p0).toInt = 139
    · skip
      refine fx_qi (c := (p0).toInt = 139) q5 ?_
      refine fx_ts (tgt := 48) aj_d50 rfl (Nat.le_succ _) q5 (by decide) rfl rfl ?_
      show fx_W _ _ _ 48 lv1 [] _ _
      refine fx_i0 aj_d50 rfl (Nat.le_succ _) (fun _ => rfl) hlv1_1 ?_
      refine fx_n (pc' := 51) (lv' := lv1) (st' := [.int ((Int8.ofInt 124).toInt32), .int p1]) aj_d50 rfl (Nat.le_succ _) (fun _ => rfl) ?_
      refine fx_b (tgt := 60) aj_d50 rfl (Nat.le_succ _) rfl (fun q6 => ?_) (fun q6 => ?_)
      · skip
        refine fx_qe (c := (p1).toInt = 124) (fx_t_ne q6) ?_
        show fx_W _ _ _ 60 lv1 [] _ _
        refine fx_gs (a := 0) (v := 0) aj_d50 rfl (Nat.le_succ _) rfl (kd := 0) (n := 0) rfl (by decide) (fun hA7 => ?_)
        exact fx_ra aj_d50 rfl ⟨some _, rfl, 0, rfl, rfl⟩
      · skip
        refine fx_qi (c := (p1).toInt = 124) (fx_f_ne q6) ?_
        show fx_W _ _ _ 54 lv1 [] _ _
        refine fx_gs (a := 0) (v := 0) aj_d50 rfl (Nat.le_succ _) rfl (kd := 0) (n := 4) rfl (by decide) (fun hA8 => ?_)
        refine fx_n (pc' := 63) (lv' := lv1) (st' := [.ref 17]) aj_d50 rfl (Nat.le_succ _) (fun _ => rfl) ?_
        exact fx_ra aj_d50 rfl ⟨some _, rfl, 0, rfl, rfl⟩
    · skip
      refine fx_qe (c := (p0).toInt = 139) q5 ?_
      by_cases q9 : (p0).toInt = 140
      · skip
        refine fx_qi (c := (p0).toInt = 140) q9 ?_
        refine fx_ts (tgt := 64) aj_d50 rfl (Nat.le_succ _) q9 (by decide) rfl rfl ?_
        show fx_W _ _ _ 64 lv1 [] _ _
        refine fx_gs (a := 0) (v := 0) aj_d50 rfl (Nat.le_succ _) rfl (kd := 0) (n := 2) rfl (by decide) (fun hA10 => ?_)
        exact fx_ra aj_d50 rfl ⟨some _, rfl, 0, rfl, rfl⟩
      · skip
        refine fx_qe (c := (p0).toInt = 140) q9 ?_
        by_cases q11 : (p0).toInt = 141
        · skip
          refine fx_qi (c := (p0).toInt = 141) q11 ?_
          refine fx_ts (tgt := 68) aj_d50 rfl (Nat.le_succ _) q11 (by decide) rfl rfl ?_
          show fx_W _ _ _ 68 lv1 [] _ _
          refine fx_i0 aj_d50 rfl (Nat.le_succ _) (fun _ => rfl) hlv1_1 ?_
          refine fx_n (pc' := 71) (lv' := lv1) (st' := [.int ((Int8.ofInt 38).toInt32), .int p1]) aj_d50 rfl (Nat.le_succ _) (fun _ => rfl) ?_
          refine fx_b (tgt := 80) aj_d50 rfl (Nat.le_succ _) rfl (fun q12 => ?_) (fun q12 => ?_)
          · skip
            refine fx_qe (c := (p1).toInt = 38) (fx_t_ne q12) ?_
            show fx_W _ _ _ 80 lv1 [] _ _
            refine fx_gs (a := 0) (v := 0) aj_d50 rfl (Nat.le_succ _) rfl (kd := 0) (n := 0) rfl (by decide) (fun hA13 => ?_)
            exact fx_ra aj_d50 rfl ⟨some _, rfl, 0, rfl, rfl⟩
          · skip
            refine fx_qi (c := (p1).toInt = 38) (fx_f_ne q12) ?_
            show fx_W _ _ _ 74 lv1 [] _ _
            refine fx_gs (a := 0) (v := 0) aj_d50 rfl (Nat.le_succ _) rfl (kd := 0) (n := 4) rfl (by decide) (fun hA14 => ?_)
            refine fx_n (pc' := 83) (lv' := lv1) (st' := [.ref 19]) aj_d50 rfl (Nat.le_succ _) (fun _ => rfl) ?_
            exact fx_ra aj_d50 rfl ⟨some _, rfl, 0, rfl, rfl⟩
        · skip
          refine fx_qe (c := (p0).toInt = 141) q11 ?_
          by_cases q15 : (p0).toInt = 142
          · skip
            refine fx_qi (c := (p0).toInt = 142) q15 ?_
            refine fx_ts (tgt := 84) aj_d50 rfl (Nat.le_succ _) q15 (by decide) rfl rfl ?_
            show fx_W _ _ _ 84 lv1 [] _ _
            refine fx_i0 aj_d50 rfl (Nat.le_succ _) (fun _ => rfl) hlv1_1 ?_
            refine fx_n (pc' := 87) (lv' := lv1) (st' := [.int ((Int8.ofInt 33).toInt32), .int p1]) aj_d50 rfl (Nat.le_succ _) (fun _ => rfl) ?_
            refine fx_b (tgt := 96) aj_d50 rfl (Nat.le_succ _) rfl (fun q16 => ?_) (fun q16 => ?_)
            · skip
              refine fx_qe (c := (p1).toInt = 33) (fx_t_ne q16) ?_
              show fx_W _ _ _ 96 lv1 [] _ _
              refine fx_i0 aj_d50 rfl (Nat.le_succ _) (fun _ => rfl) hlv1_1 ?_
              refine fx_n (pc' := 99) (lv' := lv1) (st' := [.int ((Int8.ofInt 40).toInt32), .int p1]) aj_d50 rfl (Nat.le_succ _) (fun _ => rfl) ?_
              refine fx_b (tgt := 108) aj_d50 rfl (Nat.le_succ _) rfl (fun q17 => ?_) (fun q17 => ?_)
              · skip
                refine fx_qe (c := (p1).toInt = 40) (fx_t_ne q17) ?_
                show fx_W _ _ _ 108 lv1 [] _ _
                refine fx_gs (a := 0) (v := 0) aj_d50 rfl (Nat.le_succ _) rfl (kd := 0) (n := 4) rfl (by decide) (fun hA18 => ?_)
                exact fx_ra aj_d50 rfl ⟨some _, rfl, 0, rfl, rfl⟩
              · skip
                refine fx_qi (c := (p1).toInt = 40) (fx_f_ne q17) ?_
                show fx_W _ _ _ 102 lv1 [] _ _
                refine fx_gs (a := 0) (v := 0) aj_d50 rfl (Nat.le_succ _) rfl (kd := 0) (n := 5) rfl (by decide) (fun hA19 => ?_)
                refine fx_n (pc' := 111) (lv' := lv1) (st' := [.ref 21]) aj_d50 rfl (Nat.le_succ _) (fun _ => rfl) ?_
                exact fx_ra aj_d50 rfl ⟨some _, rfl, 0, rfl, rfl⟩
            · skip
              refine fx_qi (c := (p1).toInt = 33) (fx_f_ne q16) ?_
              show fx_W _ _ _ 90 lv1 [] _ _
              refine fx_gs (a := 0) (v := 0) aj_d50 rfl (Nat.le_succ _) rfl (kd := 0) (n := 5) rfl (by decide) (fun hA20 => ?_)
              refine fx_n (pc' := 111) (lv' := lv1) (st' := [.ref 20]) aj_d50 rfl (Nat.le_succ _) (fun _ => rfl) ?_
              exact fx_ra aj_d50 rfl ⟨some _, rfl, 0, rfl, rfl⟩
          · skip
            refine fx_qe (c := (p0).toInt = 142) q15 ?_
            by_cases q21 : (p0).toInt = 143
            · skip
              refine fx_qi (c := (p0).toInt = 143) q21 ?_
              refine fx_ts (tgt := 112) aj_d50 rfl (Nat.le_succ _) q21 (by decide) rfl rfl ?_
              show fx_W _ _ _ 112 lv1 [] _ _
              refine fx_i0 aj_d50 rfl (Nat.le_succ _) (fun _ => rfl) hlv1_1 ?_
              refine fx_cs aj_d50 rfl (Nat.le_succ _) rfl rfl [_] rfl rfl (gx_51_ok p1) ?_
              rintro _ X22 ⟨w23, rfl, hR22⟩ hok22 hle22
              refine fx_qc hR22 ?_
              rcases w23 with _ | w23b
              · skip
                refine fx_o1 (fx_qa rfl ?_)
                show fx_W _ _ _ 116 lv1 [.null] _ _
                exact fx_ra0 aj_d50 rfl ⟨none, rfl, 0, rfl, rfl⟩
              · skip
                refine fx_o2 (fx_qs rfl ?_)
                show fx_W _ _ _ 116 lv1 [.ref w23b] _ _
                exact fx_ra aj_d50 rfl ⟨some _, rfl, 0, rfl, rfl⟩
            · skip
              refine fx_qe (c := (p0).toInt = 143) q21 ?_
              by_cases q24 : (p0).toInt = 144
              · skip
                refine fx_qi (c := (p0).toInt = 144) q24 ?_
                refine fx_ts (tgt := 117) aj_d50 rfl (Nat.le_succ _) q24 (by decide) rfl rfl ?_
                show fx_W _ _ _ 117 lv1 [] _ _
                refine fx_i0 aj_d50 rfl (Nat.le_succ _) (fun _ => rfl) hlv1_1 ?_
                refine fx_n (pc' := 120) (lv' := lv1) (st' := [.int ((Int8.ofInt 63).toInt32), .int p1]) aj_d50 rfl (Nat.le_succ _) (fun _ => rfl) ?_
                refine fx_b (tgt := 129) aj_d50 rfl (Nat.le_succ _) rfl (fun q25 => ?_) (fun q25 => ?_)
                · skip
                  refine fx_qe (c := (p1).toInt = 63) (fx_t_ne q25) ?_
                  show fx_W _ _ _ 129 lv1 [] _ _
                  refine fx_i0 aj_d50 rfl (Nat.le_succ _) (fun _ => rfl) hlv1_1 ?_
                  refine fx_n (pc' := 132) (lv' := lv1) (st' := [.int ((Int8.ofInt 45).toInt32), .int p1]) aj_d50 rfl (Nat.le_succ _) (fun _ => rfl) ?_
                  refine fx_b (tgt := 141) aj_d50 rfl (Nat.le_succ _) rfl (fun q26 => ?_) (fun q26 => ?_)
                  · skip
                    refine fx_qe (c := (p1).toInt = 45) (fx_t_ne q26) ?_
                    show fx_W _ _ _ 141 lv1 [] _ _
                    refine fx_i0 aj_d50 rfl (Nat.le_succ _) (fun _ => rfl) hlv1_1 ?_
                    refine fx_n (pc' := 143) (lv' := lv1) (st' := [.int (Int32.ofInt 4), .int p1]) aj_d50 rfl (Nat.le_succ _) (fun _ => rfl) ?_
                    refine fx_b (tgt := 152) aj_d50 rfl (Nat.le_succ _) rfl (fun q27 => ?_) (fun q27 => ?_)
                    · skip
                      refine fx_qe (c := (p1).toInt = 4) (fx_t_ne q27) ?_
                      show fx_W _ _ _ 152 lv1 [] _ _
                      refine fx_n (pc' := 153) (lv' := lv1) (st' := [.null]) aj_d50 rfl (Nat.le_succ _) (fun _ => rfl) ?_
                      exact fx_ra0 aj_d50 rfl ⟨none, rfl, 0, rfl, rfl⟩
                    · skip
                      refine fx_qi (c := (p1).toInt = 4) (fx_f_ne q27) ?_
                      show fx_W _ _ _ 146 lv1 [] _ _
                      refine fx_gs (a := 0) (v := 0) aj_d50 rfl (Nat.le_succ _) rfl (kd := 0) (n := 2) rfl (by decide) (fun hA28 => ?_)
                      refine fx_n (pc' := 153) (lv' := lv1) (st' := [.ref 29]) aj_d50 rfl (Nat.le_succ _) (fun _ => rfl) ?_
                      exact fx_ra aj_d50 rfl ⟨some _, rfl, 0, rfl, rfl⟩
                  · skip
                    refine fx_qi (c := (p1).toInt = 45) (fx_f_ne q26) ?_
                    show fx_W _ _ _ 135 lv1 [] _ _
                    refine fx_gs (a := 0) (v := 0) aj_d50 rfl (Nat.le_succ _) rfl (kd := 0) (n := 3) rfl (by decide) (fun hA29 => ?_)
                    refine fx_n (pc' := 153) (lv' := lv1) (st' := [.ref 28]) aj_d50 rfl (Nat.le_succ _) (fun _ => rfl) ?_
                    exact fx_ra aj_d50 rfl ⟨some _, rfl, 0, rfl, rfl⟩
                · skip
                  refine fx_qi (c := (p1).toInt = 63) (fx_f_ne q25) ?_
                  show fx_W _ _ _ 123 lv1 [] _ _
                  refine fx_gs (a := 0) (v := 0) aj_d50 rfl (Nat.le_succ _) rfl (kd := 0) (n := 3) rfl (by decide) (fun hA30 => ?_)
                  refine fx_n (pc' := 153) (lv' := lv1) (st' := [.ref 27]) aj_d50 rfl (Nat.le_succ _) (fun _ => rfl) ?_
                  exact fx_ra aj_d50 rfl ⟨some _, rfl, 0, rfl, rfl⟩
              · skip
                refine fx_qe (c := (p0).toInt = 144) q24 ?_
                refine fx_td (tgt := 154) aj_d50 rfl (Nat.le_succ _) (by omega) rfl ?_
                show fx_W _ _ _ 154 lv1 [] _ _
                refine fx_n (pc' := 155) (lv' := lv1) (st' := [.null]) aj_d50 rfl (Nat.le_succ _) (fun _ => rfl) ?_
                exact fx_ra0 aj_d50 rfl ⟨none, rfl, 0, rfl, rfl⟩
def gx_49 (p0 : Int32) (p1 : Int32) (X : fx_X) (v : (Option Nat)) (X' : fx_X) : Prop :=
  (if (p0).toInt = 131 then ((if (p1).toInt = 45 then (v = some 7 ∧ X' = X) else ((if (p1).toInt = 4 then (v = some 8 ∧ X' = X) else (v = none ∧ X' = X))))) else ((if (p0).toInt = 132 then ((if (p1).toInt = 5 then (v = some 11 ∧ X' = X) else ((if (p1).toInt = 44 then (v = some 12 ∧ X' = X) else (v = some 6 ∧ X' = X))))) else ((if (p0).toInt = 133 then ((if (p1).toInt = 44 then (v = some 12 ∧ X' = X) else (v = some 6 ∧ X' = X))) else ((if (p0).toInt = 134 then ((if (p1).toInt = 45 then (v = some 9 ∧ X' = X) else ((if (p1).toInt = 4 then (v = some 10 ∧ X' = X) else (v = none ∧ X' = X))))) else ((if (p0).toInt = 135 then ((if (p1).toInt = 44 then (v = some 13 ∧ X' = X) else (v = some 6 ∧ X' = X))) else ((if (p0).toInt = 136 then ((if (p1).toInt = 44 then (v = some 14 ∧ X' = X) else (v = some 6 ∧ X' = X))) else ((if (p0).toInt = 137 then ((if (p1).toInt = 13 then (v = some 15 ∧ X' = X) else (v = some 6 ∧ X' = X))) else (v = none ∧ X' = X))))))))))))))
theorem gx_49_ok {tb : aj_T} (p0 : Int32) (p1 : Int32) {X : fx_X} : fx_K tb 49 [.int p0, .int p1] X (fx_Q fx_qR (fun v X' => gx_49 p0 p1 X v X')) := by
  refine fx_m aj_m49_at rfl (fun N => ?_)
  refine fx_mono (Q := fx_Q fx_qR (fun v X' => ∃ n : Nat, gx_49 p0 p1 X v X')) (fun r X' ⟨v, e, _, z⟩ => ⟨v, e, z⟩) ?_
  unfold gx_49
  show fx_W _ _ _ 0 [(0, .int p0), (1, .int p1)] [] _ _
  obtain ⟨lv1, elv1⟩ : ∃ l : aj_V, l = [(0, .int p0), (1, .int p1)] := ⟨_, rfl⟩
  rw [← elv1]
  have hlv1_0 : aj_lv lv1 0 = some (.int p0) := by rw [elv1]; rfl
  have hlv1_1 : aj_lv lv1 1 = some (.int p1) := by rw [elv1]; rfl
  refine fx_i0 aj_d49 rfl (Nat.le_succ _) (fun _ => rfl) hlv1_0 ?_
  by_cases q3 : (p0).toInt = 131
  · skip
    refine fx_qi (c := (p0).toInt = 131) q3 ?_
    refine fx_ts (tgt := 44) aj_d49 rfl (Nat.le_succ _) q3 (by decide) rfl rfl ?_
    show fx_W _ _ _ 44 lv1 [] _ _
    refine fx_i0 aj_d49 rfl (Nat.le_succ _) (fun _ => rfl) hlv1_1 ?_
    refine fx_n (pc' := 47) (lv' := lv1) (st' := [.int ((Int8.ofInt 45).toInt32), .int p1]) aj_d49 rfl (Nat.le_succ _) (fun _ => rfl) ?_
    refine fx_b (tgt := 56) aj_d49 rfl (Nat.le_succ _) rfl (fun q4 => ?_) (fun q4 => ?_)
    · skip
      refine fx_qe (c := (p1).toInt = 45) (fx_t_ne q4) ?_
      show fx_W _ _ _ 56 lv1 [] _ _
      refine fx_i0 aj_d49 rfl (Nat.le_succ _) (fun _ => rfl) hlv1_1 ?_
      refine fx_n (pc' := 58) (lv' := lv1) (st' := [.int (Int32.ofInt 4), .int p1]) aj_d49 rfl (Nat.le_succ _) (fun _ => rfl) ?_
      refine fx_b (tgt := 67) aj_d49 rfl (Nat.le_succ _) rfl (fun q5 => ?_) (fun q5 => ?_)
      · skip
        refine fx_qe (c := (p1).toInt = 4) (fx_t_ne q5) ?_
        show fx_W _ _ _ 67 lv1 [] _ _
        refine fx_n (pc' := 68) (lv' := lv1) (st' := [.null]) aj_d49 rfl (Nat.le_succ _) (fun _ => rfl) ?_
        exact fx_ra0 aj_d49 rfl ⟨none, rfl, 0, rfl, rfl⟩
      · skip
        refine fx_qi (c := (p1).toInt = 4) (fx_f_ne q5) ?_
        show fx_W _ _ _ 61 lv1 [] _ _
        refine fx_gs (a := 0) (v := 0) aj_d49 rfl (Nat.le_succ _) rfl (kd := 0) (n := 2) rfl (by decide) (fun hA6 => ?_)
        refine fx_n (pc' := 68) (lv' := lv1) (st' := [.ref 8]) aj_d49 rfl (Nat.le_succ _) (fun _ => rfl) ?_
        exact fx_ra aj_d49 rfl ⟨some _, rfl, 0, rfl, rfl⟩
    · skip
      refine fx_qi (c := (p1).toInt = 45) (fx_f_ne q4) ?_
      show fx_W _ _ _ 50 lv1 [] _ _
      refine fx_gs (a := 0) (v := 0) aj_d49 rfl (Nat.le_succ _) rfl (kd := 0) (n := 3) rfl (by decide) (fun hA7 => ?_)
      refine fx_n (pc' := 68) (lv' := lv1) (st' := [.ref 7]) aj_d49 rfl (Nat.le_succ _) (fun _ => rfl) ?_
      exact fx_ra aj_d49 rfl ⟨some _, rfl, 0, rfl, rfl⟩
  · skip
    refine fx_qe (c := (p0).toInt = 131) q3 ?_
    by_cases q8 : (p0).toInt = 132
    · skip
      refine fx_qi (c := (p0).toInt = 132) q8 ?_
      refine fx_ts (tgt := 94) aj_d49 rfl (Nat.le_succ _) q8 (by decide) rfl rfl ?_
      show fx_W _ _ _ 94 lv1 [] _ _
      refine fx_i0 aj_d49 rfl (Nat.le_succ _) (fun _ => rfl) hlv1_1 ?_
      refine fx_n (pc' := 96) (lv' := lv1) (st' := [.int (Int32.ofInt 5), .int p1]) aj_d49 rfl (Nat.le_succ _) (fun _ => rfl) ?_
      refine fx_b (tgt := 105) aj_d49 rfl (Nat.le_succ _) rfl (fun q9 => ?_) (fun q9 => ?_)
      · skip
        refine fx_qe (c := (p1).toInt = 5) (fx_t_ne q9) ?_
        show fx_W _ _ _ 105 lv1 [] _ _
        refine fx_i0 aj_d49 rfl (Nat.le_succ _) (fun _ => rfl) hlv1_1 ?_
        refine fx_n (pc' := 108) (lv' := lv1) (st' := [.int ((Int8.ofInt 44).toInt32), .int p1]) aj_d49 rfl (Nat.le_succ _) (fun _ => rfl) ?_
        refine fx_b (tgt := 117) aj_d49 rfl (Nat.le_succ _) rfl (fun q10 => ?_) (fun q10 => ?_)
        · skip
          refine fx_qe (c := (p1).toInt = 44) (fx_t_ne q10) ?_
          show fx_W _ _ _ 117 lv1 [] _ _
          refine fx_gs (a := 0) (v := 0) aj_d49 rfl (Nat.le_succ _) rfl (kd := 0) (n := 0) rfl (by decide) (fun hA11 => ?_)
          exact fx_ra aj_d49 rfl ⟨some _, rfl, 0, rfl, rfl⟩
        · skip
          refine fx_qi (c := (p1).toInt = 44) (fx_f_ne q10) ?_
          show fx_W _ _ _ 111 lv1 [] _ _
          refine fx_gs (a := 0) (v := 0) aj_d49 rfl (Nat.le_succ _) rfl (kd := 0) (n := 3) rfl (by decide) (fun hA12 => ?_)
          refine fx_n (pc' := 120) (lv' := lv1) (st' := [.ref 12]) aj_d49 rfl (Nat.le_succ _) (fun _ => rfl) ?_
          exact fx_ra aj_d49 rfl ⟨some _, rfl, 0, rfl, rfl⟩
      · skip
        refine fx_qi (c := (p1).toInt = 5) (fx_f_ne q9) ?_
        show fx_W _ _ _ 99 lv1 [] _ _
        refine fx_gs (a := 0) (v := 0) aj_d49 rfl (Nat.le_succ _) rfl (kd := 0) (n := 2) rfl (by decide) (fun hA13 => ?_)
        refine fx_n (pc' := 120) (lv' := lv1) (st' := [.ref 11]) aj_d49 rfl (Nat.le_succ _) (fun _ => rfl) ?_
        exact fx_ra aj_d49 rfl ⟨some _, rfl, 0, rfl, rfl⟩
    · skip
      refine fx_qe (c := (p0).toInt = 132) q8 ?_
      by_cases q14 : (p0).toInt = 133
      · skip
        refine fx_qi (c := (p0).toInt = 133) q14 ?_
        refine fx_ts (tgt := 121) aj_d49 rfl (Nat.le_succ _) q14 (by decide) rfl rfl ?_
        show fx_W _ _ _ 121 lv1 [] _ _
        refine fx_i0 aj_d49 rfl (Nat.le_succ _) (fun _ => rfl) hlv1_1 ?_
        refine fx_n (pc' := 124) (lv' := lv1) (st' := [.int ((Int8.ofInt 44).toInt32), .int p1]) aj_d49 rfl (Nat.le_succ _) (fun _ => rfl) ?_
        refine fx_b (tgt := 133) aj_d49 rfl (Nat.le_succ _) rfl (fun q15 => ?_) (fun q15 => ?_)
        · skip
          refine fx_qe (c := (p1).toInt = 44) (fx_t_ne q15) ?_
          show fx_W _ _ _ 133 lv1 [] _ _
          refine fx_gs (a := 0) (v := 0) aj_d49 rfl (Nat.le_succ _) rfl (kd := 0) (n := 0) rfl (by decide) (fun hA16 => ?_)
          exact fx_ra aj_d49 rfl ⟨some _, rfl, 0, rfl, rfl⟩
        · skip
          refine fx_qi (c := (p1).toInt = 44) (fx_f_ne q15) ?_
          show fx_W _ _ _ 127 lv1 [] _ _
          refine fx_gs (a := 0) (v := 0) aj_d49 rfl (Nat.le_succ _) rfl (kd := 0) (n := 3) rfl (by decide) (fun hA17 => ?_)
          refine fx_n (pc' := 136) (lv' := lv1) (st' := [.ref 12]) aj_d49 rfl (Nat.le_succ _) (fun _ => rfl) ?_
          exact fx_ra aj_d49 rfl ⟨some _, rfl, 0, rfl, rfl⟩
      · skip
        refine fx_qe (c := (p0).toInt = 133) q14 ?_
        by_cases q18 : (p0).toInt = 134
        · skip
          refine fx_qi (c := (p0).toInt = 134) q18 ?_
          refine fx_ts (tgt := 69) aj_d49 rfl (Nat.le_succ _) q18 (by decide) rfl rfl ?_
          show fx_W _ _ _ 69 lv1 [] _ _
          refine fx_i0 aj_d49 rfl (Nat.le_succ _) (fun _ => rfl) hlv1_1 ?_
          refine fx_n (pc' := 72) (lv' := lv1) (st' := [.int ((Int8.ofInt 45).toInt32), .int p1]) aj_d49 rfl (Nat.le_succ _) (fun _ => rfl) ?_
          refine fx_b (tgt := 81) aj_d49 rfl (Nat.le_succ _) rfl (fun q19 => ?_) (fun q19 => ?_)
          · skip
            refine fx_qe (c := (p1).toInt = 45) (fx_t_ne q19) ?_
            show fx_W _ _ _ 81 lv1 [] _ _
            refine fx_i0 aj_d49 rfl (Nat.le_succ _) (fun _ => rfl) hlv1_1 ?_
            refine fx_n (pc' := 83) (lv' := lv1) (st' := [.int (Int32.ofInt 4), .int p1]) aj_d49 rfl (Nat.le_succ _) (fun _ => rfl) ?_
            refine fx_b (tgt := 92) aj_d49 rfl (Nat.le_succ _) rfl (fun q20 => ?_) (fun q20 => ?_)
            · skip
              refine fx_qe (c := (p1).toInt = 4) (fx_t_ne q20) ?_
              show fx_W _ _ _ 92 lv1 [] _ _
              refine fx_n (pc' := 93) (lv' := lv1) (st' := [.null]) aj_d49 rfl (Nat.le_succ _) (fun _ => rfl) ?_
              exact fx_ra0 aj_d49 rfl ⟨none, rfl, 0, rfl, rfl⟩
            · skip
              refine fx_qi (c := (p1).toInt = 4) (fx_f_ne q20) ?_
              show fx_W _ _ _ 86 lv1 [] _ _
              refine fx_gs (a := 0) (v := 0) aj_d49 rfl (Nat.le_succ _) rfl (kd := 0) (n := 2) rfl (by decide) (fun hA21 => ?_)
              refine fx_n (pc' := 93) (lv' := lv1) (st' := [.ref 10]) aj_d49 rfl (Nat.le_succ _) (fun _ => rfl) ?_
              exact fx_ra aj_d49 rfl ⟨some _, rfl, 0, rfl, rfl⟩
          · skip
            refine fx_qi (c := (p1).toInt = 45) (fx_f_ne q19) ?_
            show fx_W _ _ _ 75 lv1 [] _ _
            refine fx_gs (a := 0) (v := 0) aj_d49 rfl (Nat.le_succ _) rfl (kd := 0) (n := 3) rfl (by decide) (fun hA22 => ?_)
            refine fx_n (pc' := 93) (lv' := lv1) (st' := [.ref 9]) aj_d49 rfl (Nat.le_succ _) (fun _ => rfl) ?_
            exact fx_ra aj_d49 rfl ⟨some _, rfl, 0, rfl, rfl⟩
        · skip
          refine fx_qe (c := (p0).toInt = 134) q18 ?_
          by_cases q23 : (p0).toInt = 135
          · skip
            refine fx_qi (c := (p0).toInt = 135) q23 ?_
            refine fx_ts (tgt := 137) aj_d49 rfl (Nat.le_succ _) q23 (by decide) rfl rfl ?_
            show fx_W _ _ _ 137 lv1 [] _ _
            refine fx_i0 aj_d49 rfl (Nat.le_succ _) (fun _ => rfl) hlv1_1 ?_
            refine fx_n (pc' := 140) (lv' := lv1) (st' := [.int ((Int8.ofInt 44).toInt32), .int p1]) aj_d49 rfl (Nat.le_succ _) (fun _ => rfl) ?_
            refine fx_b (tgt := 149) aj_d49 rfl (Nat.le_succ _) rfl (fun q24 => ?_) (fun q24 => ?_)
            · skip
              refine fx_qe (c := (p1).toInt = 44) (fx_t_ne q24) ?_
              show fx_W _ _ _ 149 lv1 [] _ _
              refine fx_gs (a := 0) (v := 0) aj_d49 rfl (Nat.le_succ _) rfl (kd := 0) (n := 0) rfl (by decide) (fun hA25 => ?_)
              exact fx_ra aj_d49 rfl ⟨some _, rfl, 0, rfl, rfl⟩
            · skip
              refine fx_qi (c := (p1).toInt = 44) (fx_f_ne q24) ?_
              show fx_W _ _ _ 143 lv1 [] _ _
              refine fx_gs (a := 0) (v := 0) aj_d49 rfl (Nat.le_succ _) rfl (kd := 0) (n := 4) rfl (by decide) (fun hA26 => ?_)
              refine fx_n (pc' := 152) (lv' := lv1) (st' := [.ref 13]) aj_d49 rfl (Nat.le_succ _) (fun _ => rfl) ?_
              exact fx_ra aj_d49 rfl ⟨some _, rfl, 0, rfl, rfl⟩
          · skip
            refine fx_qe (c := (p0).toInt = 135) q23 ?_
            by_cases q27 : (p0).toInt = 136
            · skip
              refine fx_qi (c := (p0).toInt = 136) q27 ?_
              refine fx_ts (tgt := 153) aj_d49 rfl (Nat.le_succ _) q27 (by decide) rfl rfl ?_
              show fx_W _ _ _ 153 lv1 [] _ _
              refine fx_i0 aj_d49 rfl (Nat.le_succ _) (fun _ => rfl) hlv1_1 ?_
              refine fx_n (pc' := 156) (lv' := lv1) (st' := [.int ((Int8.ofInt 44).toInt32), .int p1]) aj_d49 rfl (Nat.le_succ _) (fun _ => rfl) ?_
              refine fx_b (tgt := 165) aj_d49 rfl (Nat.le_succ _) rfl (fun q28 => ?_) (fun q28 => ?_)
              · skip
                refine fx_qe (c := (p1).toInt = 44) (fx_t_ne q28) ?_
                show fx_W _ _ _ 165 lv1 [] _ _
                refine fx_gs (a := 0) (v := 0) aj_d49 rfl (Nat.le_succ _) rfl (kd := 0) (n := 0) rfl (by decide) (fun hA29 => ?_)
                exact fx_ra aj_d49 rfl ⟨some _, rfl, 0, rfl, rfl⟩
              · skip
                refine fx_qi (c := (p1).toInt = 44) (fx_f_ne q28) ?_
                show fx_W _ _ _ 159 lv1 [] _ _
                refine fx_gs (a := 0) (v := 0) aj_d49 rfl (Nat.le_succ _) rfl (kd := 0) (n := 4) rfl (by decide) (fun hA30 => ?_)
                refine fx_n (pc' := 168) (lv' := lv1) (st' := [.ref 14]) aj_d49 rfl (Nat.le_succ _) (fun _ => rfl) ?_
                exact fx_ra aj_d49 rfl ⟨some _, rfl, 0, rfl, rfl⟩
            · skip
              refine fx_qe (c := (p0).toInt = 136) q27 ?_
              by_cases q31 : (p0).toInt = 137
              · skip
                refine fx_qi (c := (p0).toInt = 137) q31 ?_
                refine fx_ts (tgt := 169) aj_d49 rfl (Nat.le_succ _) q31 (by decide) rfl rfl ?_
                show fx_W _ _ _ 169 lv1 [] _ _
                refine fx_i0 aj_d49 rfl (Nat.le_succ _) (fun _ => rfl) hlv1_1 ?_
                refine fx_n (pc' := 172) (lv' := lv1) (st' := [.int ((Int8.ofInt 13).toInt32), .int p1]) aj_d49 rfl (Nat.le_succ _) (fun _ => rfl) ?_
                refine fx_b (tgt := 181) aj_d49 rfl (Nat.le_succ _) rfl (fun q32 => ?_) (fun q32 => ?_)
                · skip
                  refine fx_qe (c := (p1).toInt = 13) (fx_t_ne q32) ?_
                  show fx_W _ _ _ 181 lv1 [] _ _
                  refine fx_gs (a := 0) (v := 0) aj_d49 rfl (Nat.le_succ _) rfl (kd := 0) (n := 0) rfl (by decide) (fun hA33 => ?_)
                  exact fx_ra aj_d49 rfl ⟨some _, rfl, 0, rfl, rfl⟩
                · skip
                  refine fx_qi (c := (p1).toInt = 13) (fx_f_ne q32) ?_
                  show fx_W _ _ _ 175 lv1 [] _ _
                  refine fx_gs (a := 0) (v := 0) aj_d49 rfl (Nat.le_succ _) rfl (kd := 0) (n := 3) rfl (by decide) (fun hA34 => ?_)
                  refine fx_n (pc' := 184) (lv' := lv1) (st' := [.ref 15]) aj_d49 rfl (Nat.le_succ _) (fun _ => rfl) ?_
                  exact fx_ra aj_d49 rfl ⟨some _, rfl, 0, rfl, rfl⟩
              · skip
                refine fx_qe (c := (p0).toInt = 137) q31 ?_
                refine fx_td (tgt := 185) aj_d49 rfl (Nat.le_succ _) (by omega) rfl ?_
                show fx_W _ _ _ 185 lv1 [] _ _
                refine fx_n (pc' := 186) (lv' := lv1) (st' := [.null]) aj_d49 rfl (Nat.le_succ _) (fun _ => rfl) ?_
                exact fx_ra0 aj_d49 rfl ⟨none, rfl, 0, rfl, rfl⟩
def gx_48 (p0 : Int32) (X : fx_X) (v : (Option Nat)) (X' : fx_X) : Prop :=
  (if (p0).toInt = 1 then (v = some 6 ∧ X' = X) else ((if (p0).toInt = 10 then (v = some 1 ∧ X' = X) else ((if (p0).toInt = 11 then (v = some 2 ∧ X' = X) else ((if (p0).toInt = 12 then (v = some 3 ∧ X' = X) else ((if (p0).toInt = 14 then (v = some 4 ∧ X' = X) else ((if (p0).toInt = 15 then (v = some 5 ∧ X' = X) else (v = none ∧ X' = X))))))))))))
theorem gx_48_ok {tb : aj_T} (p0 : Int32) {X : fx_X} : fx_K tb 48 [.int p0] X (fx_Q fx_qR (fun v X' => gx_48 p0 X v X')) := by
  refine fx_m aj_m48_at rfl (fun N => ?_)
  refine fx_mono (Q := fx_Q fx_qR (fun v X' => ∃ n : Nat, gx_48 p0 X v X')) (fun r X' ⟨v, e, _, z⟩ => ⟨v, e, z⟩) ?_
  unfold gx_48
  show fx_W _ _ _ 0 [(0, .int p0)] [] _ _
  obtain ⟨lv1, elv1⟩ : ∃ l : aj_V, l = [(0, .int p0)] := ⟨_, rfl⟩
  rw [← elv1]
  have hlv1_0 : aj_lv lv1 0 = some (.int p0) := by rw [elv1]; rfl
  refine fx_i0 aj_d48 rfl (Nat.le_succ _) (fun _ => rfl) hlv1_0 ?_
  by_cases q3 : (p0).toInt = 1
  · skip
    refine fx_qi (c := (p0).toInt = 1) q3 ?_
    refine fx_ts (tgt := 96) aj_d48 rfl (Nat.le_succ _) q3 (by decide) rfl rfl ?_
    show fx_W _ _ _ 96 lv1 [] _ _
    refine fx_gs (a := 0) (v := 0) aj_d48 rfl (Nat.le_succ _) rfl (kd := 0) (n := 0) rfl (by decide) (fun hA4 => ?_)
    exact fx_ra aj_d48 rfl ⟨some _, rfl, 0, rfl, rfl⟩
  · skip
    refine fx_qe (c := (p0).toInt = 1) q3 ?_
    by_cases q5 : (p0).toInt = 10
    · skip
      refine fx_qi (c := (p0).toInt = 10) q5 ?_
      refine fx_ts (tgt := 76) aj_d48 rfl (Nat.le_succ _) q5 (by decide) rfl rfl ?_
      show fx_W _ _ _ 76 lv1 [] _ _
      refine fx_gs (a := 0) (v := 0) aj_d48 rfl (Nat.le_succ _) rfl (kd := 0) (n := 9) rfl (by decide) (fun hA6 => ?_)
      exact fx_ra aj_d48 rfl ⟨some _, rfl, 0, rfl, rfl⟩
    · skip
      refine fx_qe (c := (p0).toInt = 10) q5 ?_
      by_cases q7 : (p0).toInt = 11
      · skip
        refine fx_qi (c := (p0).toInt = 11) q7 ?_
        refine fx_ts (tgt := 80) aj_d48 rfl (Nat.le_succ _) q7 (by decide) rfl rfl ?_
        show fx_W _ _ _ 80 lv1 [] _ _
        refine fx_gs (a := 0) (v := 0) aj_d48 rfl (Nat.le_succ _) rfl (kd := 0) (n := 10) rfl (by decide) (fun hA8 => ?_)
        exact fx_ra aj_d48 rfl ⟨some _, rfl, 0, rfl, rfl⟩
      · skip
        refine fx_qe (c := (p0).toInt = 11) q7 ?_
        by_cases q9 : (p0).toInt = 12
        · skip
          refine fx_qi (c := (p0).toInt = 12) q9 ?_
          refine fx_ts (tgt := 84) aj_d48 rfl (Nat.le_succ _) q9 (by decide) rfl rfl ?_
          show fx_W _ _ _ 84 lv1 [] _ _
          refine fx_gs (a := 0) (v := 0) aj_d48 rfl (Nat.le_succ _) rfl (kd := 0) (n := 11) rfl (by decide) (fun hA10 => ?_)
          exact fx_ra aj_d48 rfl ⟨some _, rfl, 0, rfl, rfl⟩
        · skip
          refine fx_qe (c := (p0).toInt = 12) q9 ?_
          by_cases q11 : (p0).toInt = 14
          · skip
            refine fx_qi (c := (p0).toInt = 14) q11 ?_
            refine fx_ts (tgt := 88) aj_d48 rfl (Nat.le_succ _) q11 (by decide) rfl rfl ?_
            show fx_W _ _ _ 88 lv1 [] _ _
            refine fx_gs (a := 0) (v := 0) aj_d48 rfl (Nat.le_succ _) rfl (kd := 0) (n := 6) rfl (by decide) (fun hA12 => ?_)
            exact fx_ra aj_d48 rfl ⟨some _, rfl, 0, rfl, rfl⟩
          · skip
            refine fx_qe (c := (p0).toInt = 14) q11 ?_
            by_cases q13 : (p0).toInt = 15
            · skip
              refine fx_qi (c := (p0).toInt = 15) q13 ?_
              refine fx_ts (tgt := 92) aj_d48 rfl (Nat.le_succ _) q13 (by decide) rfl rfl ?_
              show fx_W _ _ _ 92 lv1 [] _ _
              refine fx_gs (a := 0) (v := 0) aj_d48 rfl (Nat.le_succ _) rfl (kd := 0) (n := 8) rfl (by decide) (fun hA14 => ?_)
              exact fx_ra aj_d48 rfl ⟨some _, rfl, 0, rfl, rfl⟩
            · skip
              refine fx_qe (c := (p0).toInt = 15) q13 ?_
              by_cases q15 : (p0).toInt = 2
              · refine fx_ts (tgt := 100) aj_d48 rfl (Nat.le_succ _) q15 (by decide) rfl rfl ?_
                show fx_W _ _ _ 100 lv1 [] _ _
                refine fx_n (pc' := 101) (lv' := lv1) (st' := [.null]) aj_d48 rfl (Nat.le_succ _) (fun _ => rfl) ?_
                exact fx_ra0 aj_d48 rfl ⟨none, rfl, 0, rfl, rfl⟩
              · skip
                by_cases q16 : (p0).toInt = 3
                · refine fx_ts (tgt := 100) aj_d48 rfl (Nat.le_succ _) q16 (by decide) rfl rfl ?_
                  show fx_W _ _ _ 100 lv1 [] _ _
                  refine fx_n (pc' := 101) (lv' := lv1) (st' := [.null]) aj_d48 rfl (Nat.le_succ _) (fun _ => rfl) ?_
                  exact fx_ra0 aj_d48 rfl ⟨none, rfl, 0, rfl, rfl⟩
                · skip
                  by_cases q17 : (p0).toInt = 4
                  · refine fx_ts (tgt := 100) aj_d48 rfl (Nat.le_succ _) q17 (by decide) rfl rfl ?_
                    show fx_W _ _ _ 100 lv1 [] _ _
                    refine fx_n (pc' := 101) (lv' := lv1) (st' := [.null]) aj_d48 rfl (Nat.le_succ _) (fun _ => rfl) ?_
                    exact fx_ra0 aj_d48 rfl ⟨none, rfl, 0, rfl, rfl⟩
                  · skip
                    by_cases q18 : (p0).toInt = 5
                    · refine fx_ts (tgt := 100) aj_d48 rfl (Nat.le_succ _) q18 (by decide) rfl rfl ?_
                      show fx_W _ _ _ 100 lv1 [] _ _
                      refine fx_n (pc' := 101) (lv' := lv1) (st' := [.null]) aj_d48 rfl (Nat.le_succ _) (fun _ => rfl) ?_
                      exact fx_ra0 aj_d48 rfl ⟨none, rfl, 0, rfl, rfl⟩
                    · skip
                      by_cases q19 : (p0).toInt = 6
                      · refine fx_ts (tgt := 100) aj_d48 rfl (Nat.le_succ _) q19 (by decide) rfl rfl ?_
                        show fx_W _ _ _ 100 lv1 [] _ _
                        refine fx_n (pc' := 101) (lv' := lv1) (st' := [.null]) aj_d48 rfl (Nat.le_succ _) (fun _ => rfl) ?_
                        exact fx_ra0 aj_d48 rfl ⟨none, rfl, 0, rfl, rfl⟩
                      · skip
                        by_cases q20 : (p0).toInt = 7
                        · refine fx_ts (tgt := 100) aj_d48 rfl (Nat.le_succ _) q20 (by decide) rfl rfl ?_
                          show fx_W _ _ _ 100 lv1 [] _ _
                          refine fx_n (pc' := 101) (lv' := lv1) (st' := [.null]) aj_d48 rfl (Nat.le_succ _) (fun _ => rfl) ?_
                          exact fx_ra0 aj_d48 rfl ⟨none, rfl, 0, rfl, rfl⟩
                        · skip
                          by_cases q21 : (p0).toInt = 8
                          · refine fx_ts (tgt := 100) aj_d48 rfl (Nat.le_succ _) q21 (by decide) rfl rfl ?_
                            show fx_W _ _ _ 100 lv1 [] _ _
                            refine fx_n (pc' := 101) (lv' := lv1) (st' := [.null]) aj_d48 rfl (Nat.le_succ _) (fun _ => rfl) ?_
                            exact fx_ra0 aj_d48 rfl ⟨none, rfl, 0, rfl, rfl⟩
                          · skip
                            by_cases q22 : (p0).toInt = 9
                            · refine fx_ts (tgt := 100) aj_d48 rfl (Nat.le_succ _) q22 (by decide) rfl rfl ?_
                              show fx_W _ _ _ 100 lv1 [] _ _
                              refine fx_n (pc' := 101) (lv' := lv1) (st' := [.null]) aj_d48 rfl (Nat.le_succ _) (fun _ => rfl) ?_
                              exact fx_ra0 aj_d48 rfl ⟨none, rfl, 0, rfl, rfl⟩
                            · skip
                              by_cases q23 : (p0).toInt = 13
                              · refine fx_ts (tgt := 100) aj_d48 rfl (Nat.le_succ _) q23 (by decide) rfl rfl ?_
                                show fx_W _ _ _ 100 lv1 [] _ _
                                refine fx_n (pc' := 101) (lv' := lv1) (st' := [.null]) aj_d48 rfl (Nat.le_succ _) (fun _ => rfl) ?_
                                exact fx_ra0 aj_d48 rfl ⟨none, rfl, 0, rfl, rfl⟩
                              · skip
                                refine fx_td (tgt := 100) aj_d48 rfl (Nat.le_succ _) (by omega) rfl ?_
                                show fx_W _ _ _ 100 lv1 [] _ _
                                refine fx_n (pc' := 101) (lv' := lv1) (st' := [.null]) aj_d48 rfl (Nat.le_succ _) (fun _ => rfl) ?_
                                exact fx_ra0 aj_d48 rfl ⟨none, rfl, 0, rfl, rfl⟩
def gx_47 (p0 : Int32) (p1 : Int32) (X : fx_X) (v : (Option Nat)) (X' : fx_X) : Prop :=
  (if (p0).toInt < 138 then ((if (p0).toInt = 130 then (∃ (w12 : (Option Nat)) (X11 : fx_X), gx_48 p1 X w12 X11 ∧ ((w12 = none ∧ v = none ∧ X' = X11) ∨ (∃ w12b : Nat, w12 = some w12b ∧ v = some w12b ∧ X' = X11))) else (∃ (w10 : (Option Nat)) (X9 : fx_X), gx_49 p0 p1 X w10 X9 ∧ ((w10 = none ∧ v = none ∧ X' = X9) ∨ (∃ w10b : Nat, w10 = some w10b ∧ v = some w10b ∧ X' = X9))))) else ((if (p0).toInt < 145 then (∃ (w7 : (Option Nat)) (X6 : fx_X), gx_50 p0 p1 X w7 X6 ∧ ((w7 = none ∧ v = none ∧ X' = X6) ∨ (∃ w7b : Nat, w7 = some w7b ∧ v = some w7b ∧ X' = X6))) else (∃ (w5 : (Option Nat)) (X4 : fx_X), gx_52 p0 p1 X w5 X4 ∧ ((w5 = none ∧ v = none ∧ X' = X4) ∨ (∃ w5b : Nat, w5 = some w5b ∧ v = some w5b ∧ X' = X4))))))
theorem gx_47_ok {tb : aj_T} (p0 : Int32) (p1 : Int32) {X : fx_X} : fx_K tb 47 [.int p0, .int p1] X (fx_Q fx_qR (fun v X' => gx_47 p0 p1 X v X')) := by
  refine fx_m aj_m47_at rfl (fun N => ?_)
  refine fx_mono (Q := fx_Q fx_qR (fun v X' => ∃ n : Nat, gx_47 p0 p1 X v X')) (fun r X' ⟨v, e, _, z⟩ => ⟨v, e, z⟩) ?_
  unfold gx_47
  show fx_W _ _ _ 0 [(0, .int p0), (1, .int p1)] [] _ _
  obtain ⟨lv1, elv1⟩ : ∃ l : aj_V, l = [(0, .int p0), (1, .int p1)] := ⟨_, rfl⟩
  rw [← elv1]
  have hlv1_0 : aj_lv lv1 0 = some (.int p0) := by rw [elv1]; rfl
  have hlv1_1 : aj_lv lv1 1 = some (.int p1) := by rw [elv1]; rfl
  refine fx_i0 aj_d47 rfl (Nat.le_succ _) (fun _ => rfl) hlv1_0 ?_
  refine fx_n (pc' := 4) (lv' := lv1) (st' := [.int ((Int16.ofInt 138).toInt32), .int p0]) aj_d47 rfl (Nat.le_succ _) (fun _ => rfl) ?_
  refine fx_b (tgt := 27) aj_d47 rfl (Nat.le_succ _) rfl (fun q2 => ?_) (fun q2 => ?_)
  · skip
    refine fx_qe (c := (p0).toInt < 138) (fx_t_ge q2) ?_
    show fx_W _ _ _ 27 lv1 [] _ _
    refine fx_i0 aj_d47 rfl (Nat.le_succ _) (fun _ => rfl) hlv1_0 ?_
    refine fx_n (pc' := 31) (lv' := lv1) (st' := [.int ((Int16.ofInt 145).toInt32), .int p0]) aj_d47 rfl (Nat.le_succ _) (fun _ => rfl) ?_
    refine fx_b (tgt := 42) aj_d47 rfl (Nat.le_succ _) rfl (fun q3 => ?_) (fun q3 => ?_)
    · skip
      refine fx_qe (c := (p0).toInt < 145) (fx_t_ge q3) ?_
      show fx_W _ _ _ 42 lv1 [] _ _
      refine fx_i0 aj_d47 rfl (Nat.le_succ _) (fun _ => rfl) hlv1_0 ?_
      refine fx_i0 aj_d47 rfl (Nat.le_succ _) (fun _ => rfl) hlv1_1 ?_
      refine fx_cs aj_d47 rfl (Nat.le_succ _) rfl rfl [_, _] rfl rfl (gx_52_ok p0 p1) ?_
      rintro _ X4 ⟨w5, rfl, hR4⟩ hok4 hle4
      refine fx_qc hR4 ?_
      rcases w5 with _ | w5b
      · skip
        refine fx_o1 (fx_qa rfl ?_)
        show fx_W _ _ _ 47 lv1 [.null] _ _
        exact fx_ra0 aj_d47 rfl ⟨none, rfl, 0, rfl, rfl⟩
      · skip
        refine fx_o2 (fx_qs rfl ?_)
        show fx_W _ _ _ 47 lv1 [.ref w5b] _ _
        exact fx_ra aj_d47 rfl ⟨some _, rfl, 0, rfl, rfl⟩
    · skip
      refine fx_qi (c := (p0).toInt < 145) (fx_f_ge q3) ?_
      show fx_W _ _ _ 34 lv1 [] _ _
      refine fx_i0 aj_d47 rfl (Nat.le_succ _) (fun _ => rfl) hlv1_0 ?_
      refine fx_i0 aj_d47 rfl (Nat.le_succ _) (fun _ => rfl) hlv1_1 ?_
      refine fx_cs aj_d47 rfl (Nat.le_succ _) rfl rfl [_, _] rfl rfl (gx_50_ok p0 p1) ?_
      rintro _ X6 ⟨w7, rfl, hR6⟩ hok6 hle6
      refine fx_qc hR6 ?_
      rcases w7 with _ | w7b
      · skip
        refine fx_o1 (fx_qa rfl ?_)
        show fx_W _ _ _ 39 lv1 [.null] _ _
        refine fx_n (pc' := 47) (lv' := lv1) (st' := [.null]) aj_d47 rfl (Nat.le_succ _) (fun _ => rfl) ?_
        exact fx_ra0 aj_d47 rfl ⟨none, rfl, 0, rfl, rfl⟩
      · skip
        refine fx_o2 (fx_qs rfl ?_)
        show fx_W _ _ _ 39 lv1 [.ref w7b] _ _
        refine fx_n (pc' := 47) (lv' := lv1) (st' := [.ref w7b]) aj_d47 rfl (Nat.le_succ _) (fun _ => rfl) ?_
        exact fx_ra aj_d47 rfl ⟨some _, rfl, 0, rfl, rfl⟩
  · skip
    refine fx_qi (c := (p0).toInt < 138) (fx_f_ge q2) ?_
    show fx_W _ _ _ 7 lv1 [] _ _
    refine fx_i0 aj_d47 rfl (Nat.le_succ _) (fun _ => rfl) hlv1_0 ?_
    refine fx_n (pc' := 11) (lv' := lv1) (st' := [.int ((Int16.ofInt 130).toInt32), .int p0]) aj_d47 rfl (Nat.le_succ _) (fun _ => rfl) ?_
    refine fx_b (tgt := 21) aj_d47 rfl (Nat.le_succ _) rfl (fun q8 => ?_) (fun q8 => ?_)
    · skip
      refine fx_qe (c := (p0).toInt = 130) (fx_t_ne q8) ?_
      show fx_W _ _ _ 21 lv1 [] _ _
      refine fx_i0 aj_d47 rfl (Nat.le_succ _) (fun _ => rfl) hlv1_0 ?_
      refine fx_i0 aj_d47 rfl (Nat.le_succ _) (fun _ => rfl) hlv1_1 ?_
      refine fx_cs aj_d47 rfl (Nat.le_succ _) rfl rfl [_, _] rfl rfl (gx_49_ok p0 p1) ?_
      rintro _ X9 ⟨w10, rfl, hR9⟩ hok9 hle9
      refine fx_qc hR9 ?_
      rcases w10 with _ | w10b
      · skip
        refine fx_o1 (fx_qa rfl ?_)
        show fx_W _ _ _ 26 lv1 [.null] _ _
        exact fx_ra0 aj_d47 rfl ⟨none, rfl, 0, rfl, rfl⟩
      · skip
        refine fx_o2 (fx_qs rfl ?_)
        show fx_W _ _ _ 26 lv1 [.ref w10b] _ _
        exact fx_ra aj_d47 rfl ⟨some _, rfl, 0, rfl, rfl⟩
    · skip
      refine fx_qi (c := (p0).toInt = 130) (fx_f_ne q8) ?_
      show fx_W _ _ _ 14 lv1 [] _ _
      refine fx_i0 aj_d47 rfl (Nat.le_succ _) (fun _ => rfl) hlv1_1 ?_
      refine fx_cs aj_d47 rfl (Nat.le_succ _) rfl rfl [_] rfl rfl (gx_48_ok p1) ?_
      rintro _ X11 ⟨w12, rfl, hR11⟩ hok11 hle11
      refine fx_qc hR11 ?_
      rcases w12 with _ | w12b
      · skip
        refine fx_o1 (fx_qa rfl ?_)
        show fx_W _ _ _ 18 lv1 [.null] _ _
        refine fx_n (pc' := 26) (lv' := lv1) (st' := [.null]) aj_d47 rfl (Nat.le_succ _) (fun _ => rfl) ?_
        exact fx_ra0 aj_d47 rfl ⟨none, rfl, 0, rfl, rfl⟩
      · skip
        refine fx_o2 (fx_qs rfl ?_)
        show fx_W _ _ _ 18 lv1 [.ref w12b] _ _
        refine fx_n (pc' := 26) (lv' := lv1) (st' := [.ref w12b]) aj_d47 rfl (Nat.le_succ _) (fun _ => rfl) ?_
        exact fx_ra aj_d47 rfl ⟨some _, rfl, 0, rfl, rfl⟩
def gxT_45_45 (p1 : Int32) (P : Nat → List Int32 → List Int64 → List Nat → fx_X → Unit → fx_X → Prop) (y2 : Nat) (y3 : Int32) (X : fx_X) (v : Unit) (X' : fx_X) : Prop :=
  (if (y3).toInt < 0 then (X' = X) else ((0 ≤ (y3).toInt) ∧ ∃ (w20 : Unit) (X19 : fx_X), gx_33 (X.1 y2 (y3).toInt.toNat) X w20 X19 ∧ ∃ x21 : Int32, x21 = y3 + Int32.ofInt (-1) ∧ P 45 [x21] [] [y2] X19 v X'))
def gxE_45 (p1 : Int32) (P : Nat → List Int32 → List Int64 → List Nat → fx_X → Unit → fx_X → Prop) (X : fx_X) (v : Unit) (X' : fx_X) : Prop :=
  ∃ (w4 : Int32) (X3 : fx_X), gx_46 (X.1 87 6) X w4 X3 ∧ ∃ (w6 : (Option Nat)) (X5 : fx_X), gx_47 p1 w4 X3 w6 X5 ∧ ((w6 = none ∧ ∃ (w11 : Int32) (X10 : fx_X), gx_43 (X5.1 87 6) X5 w11 X10 ∧ ∃ (w13 : Unit) (X12 : fx_X), gx_44 (Int32.ofInt 1) w11 X10 w13 X12 ∧ X' = X12) ∨ (∃ w6b : Nat, w6 = some w6b ∧ ∃ x15 : Int32, x15 = ((Int32.ofNat (X5.2.2.2.1 w6b).2) - (Int32.ofInt 1)) ∧ P 45 [x15] [] [w6b] X5 v X'))
noncomputable def gxF_45 (p1 : Int32) (n : Nat) : Nat → List Int32 → List Int64 → List Nat → fx_X → Unit → fx_X → Prop := Nat.rec (motive := fun _ => Nat → List Int32 → List Int64 → List Nat → fx_X → Unit → fx_X → Prop) (fun _ _ _ _ _ _ _ => False) (fun _ P l is ls rs X v X' => (l = 45 ∧ ∃ (y2 : Nat) (y3 : Int32), is = [y3] ∧ ls = [] ∧ rs = [y2] ∧ gxT_45_45 p1 P y2 y3 X v X')) n
theorem gxI_45_45 {p1 : Int32} {n : Nat} {y2 : Nat} {y3 : Int32} {X : fx_X} {v : Unit} {X' : fx_X} (h : gxT_45_45 p1 (gxF_45 p1 n) y2 y3 X v X') : gxF_45 p1 (n + 1) 45 [y3] [] [y2] X v X' := ⟨rfl, y2, y3, rfl, rfl, rfl, h⟩
theorem gxO_45_45 {p1 : Int32} {n : Nat} {y2 : Nat} {y3 : Int32} {X : fx_X} {v : Unit} {X' : fx_X} (h : gxF_45 p1 (n + 1) 45 [y3] [] [y2] X v X') : gxT_45_45 p1 (gxF_45 p1 n) y2 y3 X v X' := by
  rcases h with ⟨-, _, _, e1, e2, e3, h⟩
  · cases e1; cases e2; cases e3; exact h
def gx_45 (p1 : Int32) (X : fx_X) (v : Unit) (X' : fx_X) : Prop := ∃ n : Nat, gxE_45 p1 (gxF_45 p1 n) X v X'
theorem gxL_45 {tb : aj_T} (p1 : Int32) : ∀ N : Nat, (∀ (lv : aj_V) (y2 : Nat) (y3 : Int32) (X : fx_X), aj_lv lv 0 = some (.ref 87) → aj_lv lv 2 = some (.ref y2) → aj_lv lv 3 = some (.int y3) → fx_W tb aj_m45 N 45 lv [] X (fx_Q fx_qN (fun v X' => ∃ n : Nat, gxF_45 p1 n 45 [y3] [] [y2] X v X'))) := by
  intro N
  induction N with
  | zero => exact (by intros; exact fx_z)
  | succ N ih =>
    skip
    · intro lv y2 y3 X hlv_0 hlv_2 hlv_3
      refine fx_mono (Q := fx_Q fx_qN (fun v X' => ∃ n : Nat, gxT_45_45 p1 (gxF_45 p1 n) y2 y3 X v X')) (fun r X' ⟨v, e, n, z⟩ => ⟨v, e, n + 1, gxI_45_45 z⟩) ?_
      unfold gxT_45_45
      refine fx_i0 aj_d45 rfl (Nat.le_refl _) (fun _ => rfl) hlv_3 ?_
      refine fx_b0 (tgt := 62) aj_d45 rfl (Nat.le_succ _) rfl (fun q17 => ?_) (fun q17 => ?_)
      · skip
        refine fx_qi (c := (y3).toInt < 0) (fx_t_lt q17) ?_
        show fx_W _ _ _ 62 lv [] _ _
        exact fx_rn aj_d45 rfl ⟨(), rfl, 0, rfl⟩
      · skip
        refine fx_qe (c := (y3).toInt < 0) (fx_f_lt q17) ?_
        show fx_W _ _ _ 49 lv [] _ _
        refine fx_i2 aj_d45 rfl (Nat.le_succ _) (fun _ => rfl) hlv_0 ?_
        refine fx_i2 aj_d45 rfl (Nat.le_succ _) (fun _ => rfl) hlv_2 ?_
        refine fx_i0 aj_d45 rfl (Nat.le_succ _) (fun _ => rfl) hlv_3 ?_
        refine fx_ld aj_d45 (Or.inl rfl) rfl (Nat.le_succ _) (fun g180 g181 => ?_)
        show fx_W _ _ _ 53 lv [.int (X.1 y2 (y3).toInt.toNat), .ref 87] _ _
        refine fx_qa (c := 0 ≤ (y3).toInt) g180 ?_
        refine fx_cv aj_d45 rfl (Nat.le_succ _) rfl [_] rfl rfl (gx_33_ok (X.1 y2 (y3).toInt.toNat)) ?_
        rintro _ X19 ⟨w20, rfl, hR19⟩ hok19 hle19
        refine fx_qc hR19 ?_
        show fx_W _ _ _ 56 lv [] _ _
        refine fx_incq aj_d45 rfl (Nat.le_succ _) hlv_3 (by decide) (fun x21 ex21 => ?_)
        obtain ⟨lv22, elv22⟩ : ∃ l, l = aj_set1 lv 3 (.int x21) := ⟨_, rfl⟩
        rw [← elv22]
        have hlv22_0 : aj_lv lv22 0 = some (.ref 87) := fx_e1 elv22 hlv_0 (by decide) (Or.inl (by decide))
        have hlv22_2 : aj_lv lv22 2 = some (.ref y2) := fx_e1 elv22 hlv_2 (by decide) (Or.inr rfl)
        have hlv22_3 : aj_lv lv22 3 = some (.int x21) := by rw [elv22]; exact ak_set1_eq _ _ _
        show fx_W _ _ _ 59 lv22 [] _ _
        refine fx_n (pc' := 45) (lv' := lv22) (st' := []) aj_d45 rfl (Nat.le_succ _) (fun _ => rfl) ?_
        exact (ih) lv22 (y2) (x21) X19  hlv22_0 hlv22_2 hlv22_3
theorem gx_45_ok {tb : aj_T} (p1 : Int32) {X : fx_X} : fx_K tb 45 [.ref 87, .int p1] X (fx_Q fx_qN (fun v X' => gx_45 p1 X v X')) := by
  refine fx_m aj_m45_at rfl (fun N => ?_)
  refine fx_mono (Q := fx_Q fx_qN (fun v X' => ∃ n : Nat, gxE_45 p1 (gxF_45 p1 n) X v X')) (fun r X' h => h) ?_
  unfold gxE_45
  show fx_W _ _ _ 0 [(0, .ref 87), (1, .int p1)] [] _ _
  obtain ⟨lv1, elv1⟩ : ∃ l : aj_V, l = [(0, .ref 87), (1, .int p1)] := ⟨_, rfl⟩
  rw [← elv1]
  have hlv1_0 : aj_lv lv1 0 = some (.ref 87) := by rw [elv1]; rfl
  have hlv1_1 : aj_lv lv1 1 = some (.int p1) := by rw [elv1]; rfl
  refine fx_i0 aj_d45 rfl (Nat.le_succ _) (fun _ => rfl) hlv1_1 ?_
  refine fx_i2 aj_d45 rfl (Nat.le_succ _) (fun _ => rfl) hlv1_0 ?_
  refine fx_gF aj_d45 rfl (Nat.le_succ _) rfl rfl fx_in_3_0 (t := 78) rfl (fun hA2 => ?_)
  refine fx_i2 aj_d45 rfl (Nat.le_succ _) (fun _ => rfl) hlv1_0 ?_
  refine fx_gI aj_d45 rfl (Nat.le_succ _) rfl rfl (Or.inl rfl) ?_
  refine fx_cv aj_d45 rfl (Nat.le_succ _) rfl [_] rfl rfl (gx_46_ok (X.1 87 6)) ?_
  rintro _ X3 ⟨w4, rfl, hR3⟩ hok3 hle3
  refine fx_qc hR3 ?_
  show fx_W _ _ _ 12 lv1 [.int w4, .int p1] _ _
  refine fx_cs aj_d45 rfl (Nat.le_succ _) rfl rfl [_, _] rfl rfl (gx_47_ok p1 w4) ?_
  rintro _ X5 ⟨w6, rfl, hR5⟩ hok5 hle5
  refine fx_qc hR5 ?_
  rcases w6 with _ | w6b
  · skip
    refine fx_o1 (fx_qa rfl ?_)
    show fx_W _ _ _ 15 lv1 [.null] _ _
    refine fx_s3 (j := 2) aj_d45 rfl (Nat.le_succ _) (by decide) (fun _ => rfl) ?_
    obtain ⟨lv7, elv7⟩ : ∃ l, l = aj_set1 lv1 2 (.null) := ⟨_, rfl⟩
    rw [← elv7]
    have hlv7_0 : aj_lv lv7 0 = some (.ref 87) := fx_e1 elv7 hlv1_0 (by decide) (Or.inl (by decide))
    have hlv7_2 : aj_lv lv7 2 = some (.null) := by rw [elv7]; exact ak_set1_eq _ _ _
    show fx_W _ _ _ 16 lv7 [] _ _
    refine fx_i3 aj_d45 rfl (Nat.le_succ _) (fun _ => rfl) hlv7_2 ?_
    refine fx_n (pc' := 20) (lv' := lv7) (st' := []) aj_d45 rfl (Nat.le_succ _) (fun _ => rfl) ?_
    refine fx_i2 aj_d45 rfl (Nat.le_succ _) (fun _ => rfl) hlv7_0 ?_
    refine fx_gF aj_d45 rfl (Nat.le_succ _) rfl rfl fx_in_3_1 (t := 82) rfl (fun hA8 => ?_)
    refine fx_n (pc' := 25) (lv' := lv7) (st' := [.int (Int32.ofInt 1), .ref 82]) aj_d45 rfl (Nat.le_succ _) (fun _ => rfl) ?_
    refine fx_i2 aj_d45 rfl (Nat.le_succ _) (fun _ => rfl) hlv7_0 ?_
    refine fx_gF aj_d45 rfl (Nat.le_succ _) rfl rfl fx_in_3_0 (t := 78) rfl (fun hA9 => ?_)
    refine fx_i2 aj_d45 rfl (Nat.le_succ _) (fun _ => rfl) hlv7_0 ?_
    refine fx_gI aj_d45 rfl (Nat.le_succ _) rfl rfl (Or.inl rfl) ?_
    refine fx_cv aj_d45 rfl (Nat.le_succ _) rfl [_] rfl rfl (gx_43_ok (X5.1 87 6)) ?_
    rintro _ X10 ⟨w11, rfl, hR10⟩ hok10 hle10
    refine fx_qc hR10 ?_
    show fx_W _ _ _ 36 lv7 [.int w11, .int (Int32.ofInt 1), .ref 82] _ _
    refine fx_cv aj_d45 rfl (Nat.le_succ _) rfl [_, _] rfl rfl (gx_44_ok (Int32.ofInt 1) w11) ?_
    rintro _ X12 ⟨w13, rfl, hR12⟩ hok12 hle12
    refine fx_qc hR12 ?_
    show fx_W _ _ _ 39 lv7 [] _ _
    exact fx_rn aj_d45 rfl ⟨(), rfl, 0, rfl⟩
  · skip
    refine fx_o2 (fx_qs rfl ?_)
    show fx_W _ _ _ 15 lv1 [.ref w6b] _ _
    refine fx_s2 (j := 2) aj_d45 rfl (Nat.le_succ _) (by decide) (fun _ => rfl) ?_
    obtain ⟨lv14, elv14⟩ : ∃ l, l = aj_set1 lv1 2 (.ref w6b) := ⟨_, rfl⟩
    rw [← elv14]
    have hlv14_0 : aj_lv lv14 0 = some (.ref 87) := fx_e1 elv14 hlv1_0 (by decide) (Or.inl (by decide))
    have hlv14_2 : aj_lv lv14 2 = some (.ref w6b) := by rw [elv14]; exact ak_set1_eq _ _ _
    show fx_W _ _ _ 16 lv14 [] _ _
    refine fx_i2 aj_d45 rfl (Nat.le_succ _) (fun _ => rfl) hlv14_2 ?_
    refine fx_n (pc' := 40) (lv' := lv14) (st' := []) aj_d45 rfl (Nat.le_succ _) (fun _ => rfl) ?_
    refine fx_i2 aj_d45 rfl (Nat.le_succ _) (fun _ => rfl) hlv14_2 ?_
    refine fx_al aj_d45 rfl (Nat.le_succ _) ?_
    show fx_W _ _ _ 42 lv14 [.int (Int32.ofNat (X5.2.2.2.1 w6b).2)] _ _
    refine fx_n (pc' := 43) (lv' := lv14) (st' := [.int (Int32.ofInt 1), .int (Int32.ofNat (X5.2.2.2.1 w6b).2)]) aj_d45 rfl (Nat.le_succ _) (fun _ => rfl) ?_
    refine fx_n (pc' := 44) (lv' := lv14) (st' := [.int ((Int32.ofNat (X5.2.2.2.1 w6b).2) - (Int32.ofInt 1))]) aj_d45 rfl (Nat.le_succ _) (fun _ => rfl) ?_
    refine fx_qxI (fun x15 ex15 => ?_)
    refine fx_s0 (j := 3) aj_d45 rfl (Nat.le_succ _) (by decide) (fun _ => rfl) ?_
    obtain ⟨lv16, elv16⟩ : ∃ l, l = aj_set1 lv14 3 (.int x15) := ⟨_, rfl⟩
    rw [← elv16]
    have hlv16_0 : aj_lv lv16 0 = some (.ref 87) := fx_e1 elv16 hlv14_0 (by decide) (Or.inl (by decide))
    have hlv16_2 : aj_lv lv16 2 = some (.ref w6b) := fx_e1 elv16 hlv14_2 (by decide) (Or.inr rfl)
    have hlv16_3 : aj_lv lv16 3 = some (.int x15) := by rw [elv16]; exact ak_set1_eq _ _ _
    show fx_W _ _ _ 45 lv16 [] _ _
    exact ((gxL_45 p1 N)) lv16 (w6b) (x15) X5  hlv16_0 hlv16_2 hlv16_3
def gx_37 (p1 : Int32) (X : fx_X) (v : Int64) (X' : fx_X) : Prop :=
  (if (p1).toInt < 0 then (v = (Int64.ofNat 0) ∧ X' = X) else ((if (p1).toInt < 1002 then ((0 ≤ (p1).toInt ∧ (p1).toInt < ((1002 : Nat) : Int)) ∧ v = (X.2.1 81 (p1).toInt.toNat) ∧ X' = X) else (v = (Int64.ofNat 0) ∧ X' = X))))
theorem gx_37_ok {tb : aj_T} (p1 : Int32) {X : fx_X} : fx_K tb 37 [.ref 78, .int p1] X (fx_Q fx_qL (fun v X' => gx_37 p1 X v X')) := by
  refine fx_m aj_m37_at rfl (fun N => ?_)
  refine fx_mono (Q := fx_Q fx_qL (fun v X' => ∃ n : Nat, gx_37 p1 X v X')) (fun r X' ⟨v, e, _, z⟩ => ⟨v, e, z⟩) ?_
  unfold gx_37
  show fx_W _ _ _ 0 [(0, .ref 78), (1, .int p1)] [] _ _
  obtain ⟨lv1, elv1⟩ : ∃ l : aj_V, l = [(0, .ref 78), (1, .int p1)] := ⟨_, rfl⟩
  rw [← elv1]
  have hlv1_0 : aj_lv lv1 0 = some (.ref 78) := by rw [elv1]; rfl
  have hlv1_1 : aj_lv lv1 1 = some (.int p1) := by rw [elv1]; rfl
  refine fx_i0 aj_d37 rfl (Nat.le_succ _) (fun _ => rfl) hlv1_1 ?_
  refine fx_b0 (tgt := 22) aj_d37 rfl (Nat.le_succ _) rfl (fun q2 => ?_) (fun q2 => ?_)
  · skip
    refine fx_qi (c := (p1).toInt < 0) (fx_t_lt q2) ?_
    show fx_W _ _ _ 22 lv1 [] _ _
    refine fx_n (pc' := 23) (lv' := lv1) (st' := [.long (Int64.ofNat 0)]) aj_d37 rfl (Nat.le_succ _) (fun _ => rfl) ?_
    exact fx_rl aj_d37 rfl rfl ⟨_, rfl, 0, rfl, rfl⟩
  · skip
    refine fx_qe (c := (p1).toInt < 0) (fx_f_lt q2) ?_
    show fx_W _ _ _ 4 lv1 [] _ _
    refine fx_i0 aj_d37 rfl (Nat.le_succ _) (fun _ => rfl) hlv1_1 ?_
    refine fx_i2 aj_d37 rfl (Nat.le_succ _) (fun _ => rfl) hlv1_0 ?_
    refine fx_gF aj_d37 rfl (Nat.le_succ _) rfl rfl fx_in_8_2 (t := 81) rfl (fun hA3 => ?_)
    refine fx_al aj_d37 rfl (Nat.le_succ _) ?_
    rw [(hA3 : X.2.2.2.1 81 = (1, 1002))]
    show fx_W _ _ _ 10 lv1 [.int (Int32.ofNat 1002), .int p1] _ _
    refine fx_b (tgt := 22) aj_d37 rfl (Nat.le_succ _) rfl (fun q4 => ?_) (fun q4 => ?_)
    · skip
      refine fx_qe (c := (p1).toInt < 1002) (fx_t_ge q4) ?_
      show fx_W _ _ _ 22 lv1 [] _ _
      refine fx_n (pc' := 23) (lv' := lv1) (st' := [.long (Int64.ofNat 0)]) aj_d37 rfl (Nat.le_succ _) (fun _ => rfl) ?_
      exact fx_rl aj_d37 rfl rfl ⟨_, rfl, 0, rfl, rfl⟩
    · skip
      refine fx_qi (c := (p1).toInt < 1002) (fx_f_ge q4) ?_
      show fx_W _ _ _ 13 lv1 [] _ _
      refine fx_i2 aj_d37 rfl (Nat.le_succ _) (fun _ => rfl) hlv1_0 ?_
      refine fx_gF aj_d37 rfl (Nat.le_succ _) rfl rfl fx_in_8_2 (t := 81) rfl (fun hA5 => ?_)
      refine fx_i0 aj_d37 rfl (Nat.le_succ _) (fun _ => rfl) hlv1_1 ?_
      refine fx_ldL aj_d37 rfl (Nat.le_succ _) (fun g60 g61 => ?_)
      show fx_W _ _ _ 19 lv1 [.long (X.2.1 81 (p1).toInt.toNat)] _ _
      refine fx_qa (c := 0 ≤ (p1).toInt ∧ (p1).toInt < ((1002 : Nat) : Int)) ⟨g60, fx_lnk g61 hA5⟩ ?_
      refine fx_n (pc' := 23) (lv' := lv1) (st' := [.long (X.2.1 81 (p1).toInt.toNat)]) aj_d37 rfl (Nat.le_succ _) (fun _ => rfl) ?_
      exact fx_rl aj_d37 rfl rfl ⟨_, rfl, 0, rfl, rfl⟩
def gx_36 (X : fx_X) (v : Int32) (X' : fx_X) : Prop :=
  (if ((X.1 87 9)).toInt < 0 then (v = (Int32.ofInt 0) ∧ X' = X) else ((if ((X.1 87 9)).toInt < 10 then ((if ((X.1 87 9)).toInt < 10 then (∃ (w10 : Int64) (X9 : fx_X), gx_37 (X.1 87 7) X w10 X9 ∧ (0 ≤ ((X.1 87 9)).toInt ∧ ((X.1 87 9)).toInt < ((10 : Nat) : Int)) ∧ ∃ X12 : fx_X, X12 = (fx_wL X9 89 ((X.1 87 9)).toInt.toNat w10) ∧ (0 ≤ ((X12.1 87 9)).toInt ∧ ((X12.1 87 9)).toInt < ((10 : Nat) : Int)) ∧ ∃ X15 : fx_X, X15 = (fx_wI X12 90 ((X12.1 87 9)).toInt.toNat (Int32.ofInt 0)) ∧ ∃ X16 : fx_X, X16 = (fx_wI X15 87 9 ((X15.1 87 9) + (Int32.ofInt 1))) ∧ v = (Int32.ofInt 1) ∧ X' = X16) else (v = (Int32.ofInt 0) ∧ X' = X))) else (v = (Int32.ofInt 0) ∧ X' = X))))
theorem gx_36_ok {tb : aj_T} {X : fx_X} : fx_K tb 36 [.ref 87] X (fx_Q fx_qI (fun v X' => gx_36 X v X')) := by
  refine fx_m aj_m36_at rfl (fun N => ?_)
  refine fx_mono (Q := fx_Q fx_qI (fun v X' => ∃ n : Nat, gx_36 X v X')) (fun r X' ⟨v, e, _, z⟩ => ⟨v, e, z⟩) ?_
  unfold gx_36
  show fx_W _ _ _ 0 [(0, .ref 87)] [] _ _
  obtain ⟨lv1, elv1⟩ : ∃ l : aj_V, l = [(0, .ref 87)] := ⟨_, rfl⟩
  rw [← elv1]
  have hlv1_0 : aj_lv lv1 0 = some (.ref 87) := by rw [elv1]; rfl
  refine fx_i2 aj_d36 rfl (Nat.le_succ _) (fun _ => rfl) hlv1_0 ?_
  refine fx_gI aj_d36 rfl (Nat.le_succ _) rfl rfl (Or.inl rfl) ?_
  refine fx_b0 (tgt := 31) aj_d36 rfl (Nat.le_succ _) rfl (fun q2 => ?_) (fun q2 => ?_)
  · skip
    refine fx_qi (c := ((X.1 87 9)).toInt < 0) (fx_t_lt q2) ?_
    show fx_W _ _ _ 31 lv1 [] _ _
    refine fx_n (pc' := 32) (lv' := lv1) (st' := [.int (Int32.ofInt 0)]) aj_d36 rfl (Nat.le_succ _) (fun _ => rfl) ?_
    exact fx_ri aj_d36 rfl ⟨_, rfl, 0, rfl, rfl⟩
  · skip
    refine fx_qe (c := ((X.1 87 9)).toInt < 0) (fx_f_lt q2) ?_
    show fx_W _ _ _ 7 lv1 [] _ _
    refine fx_i2 aj_d36 rfl (Nat.le_succ _) (fun _ => rfl) hlv1_0 ?_
    refine fx_gI aj_d36 rfl (Nat.le_succ _) rfl rfl (Or.inl rfl) ?_
    refine fx_i2 aj_d36 rfl (Nat.le_succ _) (fun _ => rfl) hlv1_0 ?_
    refine fx_gF aj_d36 rfl (Nat.le_succ _) rfl rfl fx_in_3_3 (t := 89) rfl (fun hA3 => ?_)
    refine fx_al aj_d36 rfl (Nat.le_succ _) ?_
    rw [(hA3 : X.2.2.2.1 89 = (1, 10))]
    show fx_W _ _ _ 16 lv1 [.int (Int32.ofNat 10), .int (X.1 87 9)] _ _
    refine fx_b (tgt := 31) aj_d36 rfl (Nat.le_succ _) rfl (fun q4 => ?_) (fun q4 => ?_)
    · skip
      refine fx_qe (c := ((X.1 87 9)).toInt < 10) (fx_t_ge q4) ?_
      show fx_W _ _ _ 31 lv1 [] _ _
      refine fx_n (pc' := 32) (lv' := lv1) (st' := [.int (Int32.ofInt 0)]) aj_d36 rfl (Nat.le_succ _) (fun _ => rfl) ?_
      exact fx_ri aj_d36 rfl ⟨_, rfl, 0, rfl, rfl⟩
    · skip
      refine fx_qi (c := ((X.1 87 9)).toInt < 10) (fx_f_ge q4) ?_
      show fx_W _ _ _ 19 lv1 [] _ _
      refine fx_i2 aj_d36 rfl (Nat.le_succ _) (fun _ => rfl) hlv1_0 ?_
      refine fx_gI aj_d36 rfl (Nat.le_succ _) rfl rfl (Or.inl rfl) ?_
      refine fx_i2 aj_d36 rfl (Nat.le_succ _) (fun _ => rfl) hlv1_0 ?_
      refine fx_gF aj_d36 rfl (Nat.le_succ _) rfl rfl fx_in_3_4 (t := 90) rfl (fun hA5 => ?_)
      refine fx_al aj_d36 rfl (Nat.le_succ _) ?_
      rw [(hA5 : X.2.2.2.1 90 = (0, 10))]
      show fx_W _ _ _ 28 lv1 [.int (Int32.ofNat 10), .int (X.1 87 9)] _ _
      refine fx_b (tgt := 33) aj_d36 rfl (Nat.le_succ _) rfl (fun q6 => ?_) (fun q6 => ?_)
      · skip
        refine fx_qi (c := ((X.1 87 9)).toInt < 10) (fx_t_lt q6) ?_
        show fx_W _ _ _ 33 lv1 [] _ _
        refine fx_i2 aj_d36 rfl (Nat.le_succ _) (fun _ => rfl) hlv1_0 ?_
        refine fx_gF aj_d36 rfl (Nat.le_succ _) rfl rfl fx_in_3_3 (t := 89) rfl (fun hA7 => ?_)
        refine fx_i2 aj_d36 rfl (Nat.le_succ _) (fun _ => rfl) hlv1_0 ?_
        refine fx_gI aj_d36 rfl (Nat.le_succ _) rfl rfl (Or.inl rfl) ?_
        refine fx_i2 aj_d36 rfl (Nat.le_succ _) (fun _ => rfl) hlv1_0 ?_
        refine fx_gF aj_d36 rfl (Nat.le_succ _) rfl rfl fx_in_3_0 (t := 78) rfl (fun hA8 => ?_)
        refine fx_i2 aj_d36 rfl (Nat.le_succ _) (fun _ => rfl) hlv1_0 ?_
        refine fx_gI aj_d36 rfl (Nat.le_succ _) rfl rfl (Or.inl rfl) ?_
        refine fx_cv aj_d36 rfl (Nat.le_succ _) rfl [_] rfl rfl (gx_37_ok (X.1 87 7)) ?_
        rintro _ X9 ⟨w10, rfl, hR9⟩ hok9 hle9
        refine fx_qc hR9 ?_
        show fx_W _ _ _ 52 lv1 [.long w10, .int (X.1 87 9), .ref 89] _ _
        refine fx_sL aj_d36 rfl (Nat.le_succ _) (fun g110 g111 => ?_)
        refine fx_qa (c := 0 ≤ ((X.1 87 9)).toInt ∧ ((X.1 87 9)).toInt < ((10 : Nat) : Int)) ⟨g110, fx_lnk g111 ((hle9.2 _ (by rw [hA7]; decide)).trans hA7)⟩ ?_
        refine fx_qX (fun X12 eX12 => ?_)
        show fx_W _ _ _ 53 lv1 [] _ _
        refine fx_i2 aj_d36 rfl (Nat.le_succ _) (fun _ => rfl) hlv1_0 ?_
        refine fx_gF aj_d36 rfl (Nat.le_succ _) rfl rfl fx_in_3_4 (t := 90) rfl (fun hA13 => ?_)
        refine fx_i2 aj_d36 rfl (Nat.le_succ _) (fun _ => rfl) hlv1_0 ?_
        refine fx_gI aj_d36 rfl (Nat.le_succ _) rfl rfl (Or.inl rfl) ?_
        refine fx_n (pc' := 62) (lv' := lv1) (st' := [.int (Int32.ofInt 0), .int (X12.1 87 9), .ref 90]) aj_d36 rfl (Nat.le_succ _) (fun _ => rfl) ?_
        refine fx_st aj_d36 (Or.inl ⟨rfl, rfl⟩) rfl (Nat.le_succ _) (fun g140 g141 => ?_)
        show fx_W _ _ _ _ _ _ (fx_wI X12 90 ((X12.1 87 9)).toInt.toNat (Int32.ofInt 0)) _
        refine fx_qa (c := 0 ≤ ((X12.1 87 9)).toInt ∧ ((X12.1 87 9)).toInt < ((10 : Nat) : Int)) ⟨g140, fx_lnk g141 hA13⟩ ?_
        refine fx_qX (fun X15 eX15 => ?_)
        show fx_W _ _ _ 63 lv1 [] _ _
        refine fx_i2 aj_d36 rfl (Nat.le_succ _) (fun _ => rfl) hlv1_0 ?_
        refine fx_n (pc' := 65) (lv' := lv1) (st' := [.ref 87, .ref 87]) aj_d36 rfl (Nat.le_succ _) (fun _ => rfl) ?_
        refine fx_gI aj_d36 rfl (Nat.le_succ _) rfl rfl (Or.inl rfl) ?_
        refine fx_n (pc' := 69) (lv' := lv1) (st' := [.int (Int32.ofInt 1), .int (X15.1 87 9), .ref 87]) aj_d36 rfl (Nat.le_succ _) (fun _ => rfl) ?_
        refine fx_n (pc' := 70) (lv' := lv1) (st' := [.int ((X15.1 87 9) + (Int32.ofInt 1)), .ref 87]) aj_d36 rfl (Nat.le_succ _) (fun _ => rfl) ?_
        refine fx_pI aj_d36 rfl (Nat.le_succ _) rfl rfl (Or.inl rfl) fx_no_3_9 (by decide) ?_
        refine fx_qX (fun X16 eX16 => ?_)
        show fx_W _ _ _ 73 lv1 [] _ _
        refine fx_n (pc' := 74) (lv' := lv1) (st' := [.int (Int32.ofInt 1)]) aj_d36 rfl (Nat.le_succ _) (fun _ => rfl) ?_
        exact fx_ri aj_d36 rfl ⟨_, rfl, 0, rfl, rfl⟩
      · skip
        refine fx_qe (c := ((X.1 87 9)).toInt < 10) (fx_f_lt q6) ?_
        show fx_W _ _ _ 31 lv1 [] _ _
        refine fx_n (pc' := 32) (lv' := lv1) (st' := [.int (Int32.ofInt 0)]) aj_d36 rfl (Nat.le_succ _) (fun _ => rfl) ?_
        exact fx_ri aj_d36 rfl ⟨_, rfl, 0, rfl, rfl⟩
def gxT_38_14 (P : Nat → List Int32 → List Int64 → List Nat → fx_X → Int32 → fx_X → Prop) (y1 : Int64) (y3 : Int32) (X : fx_X) (v : Int32) (X' : fx_X) : Prop :=
  (if (y3).toInt < ((X.1 87 9)).toInt then ((if (y3).toInt < 10 then ((if (y3).toInt < 10 then ((0 ≤ (y3).toInt ∧ (y3).toInt < ((10 : Nat) : Int)) ∧ (if (X.2.1 89 (y3).toInt.toNat) = y1 then ((0 ≤ (y3).toInt ∧ (y3).toInt < ((10 : Nat) : Int)) ∧ (0 ≤ (y3).toInt ∧ (y3).toInt < ((10 : Nat) : Int)) ∧ ∃ X20 : fx_X, X20 = (fx_wI X 90 (y3).toInt.toNat ((X.1 90 (y3).toInt.toNat) + (Int32.ofInt 1))) ∧ (0 ≤ (y3).toInt ∧ (y3).toInt < ((10 : Nat) : Int)) ∧ (if 30 < ((X20.1 90 (y3).toInt.toNat)).toInt then (v = (Int32.ofInt 0) ∧ X' = X20) else (v = (Int32.ofInt 1) ∧ X' = X20))) else (∃ x15 : Int32, x15 = y3 + Int32.ofInt 1 ∧ P 14 [x15] [y1] [] X v X'))) else (v = (Int32.ofInt 1) ∧ X' = X))) else (v = (Int32.ofInt 1) ∧ X' = X))) else (v = (Int32.ofInt 1) ∧ X' = X))
def gxE_38 (P : Nat → List Int32 → List Int64 → List Nat → fx_X → Int32 → fx_X → Prop) (X : fx_X) (v : Int32) (X' : fx_X) : Prop :=
  ∃ (w4 : Int64) (X3 : fx_X), gx_37 (X.1 87 7) X w4 X3 ∧ P 14 [(Int32.ofInt 0)] [w4] [] X3 v X'
noncomputable def gxF_38 (n : Nat) : Nat → List Int32 → List Int64 → List Nat → fx_X → Int32 → fx_X → Prop := Nat.rec (motive := fun _ => Nat → List Int32 → List Int64 → List Nat → fx_X → Int32 → fx_X → Prop) (fun _ _ _ _ _ _ _ => False) (fun _ P l is ls rs X v X' => (l = 14 ∧ ∃ (y1 : Int64) (y3 : Int32), is = [y3] ∧ ls = [y1] ∧ rs = [] ∧ gxT_38_14 P y1 y3 X v X')) n
theorem gxI_38_14 {n : Nat} {y1 : Int64} {y3 : Int32} {X : fx_X} {v : Int32} {X' : fx_X} (h : gxT_38_14 (gxF_38 n) y1 y3 X v X') : gxF_38 (n + 1) 14 [y3] [y1] [] X v X' := ⟨rfl, y1, y3, rfl, rfl, rfl, h⟩
theorem gxO_38_14 {n : Nat} {y1 : Int64} {y3 : Int32} {X : fx_X} {v : Int32} {X' : fx_X} (h : gxF_38 (n + 1) 14 [y3] [y1] [] X v X') : gxT_38_14 (gxF_38 n) y1 y3 X v X' := by
  rcases h with ⟨-, _, _, e1, e2, e3, h⟩
  · cases e1; cases e2; cases e3; exact h
def gx_38 (X : fx_X) (v : Int32) (X' : fx_X) : Prop := ∃ n : Nat, gxE_38 (gxF_38 n) X v X'
theorem gxL_38 {tb : aj_T} : ∀ N : Nat, (∀ (lv : aj_V) (y1 : Int64) (y3 : Int32) (X : fx_X), aj_lv lv 0 = some (.ref 87) → aj_lv lv 1 = some (.long y1) → aj_lv lv 3 = some (.int y3) → fx_W tb aj_m38 N 14 lv [] X (fx_Q fx_qI (fun v X' => ∃ n : Nat, gxF_38 n 14 [y3] [y1] [] X v X'))) := by
  intro N
  induction N with
  | zero => exact (by intros; exact fx_z)
  | succ N ih =>
    skip
    · intro lv y1 y3 X hlv_0 hlv_1 hlv_3
      refine fx_mono (Q := fx_Q fx_qI (fun v X' => ∃ n : Nat, gxT_38_14 (gxF_38 n) y1 y3 X v X')) (fun r X' ⟨v, e, n, z⟩ => ⟨v, e, n + 1, gxI_38_14 z⟩) ?_
      unfold gxT_38_14
      refine fx_i0 aj_d38 rfl (Nat.le_refl _) (fun _ => rfl) hlv_3 ?_
      refine fx_i2 aj_d38 rfl (Nat.le_succ _) (fun _ => rfl) hlv_0 ?_
      refine fx_gI aj_d38 rfl (Nat.le_succ _) rfl rfl (Or.inl rfl) ?_
      refine fx_b (tgt := 84) aj_d38 rfl (Nat.le_succ _) rfl (fun q7 => ?_) (fun q7 => ?_)
      · skip
        refine fx_qe (c := (y3).toInt < ((X.1 87 9)).toInt) (fx_t_ge q7) ?_
        show fx_W _ _ _ 84 lv [] _ _
        refine fx_n (pc' := 85) (lv' := lv) (st' := [.int (Int32.ofInt 1)]) aj_d38 rfl (Nat.le_succ _) (fun _ => rfl) ?_
        exact fx_ri aj_d38 rfl ⟨_, rfl, 0, rfl, rfl⟩
      · skip
        refine fx_qi (c := (y3).toInt < ((X.1 87 9)).toInt) (fx_f_ge q7) ?_
        show fx_W _ _ _ 22 lv [] _ _
        refine fx_i0 aj_d38 rfl (Nat.le_succ _) (fun _ => rfl) hlv_3 ?_
        refine fx_i2 aj_d38 rfl (Nat.le_succ _) (fun _ => rfl) hlv_0 ?_
        refine fx_gF aj_d38 rfl (Nat.le_succ _) rfl rfl fx_in_3_3 (t := 89) rfl (fun hA8 => ?_)
        refine fx_al aj_d38 rfl (Nat.le_succ _) ?_
        rw [(hA8 : X.2.2.2.1 89 = (1, 10))]
        show fx_W _ _ _ 28 lv [.int (Int32.ofNat 10), .int y3] _ _
        refine fx_b (tgt := 84) aj_d38 rfl (Nat.le_succ _) rfl (fun q9 => ?_) (fun q9 => ?_)
        · skip
          refine fx_qe (c := (y3).toInt < 10) (fx_t_ge q9) ?_
          show fx_W _ _ _ 84 lv [] _ _
          refine fx_n (pc' := 85) (lv' := lv) (st' := [.int (Int32.ofInt 1)]) aj_d38 rfl (Nat.le_succ _) (fun _ => rfl) ?_
          exact fx_ri aj_d38 rfl ⟨_, rfl, 0, rfl, rfl⟩
        · skip
          refine fx_qi (c := (y3).toInt < 10) (fx_f_ge q9) ?_
          show fx_W _ _ _ 31 lv [] _ _
          refine fx_i0 aj_d38 rfl (Nat.le_succ _) (fun _ => rfl) hlv_3 ?_
          refine fx_i2 aj_d38 rfl (Nat.le_succ _) (fun _ => rfl) hlv_0 ?_
          refine fx_gF aj_d38 rfl (Nat.le_succ _) rfl rfl fx_in_3_4 (t := 90) rfl (fun hA10 => ?_)
          refine fx_al aj_d38 rfl (Nat.le_succ _) ?_
          rw [(hA10 : X.2.2.2.1 90 = (0, 10))]
          show fx_W _ _ _ 37 lv [.int (Int32.ofNat 10), .int y3] _ _
          refine fx_b (tgt := 84) aj_d38 rfl (Nat.le_succ _) rfl (fun q11 => ?_) (fun q11 => ?_)
          · skip
            refine fx_qe (c := (y3).toInt < 10) (fx_t_ge q11) ?_
            show fx_W _ _ _ 84 lv [] _ _
            refine fx_n (pc' := 85) (lv' := lv) (st' := [.int (Int32.ofInt 1)]) aj_d38 rfl (Nat.le_succ _) (fun _ => rfl) ?_
            exact fx_ri aj_d38 rfl ⟨_, rfl, 0, rfl, rfl⟩
          · skip
            refine fx_qi (c := (y3).toInt < 10) (fx_f_ge q11) ?_
            show fx_W _ _ _ 40 lv [] _ _
            refine fx_i2 aj_d38 rfl (Nat.le_succ _) (fun _ => rfl) hlv_0 ?_
            refine fx_gF aj_d38 rfl (Nat.le_succ _) rfl rfl fx_in_3_3 (t := 89) rfl (fun hA12 => ?_)
            refine fx_i0 aj_d38 rfl (Nat.le_succ _) (fun _ => rfl) hlv_3 ?_
            refine fx_ldL aj_d38 rfl (Nat.le_succ _) (fun g130 g131 => ?_)
            show fx_W _ _ _ 46 lv [.long (X.2.1 89 (y3).toInt.toNat)] _ _
            refine fx_qa (c := 0 ≤ (y3).toInt ∧ (y3).toInt < ((10 : Nat) : Int)) ⟨g130, fx_lnk g131 hA12⟩ ?_
            refine fx_i1 aj_d38 rfl (Nat.le_succ _) (fun _ => rfl) hlv_1 ?_
            refine fx_n (pc' := 48) (lv' := lv) (st' := [.int (lg_cmp (X.2.1 89 (y3).toInt.toNat) y1)]) aj_d38 rfl (Nat.le_succ _) (fun _ => rfl) ?_
            refine fx_b0 (tgt := 78) aj_d38 rfl (Nat.le_succ _) rfl (fun q14 => ?_) (fun q14 => ?_)
            · skip
              refine fx_qe (c := (X.2.1 89 (y3).toInt.toNat) = y1) (fun z => (fx_t_ne q14) (fx_lc.mpr z)) ?_
              show fx_W _ _ _ 78 lv [] _ _
              refine fx_incq aj_d38 rfl (Nat.le_succ _) hlv_3 (by decide) (fun x15 ex15 => ?_)
              obtain ⟨lv16, elv16⟩ : ∃ l, l = aj_set1 lv 3 (.int x15) := ⟨_, rfl⟩
              rw [← elv16]
              have hlv16_0 : aj_lv lv16 0 = some (.ref 87) := fx_e1 elv16 hlv_0 (by decide) (Or.inl (by decide))
              have hlv16_1 : aj_lv lv16 1 = some (.long y1) := fx_e1 elv16 hlv_1 (by decide) (Or.inl (by decide))
              have hlv16_3 : aj_lv lv16 3 = some (.int x15) := by rw [elv16]; exact ak_set1_eq _ _ _
              show fx_W _ _ _ 81 lv16 [] _ _
              refine fx_n (pc' := 14) (lv' := lv16) (st' := []) aj_d38 rfl (Nat.le_succ _) (fun _ => rfl) ?_
              exact (ih) lv16 (y1) (x15) X  hlv16_0 hlv16_1 hlv16_3
            · skip
              refine fx_qi (c := (X.2.1 89 (y3).toInt.toNat) = y1) (fx_lc.mp (fx_f_ne q14)) ?_
              show fx_W _ _ _ 51 lv [] _ _
              refine fx_i2 aj_d38 rfl (Nat.le_succ _) (fun _ => rfl) hlv_0 ?_
              refine fx_gF aj_d38 rfl (Nat.le_succ _) rfl rfl fx_in_3_4 (t := 90) rfl (fun hA17 => ?_)
              refine fx_i0 aj_d38 rfl (Nat.le_succ _) (fun _ => rfl) hlv_3 ?_
              refine fx_n (pc' := 57) (lv' := lv) (st' := [.int y3, .ref 90, .int y3, .ref 90]) aj_d38 rfl (Nat.le_succ _) (fun _ => rfl) ?_
              refine fx_ld aj_d38 (Or.inl rfl) rfl (Nat.le_succ _) (fun g180 g181 => ?_)
              show fx_W _ _ _ 58 lv [.int (X.1 90 (y3).toInt.toNat), .int y3, .ref 90] _ _
              refine fx_qa (c := 0 ≤ (y3).toInt ∧ (y3).toInt < ((10 : Nat) : Int)) ⟨g180, fx_lnk g181 hA17⟩ ?_
              refine fx_n (pc' := 59) (lv' := lv) (st' := [.int (Int32.ofInt 1), .int (X.1 90 (y3).toInt.toNat), .int y3, .ref 90]) aj_d38 rfl (Nat.le_succ _) (fun _ => rfl) ?_
              refine fx_n (pc' := 60) (lv' := lv) (st' := [.int ((X.1 90 (y3).toInt.toNat) + (Int32.ofInt 1)), .int y3, .ref 90]) aj_d38 rfl (Nat.le_succ _) (fun _ => rfl) ?_
              refine fx_st aj_d38 (Or.inl ⟨rfl, rfl⟩) rfl (Nat.le_succ _) (fun g190 g191 => ?_)
              show fx_W _ _ _ _ _ _ (fx_wI X 90 (y3).toInt.toNat ((X.1 90 (y3).toInt.toNat) + (Int32.ofInt 1))) _
              refine fx_qa (c := 0 ≤ (y3).toInt ∧ (y3).toInt < ((10 : Nat) : Int)) ⟨g190, fx_lnk g191 hA17⟩ ?_
              refine fx_qX (fun X20 eX20 => ?_)
              show fx_W _ _ _ 61 lv [] _ _
              refine fx_i2 aj_d38 rfl (Nat.le_succ _) (fun _ => rfl) hlv_0 ?_
              refine fx_gF aj_d38 rfl (Nat.le_succ _) rfl rfl fx_in_3_4 (t := 90) rfl (fun hA21 => ?_)
              refine fx_i0 aj_d38 rfl (Nat.le_succ _) (fun _ => rfl) hlv_3 ?_
              refine fx_ld aj_d38 (Or.inl rfl) rfl (Nat.le_succ _) (fun g220 g221 => ?_)
              show fx_W _ _ _ 67 lv [.int (X20.1 90 (y3).toInt.toNat)] _ _
              refine fx_qa (c := 0 ≤ (y3).toInt ∧ (y3).toInt < ((10 : Nat) : Int)) ⟨g220, fx_lnk g221 hA21⟩ ?_
              refine fx_n (pc' := 69) (lv' := lv) (st' := [.int ((Int8.ofInt 30).toInt32), .int (X20.1 90 (y3).toInt.toNat)]) aj_d38 rfl (Nat.le_succ _) (fun _ => rfl) ?_
              refine fx_b (tgt := 76) aj_d38 rfl (Nat.le_succ _) rfl (fun q23 => ?_) (fun q23 => ?_)
              · skip
                refine fx_qi (c := 30 < ((X20.1 90 (y3).toInt.toNat)).toInt) (fx_t_gt q23) ?_
                show fx_W _ _ _ 76 lv [] _ _
                refine fx_n (pc' := 77) (lv' := lv) (st' := [.int (Int32.ofInt 0)]) aj_d38 rfl (Nat.le_succ _) (fun _ => rfl) ?_
                exact fx_ri aj_d38 rfl ⟨_, rfl, 0, rfl, rfl⟩
              · skip
                refine fx_qe (c := 30 < ((X20.1 90 (y3).toInt.toNat)).toInt) (fx_f_gt q23) ?_
                show fx_W _ _ _ 72 lv [] _ _
                refine fx_n (pc' := 73) (lv' := lv) (st' := [.int (Int32.ofInt 1)]) aj_d38 rfl (Nat.le_succ _) (fun _ => rfl) ?_
                refine fx_n (pc' := 77) (lv' := lv) (st' := [.int (Int32.ofInt 1)]) aj_d38 rfl (Nat.le_succ _) (fun _ => rfl) ?_
                exact fx_ri aj_d38 rfl ⟨_, rfl, 0, rfl, rfl⟩
theorem gx_38_ok {tb : aj_T} {X : fx_X} : fx_K tb 38 [.ref 87] X (fx_Q fx_qI (fun v X' => gx_38 X v X')) := by
  refine fx_m aj_m38_at rfl (fun N => ?_)
  refine fx_mono (Q := fx_Q fx_qI (fun v X' => ∃ n : Nat, gxE_38 (gxF_38 n) X v X')) (fun r X' h => h) ?_
  unfold gxE_38
  show fx_W _ _ _ 0 [(0, .ref 87)] [] _ _
  obtain ⟨lv1, elv1⟩ : ∃ l : aj_V, l = [(0, .ref 87)] := ⟨_, rfl⟩
  rw [← elv1]
  have hlv1_0 : aj_lv lv1 0 = some (.ref 87) := by rw [elv1]; rfl
  refine fx_i2 aj_d38 rfl (Nat.le_succ _) (fun _ => rfl) hlv1_0 ?_
  refine fx_gF aj_d38 rfl (Nat.le_succ _) rfl rfl fx_in_3_0 (t := 78) rfl (fun hA2 => ?_)
  refine fx_i2 aj_d38 rfl (Nat.le_succ _) (fun _ => rfl) hlv1_0 ?_
  refine fx_gI aj_d38 rfl (Nat.le_succ _) rfl rfl (Or.inl rfl) ?_
  refine fx_cv aj_d38 rfl (Nat.le_succ _) rfl [_] rfl rfl (gx_37_ok (X.1 87 7)) ?_
  rintro _ X3 ⟨w4, rfl, hR3⟩ hok3 hle3
  refine fx_qc hR3 ?_
  show fx_W _ _ _ 11 lv1 [.long w4] _ _
  refine fx_s1 (j := 1) aj_d38 rfl (Nat.le_succ _) (by decide) (fun _ => rfl) ?_
  obtain ⟨lv5, elv5⟩ : ∃ l, l = aj_set2 lv1 1 (.long w4) := ⟨_, rfl⟩
  rw [← elv5]
  have hlv5_0 : aj_lv lv5 0 = some (.ref 87) := fx_e2 elv5 hlv1_0 (by decide) (by decide) (Or.inr rfl)
  have hlv5_1 : aj_lv lv5 1 = some (.long w4) := by rw [elv5]; exact ak_set2_eq _ _ _
  show fx_W _ _ _ 12 lv5 [] _ _
  refine fx_n (pc' := 13) (lv' := lv5) (st' := [.int (Int32.ofInt 0)]) aj_d38 rfl (Nat.le_succ _) (fun _ => rfl) ?_
  refine fx_s0 (j := 3) aj_d38 rfl (Nat.le_succ _) (by decide) (fun _ => rfl) ?_
  obtain ⟨lv6, elv6⟩ : ∃ l, l = aj_set1 lv5 3 (.int (Int32.ofInt 0)) := ⟨_, rfl⟩
  rw [← elv6]
  have hlv6_0 : aj_lv lv6 0 = some (.ref 87) := fx_e1 elv6 hlv5_0 (by decide) (Or.inl (by decide))
  have hlv6_1 : aj_lv lv6 1 = some (.long w4) := fx_e1 elv6 hlv5_1 (by decide) (Or.inl (by decide))
  have hlv6_3 : aj_lv lv6 3 = some (.int (Int32.ofInt 0)) := by rw [elv6]; exact ak_set1_eq _ _ _
  show fx_W _ _ _ 14 lv6 [] _ _
  exact ((gxL_38 N)) lv6 (w4) ((Int32.ofInt 0)) X3  hlv6_0 hlv6_1 hlv6_3
def gx_35 (p1 : Int32) (X : fx_X) (v : Int32) (X' : fx_X) : Prop :=
  (if (p1).toInt = 170 then (∃ X4 : fx_X, X4 = (fx_wI X 87 14 ((X.1 87 14) + (Int32.ofInt 1))) ∧ (if 8 < ((X4.1 87 14)).toInt then (v = (Int32.ofInt 0) ∧ X' = X4) else (v = (Int32.ofInt 1) ∧ X' = X4))) else ((if (p1).toInt = 171 then (∃ X7 : fx_X, X7 = (fx_wI X 87 14 ((X.1 87 14) - (Int32.ofInt 1))) ∧ v = (Int32.ofInt 1) ∧ X' = X7) else ((if (p1).toInt = 172 then (∃ X9 : fx_X, X9 = (fx_wI X 87 12 ((X.1 87 12) + (Int32.ofInt 1))) ∧ (if 40 < ((X9.1 87 12)).toInt then (v = (Int32.ofInt 0) ∧ X' = X9) else (v = (Int32.ofInt 1) ∧ X' = X9))) else ((if (p1).toInt = 180 then (∃ X12 : fx_X, X12 = (fx_wI X 87 13 (Int32.ofInt 0)) ∧ ∃ X13 : fx_X, X13 = (fx_wI X12 87 8 ((X12.1 87 8) + (Int32.ofInt 1))) ∧ (if 8 < ((X13.1 87 8)).toInt then (v = (Int32.ofInt 0) ∧ X' = X13) else (v = (Int32.ofInt 1) ∧ X' = X13))) else ((if (p1).toInt = 181 then (∃ X16 : fx_X, X16 = (fx_wI X 87 13 ((X.1 87 13) + (Int32.ofInt 1))) ∧ (if 16 < ((X16.1 87 13)).toInt then (v = (Int32.ofInt 0) ∧ X' = X16) else (v = (Int32.ofInt 1) ∧ X' = X16))) else ((if (p1).toInt = 184 then (∃ X19 : fx_X, X19 = (fx_wI X 87 10 (Int32.ofInt 0)) ∧ ∃ (w21 : Int32) (X20 : fx_X), gx_36 X19 w21 X20 ∧ v = w21 ∧ X' = X20) else ((if (p1).toInt = 185 then (∃ X23 : fx_X, X23 = (fx_wI X 87 10 ((X.1 87 10) + (Int32.ofInt 1))) ∧ (if 4 < ((X23.1 87 10)).toInt then (v = (Int32.ofInt 0) ∧ X' = X23) else (v = (Int32.ofInt 1) ∧ X' = X23))) else ((if (p1).toInt = 186 then (∃ (w27 : Int32) (X26 : fx_X), gx_38 X w27 X26 ∧ v = w27 ∧ X' = X26) else ((if (p1).toInt = 189 then (∃ X29 : fx_X, X29 = (fx_wI X 87 11 ((X.1 87 11) + (Int32.ofInt 1))) ∧ (if 12 < ((X29.1 87 11)).toInt then (v = (Int32.ofInt 0) ∧ X' = X29) else (v = (Int32.ofInt 1) ∧ X' = X29))) else ((if (p1).toInt = 191 then (∃ X32 : fx_X, X32 = (fx_wI X 87 10 (Int32.ofInt 0)) ∧ ∃ (w34 : Int32) (X33 : fx_X), gx_36 X32 w34 X33 ∧ v = w34 ∧ X' = X33) else (v = (Int32.ofInt 1) ∧ X' = X))))))))))))))))))))
theorem gx_35_ok {tb : aj_T} (p1 : Int32) {X : fx_X} : fx_K tb 35 [.ref 87, .int p1] X (fx_Q fx_qI (fun v X' => gx_35 p1 X v X')) := by
  refine fx_m aj_m35_at rfl (fun N => ?_)
  refine fx_mono (Q := fx_Q fx_qI (fun v X' => ∃ n : Nat, gx_35 p1 X v X')) (fun r X' ⟨v, e, _, z⟩ => ⟨v, e, z⟩) ?_
  unfold gx_35
  show fx_W _ _ _ 0 [(0, .ref 87), (1, .int p1)] [] _ _
  obtain ⟨lv1, elv1⟩ : ∃ l : aj_V, l = [(0, .ref 87), (1, .int p1)] := ⟨_, rfl⟩
  rw [← elv1]
  have hlv1_0 : aj_lv lv1 0 = some (.ref 87) := by rw [elv1]; rfl
  have hlv1_1 : aj_lv lv1 1 = some (.int p1) := by rw [elv1]; rfl
  refine fx_i0 aj_d35 rfl (Nat.le_succ _) (fun _ => rfl) hlv1_1 ?_
  by_cases q3 : (p1).toInt = 170
  · skip
    refine fx_qi (c := (p1).toInt = 170) q3 ?_
    refine fx_ts (tgt := 248) aj_d35 rfl (Nat.le_succ _) q3 (by decide) rfl rfl ?_
    show fx_W _ _ _ 248 lv1 [] _ _
    refine fx_i2 aj_d35 rfl (Nat.le_succ _) (fun _ => rfl) hlv1_0 ?_
    refine fx_n (pc' := 250) (lv' := lv1) (st' := [.ref 87, .ref 87]) aj_d35 rfl (Nat.le_succ _) (fun _ => rfl) ?_
    refine fx_gI aj_d35 rfl (Nat.le_succ _) rfl rfl (Or.inl rfl) ?_
    refine fx_n (pc' := 254) (lv' := lv1) (st' := [.int (Int32.ofInt 1), .int (X.1 87 14), .ref 87]) aj_d35 rfl (Nat.le_succ _) (fun _ => rfl) ?_
    refine fx_n (pc' := 255) (lv' := lv1) (st' := [.int ((X.1 87 14) + (Int32.ofInt 1)), .ref 87]) aj_d35 rfl (Nat.le_succ _) (fun _ => rfl) ?_
    refine fx_pI aj_d35 rfl (Nat.le_succ _) rfl rfl (Or.inl rfl) fx_no_3_14 (by decide) ?_
    refine fx_qX (fun X4 eX4 => ?_)
    show fx_W _ _ _ 258 lv1 [] _ _
    refine fx_i2 aj_d35 rfl (Nat.le_succ _) (fun _ => rfl) hlv1_0 ?_
    refine fx_gI aj_d35 rfl (Nat.le_succ _) rfl rfl (Or.inl rfl) ?_
    refine fx_n (pc' := 264) (lv' := lv1) (st' := [.int ((Int8.ofInt 8).toInt32), .int (X4.1 87 14)]) aj_d35 rfl (Nat.le_succ _) (fun _ => rfl) ?_
    refine fx_b (tgt := 271) aj_d35 rfl (Nat.le_succ _) rfl (fun q5 => ?_) (fun q5 => ?_)
    · skip
      refine fx_qi (c := 8 < ((X4.1 87 14)).toInt) (fx_t_gt q5) ?_
      show fx_W _ _ _ 271 lv1 [] _ _
      refine fx_n (pc' := 272) (lv' := lv1) (st' := [.int (Int32.ofInt 0)]) aj_d35 rfl (Nat.le_succ _) (fun _ => rfl) ?_
      exact fx_ri aj_d35 rfl ⟨_, rfl, 0, rfl, rfl⟩
    · skip
      refine fx_qe (c := 8 < ((X4.1 87 14)).toInt) (fx_f_gt q5) ?_
      show fx_W _ _ _ 267 lv1 [] _ _
      refine fx_n (pc' := 268) (lv' := lv1) (st' := [.int (Int32.ofInt 1)]) aj_d35 rfl (Nat.le_succ _) (fun _ => rfl) ?_
      refine fx_n (pc' := 272) (lv' := lv1) (st' := [.int (Int32.ofInt 1)]) aj_d35 rfl (Nat.le_succ _) (fun _ => rfl) ?_
      exact fx_ri aj_d35 rfl ⟨_, rfl, 0, rfl, rfl⟩
  · skip
    refine fx_qe (c := (p1).toInt = 170) q3 ?_
    by_cases q6 : (p1).toInt = 171
    · skip
      refine fx_qi (c := (p1).toInt = 171) q6 ?_
      refine fx_ts (tgt := 273) aj_d35 rfl (Nat.le_succ _) q6 (by decide) rfl rfl ?_
      show fx_W _ _ _ 273 lv1 [] _ _
      refine fx_i2 aj_d35 rfl (Nat.le_succ _) (fun _ => rfl) hlv1_0 ?_
      refine fx_n (pc' := 275) (lv' := lv1) (st' := [.ref 87, .ref 87]) aj_d35 rfl (Nat.le_succ _) (fun _ => rfl) ?_
      refine fx_gI aj_d35 rfl (Nat.le_succ _) rfl rfl (Or.inl rfl) ?_
      refine fx_n (pc' := 279) (lv' := lv1) (st' := [.int (Int32.ofInt 1), .int (X.1 87 14), .ref 87]) aj_d35 rfl (Nat.le_succ _) (fun _ => rfl) ?_
      refine fx_n (pc' := 280) (lv' := lv1) (st' := [.int ((X.1 87 14) - (Int32.ofInt 1)), .ref 87]) aj_d35 rfl (Nat.le_succ _) (fun _ => rfl) ?_
      refine fx_pI aj_d35 rfl (Nat.le_succ _) rfl rfl (Or.inl rfl) fx_no_3_14 (by decide) ?_
      refine fx_qX (fun X7 eX7 => ?_)
      show fx_W _ _ _ 283 lv1 [] _ _
      refine fx_n (pc' := 284) (lv' := lv1) (st' := [.int (Int32.ofInt 1)]) aj_d35 rfl (Nat.le_succ _) (fun _ => rfl) ?_
      exact fx_ri aj_d35 rfl ⟨_, rfl, 0, rfl, rfl⟩
    · skip
      refine fx_qe (c := (p1).toInt = 171) q6 ?_
      by_cases q8 : (p1).toInt = 172
      · skip
        refine fx_qi (c := (p1).toInt = 172) q8 ?_
        refine fx_ts (tgt := 198) aj_d35 rfl (Nat.le_succ _) q8 (by decide) rfl rfl ?_
        show fx_W _ _ _ 198 lv1 [] _ _
        refine fx_i2 aj_d35 rfl (Nat.le_succ _) (fun _ => rfl) hlv1_0 ?_
        refine fx_n (pc' := 200) (lv' := lv1) (st' := [.ref 87, .ref 87]) aj_d35 rfl (Nat.le_succ _) (fun _ => rfl) ?_
        refine fx_gI aj_d35 rfl (Nat.le_succ _) rfl rfl (Or.inl rfl) ?_
        refine fx_n (pc' := 204) (lv' := lv1) (st' := [.int (Int32.ofInt 1), .int (X.1 87 12), .ref 87]) aj_d35 rfl (Nat.le_succ _) (fun _ => rfl) ?_
        refine fx_n (pc' := 205) (lv' := lv1) (st' := [.int ((X.1 87 12) + (Int32.ofInt 1)), .ref 87]) aj_d35 rfl (Nat.le_succ _) (fun _ => rfl) ?_
        refine fx_pI aj_d35 rfl (Nat.le_succ _) rfl rfl (Or.inl rfl) fx_no_3_12 (by decide) ?_
        refine fx_qX (fun X9 eX9 => ?_)
        show fx_W _ _ _ 208 lv1 [] _ _
        refine fx_i2 aj_d35 rfl (Nat.le_succ _) (fun _ => rfl) hlv1_0 ?_
        refine fx_gI aj_d35 rfl (Nat.le_succ _) rfl rfl (Or.inl rfl) ?_
        refine fx_n (pc' := 214) (lv' := lv1) (st' := [.int ((Int8.ofInt 40).toInt32), .int (X9.1 87 12)]) aj_d35 rfl (Nat.le_succ _) (fun _ => rfl) ?_
        refine fx_b (tgt := 221) aj_d35 rfl (Nat.le_succ _) rfl (fun q10 => ?_) (fun q10 => ?_)
        · skip
          refine fx_qi (c := 40 < ((X9.1 87 12)).toInt) (fx_t_gt q10) ?_
          show fx_W _ _ _ 221 lv1 [] _ _
          refine fx_n (pc' := 222) (lv' := lv1) (st' := [.int (Int32.ofInt 0)]) aj_d35 rfl (Nat.le_succ _) (fun _ => rfl) ?_
          exact fx_ri aj_d35 rfl ⟨_, rfl, 0, rfl, rfl⟩
        · skip
          refine fx_qe (c := 40 < ((X9.1 87 12)).toInt) (fx_f_gt q10) ?_
          show fx_W _ _ _ 217 lv1 [] _ _
          refine fx_n (pc' := 218) (lv' := lv1) (st' := [.int (Int32.ofInt 1)]) aj_d35 rfl (Nat.le_succ _) (fun _ => rfl) ?_
          refine fx_n (pc' := 222) (lv' := lv1) (st' := [.int (Int32.ofInt 1)]) aj_d35 rfl (Nat.le_succ _) (fun _ => rfl) ?_
          exact fx_ri aj_d35 rfl ⟨_, rfl, 0, rfl, rfl⟩
      · skip
        refine fx_qe (c := (p1).toInt = 172) q8 ?_
        by_cases q11 : (p1).toInt = 180
        · skip
          refine fx_qi (c := (p1).toInt = 180) q11 ?_
          refine fx_ts (tgt := 104) aj_d35 rfl (Nat.le_succ _) q11 (by decide) rfl rfl ?_
          show fx_W _ _ _ 104 lv1 [] _ _
          refine fx_i2 aj_d35 rfl (Nat.le_succ _) (fun _ => rfl) hlv1_0 ?_
          refine fx_n (pc' := 106) (lv' := lv1) (st' := [.int (Int32.ofInt 0), .ref 87]) aj_d35 rfl (Nat.le_succ _) (fun _ => rfl) ?_
          refine fx_pI aj_d35 rfl (Nat.le_succ _) rfl rfl (Or.inl rfl) fx_no_3_13 (by decide) ?_
          refine fx_qX (fun X12 eX12 => ?_)
          show fx_W _ _ _ 109 lv1 [] _ _
          refine fx_i2 aj_d35 rfl (Nat.le_succ _) (fun _ => rfl) hlv1_0 ?_
          refine fx_n (pc' := 111) (lv' := lv1) (st' := [.ref 87, .ref 87]) aj_d35 rfl (Nat.le_succ _) (fun _ => rfl) ?_
          refine fx_gI aj_d35 rfl (Nat.le_succ _) rfl rfl (Or.inl rfl) ?_
          refine fx_n (pc' := 115) (lv' := lv1) (st' := [.int (Int32.ofInt 1), .int (X12.1 87 8), .ref 87]) aj_d35 rfl (Nat.le_succ _) (fun _ => rfl) ?_
          refine fx_n (pc' := 116) (lv' := lv1) (st' := [.int ((X12.1 87 8) + (Int32.ofInt 1)), .ref 87]) aj_d35 rfl (Nat.le_succ _) (fun _ => rfl) ?_
          refine fx_pI aj_d35 rfl (Nat.le_succ _) rfl rfl (Or.inl rfl) fx_no_3_8 (by decide) ?_
          refine fx_qX (fun X13 eX13 => ?_)
          show fx_W _ _ _ 119 lv1 [] _ _
          refine fx_i2 aj_d35 rfl (Nat.le_succ _) (fun _ => rfl) hlv1_0 ?_
          refine fx_gI aj_d35 rfl (Nat.le_succ _) rfl rfl (Or.inl rfl) ?_
          refine fx_n (pc' := 125) (lv' := lv1) (st' := [.int ((Int8.ofInt 8).toInt32), .int (X13.1 87 8)]) aj_d35 rfl (Nat.le_succ _) (fun _ => rfl) ?_
          refine fx_b (tgt := 132) aj_d35 rfl (Nat.le_succ _) rfl (fun q14 => ?_) (fun q14 => ?_)
          · skip
            refine fx_qi (c := 8 < ((X13.1 87 8)).toInt) (fx_t_gt q14) ?_
            show fx_W _ _ _ 132 lv1 [] _ _
            refine fx_n (pc' := 133) (lv' := lv1) (st' := [.int (Int32.ofInt 0)]) aj_d35 rfl (Nat.le_succ _) (fun _ => rfl) ?_
            exact fx_ri aj_d35 rfl ⟨_, rfl, 0, rfl, rfl⟩
          · skip
            refine fx_qe (c := 8 < ((X13.1 87 8)).toInt) (fx_f_gt q14) ?_
            show fx_W _ _ _ 128 lv1 [] _ _
            refine fx_n (pc' := 129) (lv' := lv1) (st' := [.int (Int32.ofInt 1)]) aj_d35 rfl (Nat.le_succ _) (fun _ => rfl) ?_
            refine fx_n (pc' := 133) (lv' := lv1) (st' := [.int (Int32.ofInt 1)]) aj_d35 rfl (Nat.le_succ _) (fun _ => rfl) ?_
            exact fx_ri aj_d35 rfl ⟨_, rfl, 0, rfl, rfl⟩
        · skip
          refine fx_qe (c := (p1).toInt = 180) q11 ?_
          by_cases q15 : (p1).toInt = 181
          · skip
            refine fx_qi (c := (p1).toInt = 181) q15 ?_
            refine fx_ts (tgt := 223) aj_d35 rfl (Nat.le_succ _) q15 (by decide) rfl rfl ?_
            show fx_W _ _ _ 223 lv1 [] _ _
            refine fx_i2 aj_d35 rfl (Nat.le_succ _) (fun _ => rfl) hlv1_0 ?_
            refine fx_n (pc' := 225) (lv' := lv1) (st' := [.ref 87, .ref 87]) aj_d35 rfl (Nat.le_succ _) (fun _ => rfl) ?_
            refine fx_gI aj_d35 rfl (Nat.le_succ _) rfl rfl (Or.inl rfl) ?_
            refine fx_n (pc' := 229) (lv' := lv1) (st' := [.int (Int32.ofInt 1), .int (X.1 87 13), .ref 87]) aj_d35 rfl (Nat.le_succ _) (fun _ => rfl) ?_
            refine fx_n (pc' := 230) (lv' := lv1) (st' := [.int ((X.1 87 13) + (Int32.ofInt 1)), .ref 87]) aj_d35 rfl (Nat.le_succ _) (fun _ => rfl) ?_
            refine fx_pI aj_d35 rfl (Nat.le_succ _) rfl rfl (Or.inl rfl) fx_no_3_13 (by decide) ?_
            refine fx_qX (fun X16 eX16 => ?_)
            show fx_W _ _ _ 233 lv1 [] _ _
            refine fx_i2 aj_d35 rfl (Nat.le_succ _) (fun _ => rfl) hlv1_0 ?_
            refine fx_gI aj_d35 rfl (Nat.le_succ _) rfl rfl (Or.inl rfl) ?_
            refine fx_n (pc' := 239) (lv' := lv1) (st' := [.int ((Int8.ofInt 16).toInt32), .int (X16.1 87 13)]) aj_d35 rfl (Nat.le_succ _) (fun _ => rfl) ?_
            refine fx_b (tgt := 246) aj_d35 rfl (Nat.le_succ _) rfl (fun q17 => ?_) (fun q17 => ?_)
            · skip
              refine fx_qi (c := 16 < ((X16.1 87 13)).toInt) (fx_t_gt q17) ?_
              show fx_W _ _ _ 246 lv1 [] _ _
              refine fx_n (pc' := 247) (lv' := lv1) (st' := [.int (Int32.ofInt 0)]) aj_d35 rfl (Nat.le_succ _) (fun _ => rfl) ?_
              exact fx_ri aj_d35 rfl ⟨_, rfl, 0, rfl, rfl⟩
            · skip
              refine fx_qe (c := 16 < ((X16.1 87 13)).toInt) (fx_f_gt q17) ?_
              show fx_W _ _ _ 242 lv1 [] _ _
              refine fx_n (pc' := 243) (lv' := lv1) (st' := [.int (Int32.ofInt 1)]) aj_d35 rfl (Nat.le_succ _) (fun _ => rfl) ?_
              refine fx_n (pc' := 247) (lv' := lv1) (st' := [.int (Int32.ofInt 1)]) aj_d35 rfl (Nat.le_succ _) (fun _ => rfl) ?_
              exact fx_ri aj_d35 rfl ⟨_, rfl, 0, rfl, rfl⟩
          · skip
            refine fx_qe (c := (p1).toInt = 181) q15 ?_
            by_cases q18 : (p1).toInt = 184
            · skip
              refine fx_qi (c := (p1).toInt = 184) q18 ?_
              refine fx_ts (tgt := 134) aj_d35 rfl (Nat.le_succ _) q18 (by decide) rfl rfl ?_
              show fx_W _ _ _ 134 lv1 [] _ _
              refine fx_i2 aj_d35 rfl (Nat.le_succ _) (fun _ => rfl) hlv1_0 ?_
              refine fx_n (pc' := 136) (lv' := lv1) (st' := [.int (Int32.ofInt 0), .ref 87]) aj_d35 rfl (Nat.le_succ _) (fun _ => rfl) ?_
              refine fx_pI aj_d35 rfl (Nat.le_succ _) rfl rfl (Or.inl rfl) fx_no_3_10 (by decide) ?_
              refine fx_qX (fun X19 eX19 => ?_)
              show fx_W _ _ _ 139 lv1 [] _ _
              refine fx_i2 aj_d35 rfl (Nat.le_succ _) (fun _ => rfl) hlv1_0 ?_
              refine fx_cv aj_d35 rfl (Nat.le_succ _) rfl [] rfl rfl (gx_36_ok) ?_
              rintro _ X20 ⟨w21, rfl, hR20⟩ hok20 hle20
              refine fx_qc hR20 ?_
              show fx_W _ _ _ 143 lv1 [.int w21] _ _
              exact fx_ri aj_d35 rfl ⟨_, rfl, 0, rfl, rfl⟩
            · skip
              refine fx_qe (c := (p1).toInt = 184) q18 ?_
              by_cases q22 : (p1).toInt = 185
              · skip
                refine fx_qi (c := (p1).toInt = 185) q22 ?_
                refine fx_ts (tgt := 144) aj_d35 rfl (Nat.le_succ _) q22 (by decide) rfl rfl ?_
                show fx_W _ _ _ 144 lv1 [] _ _
                refine fx_i2 aj_d35 rfl (Nat.le_succ _) (fun _ => rfl) hlv1_0 ?_
                refine fx_n (pc' := 146) (lv' := lv1) (st' := [.ref 87, .ref 87]) aj_d35 rfl (Nat.le_succ _) (fun _ => rfl) ?_
                refine fx_gI aj_d35 rfl (Nat.le_succ _) rfl rfl (Or.inl rfl) ?_
                refine fx_n (pc' := 150) (lv' := lv1) (st' := [.int (Int32.ofInt 1), .int (X.1 87 10), .ref 87]) aj_d35 rfl (Nat.le_succ _) (fun _ => rfl) ?_
                refine fx_n (pc' := 151) (lv' := lv1) (st' := [.int ((X.1 87 10) + (Int32.ofInt 1)), .ref 87]) aj_d35 rfl (Nat.le_succ _) (fun _ => rfl) ?_
                refine fx_pI aj_d35 rfl (Nat.le_succ _) rfl rfl (Or.inl rfl) fx_no_3_10 (by decide) ?_
                refine fx_qX (fun X23 eX23 => ?_)
                show fx_W _ _ _ 154 lv1 [] _ _
                refine fx_i2 aj_d35 rfl (Nat.le_succ _) (fun _ => rfl) hlv1_0 ?_
                refine fx_gI aj_d35 rfl (Nat.le_succ _) rfl rfl (Or.inl rfl) ?_
                refine fx_n (pc' := 159) (lv' := lv1) (st' := [.int (Int32.ofInt 4), .int (X23.1 87 10)]) aj_d35 rfl (Nat.le_succ _) (fun _ => rfl) ?_
                refine fx_b (tgt := 166) aj_d35 rfl (Nat.le_succ _) rfl (fun q24 => ?_) (fun q24 => ?_)
                · skip
                  refine fx_qi (c := 4 < ((X23.1 87 10)).toInt) (fx_t_gt q24) ?_
                  show fx_W _ _ _ 166 lv1 [] _ _
                  refine fx_n (pc' := 167) (lv' := lv1) (st' := [.int (Int32.ofInt 0)]) aj_d35 rfl (Nat.le_succ _) (fun _ => rfl) ?_
                  exact fx_ri aj_d35 rfl ⟨_, rfl, 0, rfl, rfl⟩
                · skip
                  refine fx_qe (c := 4 < ((X23.1 87 10)).toInt) (fx_f_gt q24) ?_
                  show fx_W _ _ _ 162 lv1 [] _ _
                  refine fx_n (pc' := 163) (lv' := lv1) (st' := [.int (Int32.ofInt 1)]) aj_d35 rfl (Nat.le_succ _) (fun _ => rfl) ?_
                  refine fx_n (pc' := 167) (lv' := lv1) (st' := [.int (Int32.ofInt 1)]) aj_d35 rfl (Nat.le_succ _) (fun _ => rfl) ?_
                  exact fx_ri aj_d35 rfl ⟨_, rfl, 0, rfl, rfl⟩
              · skip
                refine fx_qe (c := (p1).toInt = 185) q22 ?_
                by_cases q25 : (p1).toInt = 186
                · skip
                  refine fx_qi (c := (p1).toInt = 186) q25 ?_
                  refine fx_ts (tgt := 168) aj_d35 rfl (Nat.le_succ _) q25 (by decide) rfl rfl ?_
                  show fx_W _ _ _ 168 lv1 [] _ _
                  refine fx_i2 aj_d35 rfl (Nat.le_succ _) (fun _ => rfl) hlv1_0 ?_
                  refine fx_cv aj_d35 rfl (Nat.le_succ _) rfl [] rfl rfl (gx_38_ok) ?_
                  rintro _ X26 ⟨w27, rfl, hR26⟩ hok26 hle26
                  refine fx_qc hR26 ?_
                  show fx_W _ _ _ 172 lv1 [.int w27] _ _
                  exact fx_ri aj_d35 rfl ⟨_, rfl, 0, rfl, rfl⟩
                · skip
                  refine fx_qe (c := (p1).toInt = 186) q25 ?_
                  by_cases q28 : (p1).toInt = 189
                  · skip
                    refine fx_qi (c := (p1).toInt = 189) q28 ?_
                    refine fx_ts (tgt := 173) aj_d35 rfl (Nat.le_succ _) q28 (by decide) rfl rfl ?_
                    show fx_W _ _ _ 173 lv1 [] _ _
                    refine fx_i2 aj_d35 rfl (Nat.le_succ _) (fun _ => rfl) hlv1_0 ?_
                    refine fx_n (pc' := 175) (lv' := lv1) (st' := [.ref 87, .ref 87]) aj_d35 rfl (Nat.le_succ _) (fun _ => rfl) ?_
                    refine fx_gI aj_d35 rfl (Nat.le_succ _) rfl rfl (Or.inl rfl) ?_
                    refine fx_n (pc' := 179) (lv' := lv1) (st' := [.int (Int32.ofInt 1), .int (X.1 87 11), .ref 87]) aj_d35 rfl (Nat.le_succ _) (fun _ => rfl) ?_
                    refine fx_n (pc' := 180) (lv' := lv1) (st' := [.int ((X.1 87 11) + (Int32.ofInt 1)), .ref 87]) aj_d35 rfl (Nat.le_succ _) (fun _ => rfl) ?_
                    refine fx_pI aj_d35 rfl (Nat.le_succ _) rfl rfl (Or.inl rfl) fx_no_3_11 (by decide) ?_
                    refine fx_qX (fun X29 eX29 => ?_)
                    show fx_W _ _ _ 183 lv1 [] _ _
                    refine fx_i2 aj_d35 rfl (Nat.le_succ _) (fun _ => rfl) hlv1_0 ?_
                    refine fx_gI aj_d35 rfl (Nat.le_succ _) rfl rfl (Or.inl rfl) ?_
                    refine fx_n (pc' := 189) (lv' := lv1) (st' := [.int ((Int8.ofInt 12).toInt32), .int (X29.1 87 11)]) aj_d35 rfl (Nat.le_succ _) (fun _ => rfl) ?_
                    refine fx_b (tgt := 196) aj_d35 rfl (Nat.le_succ _) rfl (fun q30 => ?_) (fun q30 => ?_)
                    · skip
                      refine fx_qi (c := 12 < ((X29.1 87 11)).toInt) (fx_t_gt q30) ?_
                      show fx_W _ _ _ 196 lv1 [] _ _
                      refine fx_n (pc' := 197) (lv' := lv1) (st' := [.int (Int32.ofInt 0)]) aj_d35 rfl (Nat.le_succ _) (fun _ => rfl) ?_
                      exact fx_ri aj_d35 rfl ⟨_, rfl, 0, rfl, rfl⟩
                    · skip
                      refine fx_qe (c := 12 < ((X29.1 87 11)).toInt) (fx_f_gt q30) ?_
                      show fx_W _ _ _ 192 lv1 [] _ _
                      refine fx_n (pc' := 193) (lv' := lv1) (st' := [.int (Int32.ofInt 1)]) aj_d35 rfl (Nat.le_succ _) (fun _ => rfl) ?_
                      refine fx_n (pc' := 197) (lv' := lv1) (st' := [.int (Int32.ofInt 1)]) aj_d35 rfl (Nat.le_succ _) (fun _ => rfl) ?_
                      exact fx_ri aj_d35 rfl ⟨_, rfl, 0, rfl, rfl⟩
                  · skip
                    refine fx_qe (c := (p1).toInt = 189) q28 ?_
                    by_cases q31 : (p1).toInt = 191
                    · skip
                      refine fx_qi (c := (p1).toInt = 191) q31 ?_
                      refine fx_ts (tgt := 134) aj_d35 rfl (Nat.le_succ _) q31 (by decide) rfl rfl ?_
                      show fx_W _ _ _ 134 lv1 [] _ _
                      refine fx_i2 aj_d35 rfl (Nat.le_succ _) (fun _ => rfl) hlv1_0 ?_
                      refine fx_n (pc' := 136) (lv' := lv1) (st' := [.int (Int32.ofInt 0), .ref 87]) aj_d35 rfl (Nat.le_succ _) (fun _ => rfl) ?_
                      refine fx_pI aj_d35 rfl (Nat.le_succ _) rfl rfl (Or.inl rfl) fx_no_3_10 (by decide) ?_
                      refine fx_qX (fun X32 eX32 => ?_)
                      show fx_W _ _ _ 139 lv1 [] _ _
                      refine fx_i2 aj_d35 rfl (Nat.le_succ _) (fun _ => rfl) hlv1_0 ?_
                      refine fx_cv aj_d35 rfl (Nat.le_succ _) rfl [] rfl rfl (gx_36_ok) ?_
                      rintro _ X33 ⟨w34, rfl, hR33⟩ hok33 hle33
                      refine fx_qc hR33 ?_
                      show fx_W _ _ _ 143 lv1 [.int w34] _ _
                      exact fx_ri aj_d35 rfl ⟨_, rfl, 0, rfl, rfl⟩
                    · skip
                      refine fx_qe (c := (p1).toInt = 191) q31 ?_
                      by_cases q35 : (p1).toInt = 173
                      · refine fx_ts (tgt := 285) aj_d35 rfl (Nat.le_succ _) q35 (by decide) rfl rfl ?_
                        show fx_W _ _ _ 285 lv1 [] _ _
                        refine fx_n (pc' := 286) (lv' := lv1) (st' := [.int (Int32.ofInt 1)]) aj_d35 rfl (Nat.le_succ _) (fun _ => rfl) ?_
                        exact fx_ri aj_d35 rfl ⟨_, rfl, 0, rfl, rfl⟩
                      · skip
                        by_cases q36 : (p1).toInt = 174
                        · refine fx_ts (tgt := 285) aj_d35 rfl (Nat.le_succ _) q36 (by decide) rfl rfl ?_
                          show fx_W _ _ _ 285 lv1 [] _ _
                          refine fx_n (pc' := 286) (lv' := lv1) (st' := [.int (Int32.ofInt 1)]) aj_d35 rfl (Nat.le_succ _) (fun _ => rfl) ?_
                          exact fx_ri aj_d35 rfl ⟨_, rfl, 0, rfl, rfl⟩
                        · skip
                          by_cases q37 : (p1).toInt = 175
                          · refine fx_ts (tgt := 285) aj_d35 rfl (Nat.le_succ _) q37 (by decide) rfl rfl ?_
                            show fx_W _ _ _ 285 lv1 [] _ _
                            refine fx_n (pc' := 286) (lv' := lv1) (st' := [.int (Int32.ofInt 1)]) aj_d35 rfl (Nat.le_succ _) (fun _ => rfl) ?_
                            exact fx_ri aj_d35 rfl ⟨_, rfl, 0, rfl, rfl⟩
                          · skip
                            by_cases q38 : (p1).toInt = 176
                            · refine fx_ts (tgt := 285) aj_d35 rfl (Nat.le_succ _) q38 (by decide) rfl rfl ?_
                              show fx_W _ _ _ 285 lv1 [] _ _
                              refine fx_n (pc' := 286) (lv' := lv1) (st' := [.int (Int32.ofInt 1)]) aj_d35 rfl (Nat.le_succ _) (fun _ => rfl) ?_
                              exact fx_ri aj_d35 rfl ⟨_, rfl, 0, rfl, rfl⟩
                            · skip
                              by_cases q39 : (p1).toInt = 177
                              · refine fx_ts (tgt := 285) aj_d35 rfl (Nat.le_succ _) q39 (by decide) rfl rfl ?_
                                show fx_W _ _ _ 285 lv1 [] _ _
                                refine fx_n (pc' := 286) (lv' := lv1) (st' := [.int (Int32.ofInt 1)]) aj_d35 rfl (Nat.le_succ _) (fun _ => rfl) ?_
                                exact fx_ri aj_d35 rfl ⟨_, rfl, 0, rfl, rfl⟩
                              · skip
                                by_cases q40 : (p1).toInt = 178
                                · refine fx_ts (tgt := 285) aj_d35 rfl (Nat.le_succ _) q40 (by decide) rfl rfl ?_
                                  show fx_W _ _ _ 285 lv1 [] _ _
                                  refine fx_n (pc' := 286) (lv' := lv1) (st' := [.int (Int32.ofInt 1)]) aj_d35 rfl (Nat.le_succ _) (fun _ => rfl) ?_
                                  exact fx_ri aj_d35 rfl ⟨_, rfl, 0, rfl, rfl⟩
                                · skip
                                  by_cases q41 : (p1).toInt = 179
                                  · refine fx_ts (tgt := 285) aj_d35 rfl (Nat.le_succ _) q41 (by decide) rfl rfl ?_
                                    show fx_W _ _ _ 285 lv1 [] _ _
                                    refine fx_n (pc' := 286) (lv' := lv1) (st' := [.int (Int32.ofInt 1)]) aj_d35 rfl (Nat.le_succ _) (fun _ => rfl) ?_
                                    exact fx_ri aj_d35 rfl ⟨_, rfl, 0, rfl, rfl⟩
                                  · skip
                                    by_cases q42 : (p1).toInt = 182
                                    · refine fx_ts (tgt := 285) aj_d35 rfl (Nat.le_succ _) q42 (by decide) rfl rfl ?_
                                      show fx_W _ _ _ 285 lv1 [] _ _
                                      refine fx_n (pc' := 286) (lv' := lv1) (st' := [.int (Int32.ofInt 1)]) aj_d35 rfl (Nat.le_succ _) (fun _ => rfl) ?_
                                      exact fx_ri aj_d35 rfl ⟨_, rfl, 0, rfl, rfl⟩
                                    · skip
                                      by_cases q43 : (p1).toInt = 183
                                      · refine fx_ts (tgt := 285) aj_d35 rfl (Nat.le_succ _) q43 (by decide) rfl rfl ?_
                                        show fx_W _ _ _ 285 lv1 [] _ _
                                        refine fx_n (pc' := 286) (lv' := lv1) (st' := [.int (Int32.ofInt 1)]) aj_d35 rfl (Nat.le_succ _) (fun _ => rfl) ?_
                                        exact fx_ri aj_d35 rfl ⟨_, rfl, 0, rfl, rfl⟩
                                      · skip
                                        by_cases q44 : (p1).toInt = 187
                                        · refine fx_ts (tgt := 285) aj_d35 rfl (Nat.le_succ _) q44 (by decide) rfl rfl ?_
                                          show fx_W _ _ _ 285 lv1 [] _ _
                                          refine fx_n (pc' := 286) (lv' := lv1) (st' := [.int (Int32.ofInt 1)]) aj_d35 rfl (Nat.le_succ _) (fun _ => rfl) ?_
                                          exact fx_ri aj_d35 rfl ⟨_, rfl, 0, rfl, rfl⟩
                                        · skip
                                          by_cases q45 : (p1).toInt = 188
                                          · refine fx_ts (tgt := 285) aj_d35 rfl (Nat.le_succ _) q45 (by decide) rfl rfl ?_
                                            show fx_W _ _ _ 285 lv1 [] _ _
                                            refine fx_n (pc' := 286) (lv' := lv1) (st' := [.int (Int32.ofInt 1)]) aj_d35 rfl (Nat.le_succ _) (fun _ => rfl) ?_
                                            exact fx_ri aj_d35 rfl ⟨_, rfl, 0, rfl, rfl⟩
                                          · skip
                                            by_cases q46 : (p1).toInt = 190
                                            · refine fx_ts (tgt := 285) aj_d35 rfl (Nat.le_succ _) q46 (by decide) rfl rfl ?_
                                              show fx_W _ _ _ 285 lv1 [] _ _
                                              refine fx_n (pc' := 286) (lv' := lv1) (st' := [.int (Int32.ofInt 1)]) aj_d35 rfl (Nat.le_succ _) (fun _ => rfl) ?_
                                              exact fx_ri aj_d35 rfl ⟨_, rfl, 0, rfl, rfl⟩
                                            · skip
                                              refine fx_td (tgt := 285) aj_d35 rfl (Nat.le_succ _) (by omega) rfl ?_
                                              show fx_W _ _ _ 285 lv1 [] _ _
                                              refine fx_n (pc' := 286) (lv' := lv1) (st' := [.int (Int32.ofInt 1)]) aj_d35 rfl (Nat.le_succ _) (fun _ => rfl) ?_
                                              exact fx_ri aj_d35 rfl ⟨_, rfl, 0, rfl, rfl⟩
