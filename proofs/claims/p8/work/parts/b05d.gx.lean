/-! METHODS LIFTED (printed by wip/p7/gx.py, parts.py) -/
def gxT_111_2 (p1 : Nat) (p2 : Nat) (P : Nat → List Int32 → List Int64 → List Nat → fx_X → Unit → fx_X → Prop) (y3 : Int32) (X : fx_X) (v : Unit) (X' : fx_X) : Prop :=
  (if (y3).toInt < ((X.1 p1 4)).toInt then (P 13 [y3, (Int32.ofInt 0)] [] [] X v X') else (X' = X))
def gxT_111_13 (p1 : Nat) (p2 : Nat) (P : Nat → List Int32 → List Int64 → List Nat → fx_X → Unit → fx_X → Prop) (y3 : Int32) (y4 : Int32) (X : fx_X) (v : Unit) (X' : fx_X) : Prop :=
  (if (y4).toInt < ((X.1 p2 4)).toInt then (∃ (w9 : Int32) (X8 : fx_X), gx_112 p1 y3 p2 y4 (Int32.ofInt 181896) X w9 X8 ∧ (if (w9).toInt = 0 then (P 41 [y3, y4, (Int32.ofInt 0)] [] [] X8 v X') else (∃ x12 : Int32, x12 = y4 + Int32.ofInt 1 ∧ P 13 [y3, x12] [] [] X8 v X'))) else (∃ x6 : Int32, x6 = y3 + Int32.ofInt 1 ∧ P 2 [x6] [] [] X v X'))
def gxT_111_41 (p1 : Nat) (p2 : Nat) (P : Nat → List Int32 → List Int64 → List Nat → fx_X → Unit → fx_X → Prop) (y3 : Int32) (y4 : Int32) (y5 : Int32) (X : fx_X) (v : Unit) (X' : fx_X) : Prop :=
  ∃ b15 : Nat, X.2.2.1 95 7 = some b15 ∧ (if (y5).toInt < ((X.1 b15 13)).toInt then (∃ (w22 : Int32) (X21 : fx_X), gx_113 p1 b15 y3 p2 y4 (Int32.ofInt 181896) y5 X w22 X21 ∧ (if (w22).toInt = 0 then (∃ x24 : Int32, x24 = y5 + Int32.ofInt 1 ∧ P 41 [y3, y4, x24] [] [] X21 v X') else (∃ (w27 : Unit) (X26 : fx_X), gx_110 p1 y3 y5 X21 w27 X26 ∧ ∃ x28 : Int32, x28 = y5 + Int32.ofInt 1 ∧ P 41 [y3, y4, x28] [] [] X26 v X'))) else (∃ x17 : Int32, x17 = y4 + Int32.ofInt 1 ∧ P 13 [y3, x17] [] [] X v X'))
def gxE_111 (p1 : Nat) (p2 : Nat) (P : Nat → List Int32 → List Int64 → List Nat → fx_X → Unit → fx_X → Prop) (X : fx_X) (v : Unit) (X' : fx_X) : Prop :=
  P 2 [(Int32.ofInt 0)] [] [] X v X'
noncomputable def gxF_111 (p1 : Nat) (p2 : Nat) (n : Nat) : Nat → List Int32 → List Int64 → List Nat → fx_X → Unit → fx_X → Prop := Nat.rec (motive := fun _ => Nat → List Int32 → List Int64 → List Nat → fx_X → Unit → fx_X → Prop) (fun _ _ _ _ _ _ _ => False) (fun _ P l is ls rs X v X' => (l = 2 ∧ ∃ (y3 : Int32), is = [y3] ∧ ls = [] ∧ rs = [] ∧ gxT_111_2 p1 p2 P y3 X v X') ∨ (l = 13 ∧ ∃ (y3 : Int32) (y4 : Int32), is = [y3, y4] ∧ ls = [] ∧ rs = [] ∧ gxT_111_13 p1 p2 P y3 y4 X v X') ∨ (l = 41 ∧ ∃ (y3 : Int32) (y4 : Int32) (y5 : Int32), is = [y3, y4, y5] ∧ ls = [] ∧ rs = [] ∧ gxT_111_41 p1 p2 P y3 y4 y5 X v X')) n
theorem gxI_111_2 {p1 : Nat} {p2 : Nat} {n : Nat} {y3 : Int32} {X : fx_X} {v : Unit} {X' : fx_X} (h : gxT_111_2 p1 p2 (gxF_111 p1 p2 n) y3 X v X') : gxF_111 p1 p2 (n + 1) 2 [y3] [] [] X v X' := Or.inl ⟨rfl, y3, rfl, rfl, rfl, h⟩
theorem gxO_111_2 {p1 : Nat} {p2 : Nat} {n : Nat} {y3 : Int32} {X : fx_X} {v : Unit} {X' : fx_X} (h : gxF_111 p1 p2 (n + 1) 2 [y3] [] [] X v X') : gxT_111_2 p1 p2 (gxF_111 p1 p2 n) y3 X v X' := by
  rcases h with ⟨-, _, e1, e2, e3, h⟩ | ⟨e, -⟩ | ⟨e, -⟩
  · cases e1; cases e2; cases e3; exact h
  · exact absurd e (by decide)
  · exact absurd e (by decide)
theorem gxI_111_13 {p1 : Nat} {p2 : Nat} {n : Nat} {y3 : Int32} {y4 : Int32} {X : fx_X} {v : Unit} {X' : fx_X} (h : gxT_111_13 p1 p2 (gxF_111 p1 p2 n) y3 y4 X v X') : gxF_111 p1 p2 (n + 1) 13 [y3, y4] [] [] X v X' := Or.inr (Or.inl ⟨rfl, y3, y4, rfl, rfl, rfl, h⟩)
theorem gxO_111_13 {p1 : Nat} {p2 : Nat} {n : Nat} {y3 : Int32} {y4 : Int32} {X : fx_X} {v : Unit} {X' : fx_X} (h : gxF_111 p1 p2 (n + 1) 13 [y3, y4] [] [] X v X') : gxT_111_13 p1 p2 (gxF_111 p1 p2 n) y3 y4 X v X' := by
  rcases h with ⟨e, -⟩ | ⟨-, _, _, e1, e2, e3, h⟩ | ⟨e, -⟩
  · exact absurd e (by decide)
  · cases e1; cases e2; cases e3; exact h
  · exact absurd e (by decide)
theorem gxI_111_41 {p1 : Nat} {p2 : Nat} {n : Nat} {y3 : Int32} {y4 : Int32} {y5 : Int32} {X : fx_X} {v : Unit} {X' : fx_X} (h : gxT_111_41 p1 p2 (gxF_111 p1 p2 n) y3 y4 y5 X v X') : gxF_111 p1 p2 (n + 1) 41 [y3, y4, y5] [] [] X v X' := Or.inr (Or.inr (⟨rfl, y3, y4, y5, rfl, rfl, rfl, h⟩))
theorem gxO_111_41 {p1 : Nat} {p2 : Nat} {n : Nat} {y3 : Int32} {y4 : Int32} {y5 : Int32} {X : fx_X} {v : Unit} {X' : fx_X} (h : gxF_111 p1 p2 (n + 1) 41 [y3, y4, y5] [] [] X v X') : gxT_111_41 p1 p2 (gxF_111 p1 p2 n) y3 y4 y5 X v X' := by
  rcases h with ⟨e, -⟩ | ⟨e, -⟩ | ⟨-, _, _, _, e1, e2, e3, h⟩
  · exact absurd e (by decide)
  · exact absurd e (by decide)
  · cases e1; cases e2; cases e3; exact h
def gx_111 (p1 : Nat) (p2 : Nat) (X : fx_X) (v : Unit) (X' : fx_X) : Prop := ∃ n : Nat, gxE_111 p1 p2 (gxF_111 p1 p2 n) X v X'
theorem gxL_111 {tb : aj_T} (p1 : Nat) (p2 : Nat) : ∀ N : Nat, (∀ (lv : aj_V) (y3 : Int32) (X : fx_X), aj_lv lv 0 = some (.ref 95) → aj_lv lv 1 = some (.ref p1) → aj_lv lv 2 = some (.ref p2) → aj_lv lv 3 = some (.int y3) → fx_W tb aj_m111 N 2 lv [] X (fx_Q fx_qN (fun v X' => ∃ n : Nat, gxF_111 p1 p2 n 2 [y3] [] [] X v X'))) ∧ (∀ (lv : aj_V) (y3 : Int32) (y4 : Int32) (X : fx_X), aj_lv lv 0 = some (.ref 95) → aj_lv lv 1 = some (.ref p1) → aj_lv lv 2 = some (.ref p2) → aj_lv lv 3 = some (.int y3) → aj_lv lv 4 = some (.int y4) → fx_W tb aj_m111 N 13 lv [] X (fx_Q fx_qN (fun v X' => ∃ n : Nat, gxF_111 p1 p2 n 13 [y3, y4] [] [] X v X'))) ∧ (∀ (lv : aj_V) (y3 : Int32) (y4 : Int32) (y5 : Int32) (X : fx_X), aj_lv lv 0 = some (.ref 95) → aj_lv lv 1 = some (.ref p1) → aj_lv lv 2 = some (.ref p2) → aj_lv lv 3 = some (.int y3) → aj_lv lv 4 = some (.int y4) → aj_lv lv 5 = some (.int y5) → fx_W tb aj_m111 N 41 lv [] X (fx_Q fx_qN (fun v X' => ∃ n : Nat, gxF_111 p1 p2 n 41 [y3, y4, y5] [] [] X v X'))) := by
  intro N
  induction N with
  | zero => exact ⟨(by intros; exact fx_z), (by intros; exact fx_z), (by intros; exact fx_z)⟩
  | succ N ih =>
    refine ⟨?_, ?_, ?_⟩
    · intro lv y3 X hlv_0 hlv_1 hlv_2 hlv_3
      refine fx_mono (Q := fx_Q fx_qN (fun v X' => ∃ n : Nat, gxT_111_2 p1 p2 (gxF_111 p1 p2 n) y3 X v X')) (fun r X' ⟨v, e, n, z⟩ => ⟨v, e, n + 1, gxI_111_2 z⟩) ?_
      unfold gxT_111_2
      refine fx_i0 aj_d111 rfl (Nat.le_refl _) (fun _ => rfl) hlv_3 ?_
      refine fx_i2 aj_d111 rfl (Nat.le_succ _) (fun _ => rfl) hlv_1 ?_
      refine fx_gI aj_d111 rfl (Nat.le_succ _) rfl rfl (Or.inl rfl) ?_
      refine fx_b (tgt := 97) aj_d111 rfl (Nat.le_succ _) rfl (fun q3 => ?_) (fun q3 => ?_)
      · skip
        refine fx_qe (c := (y3).toInt < ((X.1 p1 4)).toInt) (fx_t_ge q3) ?_
        show fx_W _ _ _ 97 lv [] _ _
        exact fx_rn aj_d111 rfl ⟨(), rfl, 0, rfl⟩
      · skip
        refine fx_qi (c := (y3).toInt < ((X.1 p1 4)).toInt) (fx_f_ge q3) ?_
        show fx_W _ _ _ 10 lv [] _ _
        refine fx_n (pc' := 11) (lv' := lv) (st' := [.int (Int32.ofInt 0)]) aj_d111 rfl (Nat.le_succ _) (fun _ => rfl) ?_
        refine fx_s0 (j := 4) aj_d111 rfl (Nat.le_succ _) (by decide) (fun _ => rfl) ?_
        obtain ⟨lv4, elv4⟩ : ∃ l, l = aj_set1 lv 4 (.int (Int32.ofInt 0)) := ⟨_, rfl⟩
        rw [← elv4]
        have hlv4_0 : aj_lv lv4 0 = some (.ref 95) := fx_e1 elv4 hlv_0 (by decide) (Or.inl (by decide))
        have hlv4_1 : aj_lv lv4 1 = some (.ref p1) := fx_e1 elv4 hlv_1 (by decide) (Or.inl (by decide))
        have hlv4_2 : aj_lv lv4 2 = some (.ref p2) := fx_e1 elv4 hlv_2 (by decide) (Or.inl (by decide))
        have hlv4_3 : aj_lv lv4 3 = some (.int y3) := fx_e1 elv4 hlv_3 (by decide) (Or.inr rfl)
        have hlv4_4 : aj_lv lv4 4 = some (.int (Int32.ofInt 0)) := by rw [elv4]; exact ak_set1_eq _ _ _
        show fx_W _ _ _ 13 lv4 [] _ _
        exact (ih.2.1) lv4 (y3) ((Int32.ofInt 0)) X  hlv4_0 hlv4_1 hlv4_2 hlv4_3 hlv4_4
    · intro lv y3 y4 X hlv_0 hlv_1 hlv_2 hlv_3 hlv_4
      refine fx_mono (Q := fx_Q fx_qN (fun v X' => ∃ n : Nat, gxT_111_13 p1 p2 (gxF_111 p1 p2 n) y3 y4 X v X')) (fun r X' ⟨v, e, n, z⟩ => ⟨v, e, n + 1, gxI_111_13 z⟩) ?_
      unfold gxT_111_13
      refine fx_i0 aj_d111 rfl (Nat.le_refl _) (fun _ => rfl) hlv_4 ?_
      refine fx_i2 aj_d111 rfl (Nat.le_succ _) (fun _ => rfl) hlv_2 ?_
      refine fx_gI aj_d111 rfl (Nat.le_succ _) rfl rfl (Or.inl rfl) ?_
      refine fx_b (tgt := 91) aj_d111 rfl (Nat.le_succ _) rfl (fun q5 => ?_) (fun q5 => ?_)
      · skip
        refine fx_qe (c := (y4).toInt < ((X.1 p2 4)).toInt) (fx_t_ge q5) ?_
        show fx_W _ _ _ 91 lv [] _ _
        refine fx_incq aj_d111 rfl (Nat.le_succ _) hlv_3 (by decide) (fun x6 ex6 => ?_)
        obtain ⟨lv7, elv7⟩ : ∃ l, l = aj_set1 lv 3 (.int x6) := ⟨_, rfl⟩
        rw [← elv7]
        have hlv7_0 : aj_lv lv7 0 = some (.ref 95) := fx_e1 elv7 hlv_0 (by decide) (Or.inl (by decide))
        have hlv7_1 : aj_lv lv7 1 = some (.ref p1) := fx_e1 elv7 hlv_1 (by decide) (Or.inl (by decide))
        have hlv7_2 : aj_lv lv7 2 = some (.ref p2) := fx_e1 elv7 hlv_2 (by decide) (Or.inr rfl)
        have hlv7_3 : aj_lv lv7 3 = some (.int x6) := by rw [elv7]; exact ak_set1_eq _ _ _
        show fx_W _ _ _ 94 lv7 [] _ _
        refine fx_n (pc' := 2) (lv' := lv7) (st' := []) aj_d111 rfl (Nat.le_succ _) (fun _ => rfl) ?_
        exact (ih.1) lv7 (x6) X  hlv7_0 hlv7_1 hlv7_2 hlv7_3
      · skip
        refine fx_qi (c := (y4).toInt < ((X.1 p2 4)).toInt) (fx_f_ge q5) ?_
        show fx_W _ _ _ 22 lv [] _ _
        refine fx_i2 aj_d111 rfl (Nat.le_succ _) (fun _ => rfl) hlv_1 ?_
        refine fx_i0 aj_d111 rfl (Nat.le_succ _) (fun _ => rfl) hlv_3 ?_
        refine fx_i2 aj_d111 rfl (Nat.le_succ _) (fun _ => rfl) hlv_2 ?_
        refine fx_i0 aj_d111 rfl (Nat.le_succ _) (fun _ => rfl) hlv_4 ?_
        refine fx_n (pc' := 29) (lv' := lv) (st' := [.int (Int32.ofInt 181896), .int y4, .ref p2, .int y3, .ref p1]) aj_d111 rfl (Nat.le_succ _) (fun _ => rfl) ?_
        refine fx_cv aj_d111 rfl (Nat.le_succ _) rfl [_, _, _, _] rfl rfl (gx_112_ok p1 y3 p2 y4 (Int32.ofInt 181896)) ?_
        rintro _ X8 ⟨w9, rfl, hR8⟩ hok8 hle8
        refine fx_qc hR8 ?_
        show fx_W _ _ _ 32 lv [.int w9] _ _
        refine fx_b0 (tgt := 38) aj_d111 rfl (Nat.le_succ _) rfl (fun q10 => ?_) (fun q10 => ?_)
        · skip
          refine fx_qi (c := (w9).toInt = 0) (fx_t_eq q10) ?_
          show fx_W _ _ _ 38 lv [] _ _
          refine fx_n (pc' := 39) (lv' := lv) (st' := [.int (Int32.ofInt 0)]) aj_d111 rfl (Nat.le_succ _) (fun _ => rfl) ?_
          refine fx_s0 (j := 5) aj_d111 rfl (Nat.le_succ _) (by decide) (fun _ => rfl) ?_
          obtain ⟨lv11, elv11⟩ : ∃ l, l = aj_set1 lv 5 (.int (Int32.ofInt 0)) := ⟨_, rfl⟩
          rw [← elv11]
          have hlv11_0 : aj_lv lv11 0 = some (.ref 95) := fx_e1 elv11 hlv_0 (by decide) (Or.inl (by decide))
          have hlv11_1 : aj_lv lv11 1 = some (.ref p1) := fx_e1 elv11 hlv_1 (by decide) (Or.inl (by decide))
          have hlv11_2 : aj_lv lv11 2 = some (.ref p2) := fx_e1 elv11 hlv_2 (by decide) (Or.inl (by decide))
          have hlv11_3 : aj_lv lv11 3 = some (.int y3) := fx_e1 elv11 hlv_3 (by decide) (Or.inl (by decide))
          have hlv11_4 : aj_lv lv11 4 = some (.int y4) := fx_e1 elv11 hlv_4 (by decide) (Or.inr rfl)
          have hlv11_5 : aj_lv lv11 5 = some (.int (Int32.ofInt 0)) := by rw [elv11]; exact ak_set1_eq _ _ _
          show fx_W _ _ _ 41 lv11 [] _ _
          exact (ih.2.2) lv11 (y3) (y4) ((Int32.ofInt 0)) X8  hlv11_0 hlv11_1 hlv11_2 hlv11_3 hlv11_4 hlv11_5
        · skip
          refine fx_qe (c := (w9).toInt = 0) (fx_f_eq q10) ?_
          show fx_W _ _ _ 35 lv [] _ _
          refine fx_n (pc' := 85) (lv' := lv) (st' := []) aj_d111 rfl (Nat.le_succ _) (fun _ => rfl) ?_
          refine fx_incq aj_d111 rfl (Nat.le_succ _) hlv_4 (by decide) (fun x12 ex12 => ?_)
          obtain ⟨lv13, elv13⟩ : ∃ l, l = aj_set1 lv 4 (.int x12) := ⟨_, rfl⟩
          rw [← elv13]
          have hlv13_0 : aj_lv lv13 0 = some (.ref 95) := fx_e1 elv13 hlv_0 (by decide) (Or.inl (by decide))
          have hlv13_1 : aj_lv lv13 1 = some (.ref p1) := fx_e1 elv13 hlv_1 (by decide) (Or.inl (by decide))
          have hlv13_2 : aj_lv lv13 2 = some (.ref p2) := fx_e1 elv13 hlv_2 (by decide) (Or.inl (by decide))
          have hlv13_3 : aj_lv lv13 3 = some (.int y3) := fx_e1 elv13 hlv_3 (by decide) (Or.inr rfl)
          have hlv13_4 : aj_lv lv13 4 = some (.int x12) := by rw [elv13]; exact ak_set1_eq _ _ _
          show fx_W _ _ _ 88 lv13 [] _ _
          refine fx_n (pc' := 13) (lv' := lv13) (st' := []) aj_d111 rfl (Nat.le_succ _) (fun _ => rfl) ?_
          exact (ih.2.1) lv13 (y3) (x12) X8  hlv13_0 hlv13_1 hlv13_2 hlv13_3 hlv13_4
    · intro lv y3 y4 y5 X hlv_0 hlv_1 hlv_2 hlv_3 hlv_4 hlv_5
      refine fx_mono (Q := fx_Q fx_qN (fun v X' => ∃ n : Nat, gxT_111_41 p1 p2 (gxF_111 p1 p2 n) y3 y4 y5 X v X')) (fun r X' ⟨v, e, n, z⟩ => ⟨v, e, n + 1, gxI_111_41 z⟩) ?_
      unfold gxT_111_41
      refine fx_i0 aj_d111 rfl (Nat.le_refl _) (fun _ => rfl) hlv_5 ?_
      refine fx_i2 aj_d111 rfl (Nat.le_succ _) (fun _ => rfl) hlv_0 ?_
      refine fx_gR aj_d111 rfl (Nat.le_succ _) rfl rfl (Or.inl ⟨_, rfl⟩) (fun q14 _ => ?_) (fun b15 q14 => ?_)
      · skip
        show fx_W _ _ _ 47 lv [.null, .int y5] _ _
        exact fx_d aj_d111 rfl (fun _ => rfl)
      · skip
        refine fx_qs q14 ?_
        show fx_W _ _ _ 47 lv [.ref b15, .int y5] _ _
        refine fx_gI aj_d111 rfl (Nat.le_succ _) rfl rfl (Or.inl rfl) ?_
        refine fx_b (tgt := 85) aj_d111 rfl (Nat.le_succ _) rfl (fun q16 => ?_) (fun q16 => ?_)
        · skip
          refine fx_qe (c := (y5).toInt < ((X.1 b15 13)).toInt) (fx_t_ge q16) ?_
          show fx_W _ _ _ 85 lv [] _ _
          refine fx_incq aj_d111 rfl (Nat.le_succ _) hlv_4 (by decide) (fun x17 ex17 => ?_)
          obtain ⟨lv18, elv18⟩ : ∃ l, l = aj_set1 lv 4 (.int x17) := ⟨_, rfl⟩
          rw [← elv18]
          have hlv18_0 : aj_lv lv18 0 = some (.ref 95) := fx_e1 elv18 hlv_0 (by decide) (Or.inl (by decide))
          have hlv18_1 : aj_lv lv18 1 = some (.ref p1) := fx_e1 elv18 hlv_1 (by decide) (Or.inl (by decide))
          have hlv18_2 : aj_lv lv18 2 = some (.ref p2) := fx_e1 elv18 hlv_2 (by decide) (Or.inl (by decide))
          have hlv18_3 : aj_lv lv18 3 = some (.int y3) := fx_e1 elv18 hlv_3 (by decide) (Or.inr rfl)
          have hlv18_4 : aj_lv lv18 4 = some (.int x17) := by rw [elv18]; exact ak_set1_eq _ _ _
          show fx_W _ _ _ 88 lv18 [] _ _
          refine fx_n (pc' := 13) (lv' := lv18) (st' := []) aj_d111 rfl (Nat.le_succ _) (fun _ => rfl) ?_
          exact (ih.2.1) lv18 (y3) (x17) X  hlv18_0 hlv18_1 hlv18_2 hlv18_3 hlv18_4
        · skip
          refine fx_qi (c := (y5).toInt < ((X.1 b15 13)).toInt) (fx_f_ge q16) ?_
          show fx_W _ _ _ 53 lv [] _ _
          refine fx_i2 aj_d111 rfl (Nat.le_succ _) (fun _ => rfl) hlv_1 ?_
          refine fx_i2 aj_d111 rfl (Nat.le_succ _) (fun _ => rfl) hlv_0 ?_
          refine fx_gR aj_d111 rfl (Nat.le_succ _) rfl rfl (Or.inl ⟨_, rfl⟩) (fun q19 _ => ?_) (fun b20 q19 => ?_)
          · exact absurd (q19.symm.trans q14) (by simp)
          · skip
            obtain rfl : b15 = b20 := Option.some.inj (q14.symm.trans q19)
            show fx_W _ _ _ 58 lv [.ref b15, .ref p1] _ _
            refine fx_i0 aj_d111 rfl (Nat.le_succ _) (fun _ => rfl) hlv_3 ?_
            refine fx_i2 aj_d111 rfl (Nat.le_succ _) (fun _ => rfl) hlv_2 ?_
            refine fx_i0 aj_d111 rfl (Nat.le_succ _) (fun _ => rfl) hlv_4 ?_
            refine fx_n (pc' := 64) (lv' := lv) (st' := [.int (Int32.ofInt 181896), .int y4, .ref p2, .int y3, .ref b15, .ref p1]) aj_d111 rfl (Nat.le_succ _) (fun _ => rfl) ?_
            refine fx_i0 aj_d111 rfl (Nat.le_succ _) (fun _ => rfl) hlv_5 ?_
            refine fx_cv aj_d111 rfl (Nat.le_succ _) rfl [_, _, _, _, _, _] rfl rfl (gx_113_ok p1 b15 y3 p2 y4 (Int32.ofInt 181896) y5) ?_
            rintro _ X21 ⟨w22, rfl, hR21⟩ hok21 hle21
            refine fx_qc hR21 ?_
            show fx_W _ _ _ 69 lv [.int w22] _ _
            refine fx_b0 (tgt := 79) aj_d111 rfl (Nat.le_succ _) rfl (fun q23 => ?_) (fun q23 => ?_)
            · skip
              refine fx_qi (c := (w22).toInt = 0) (fx_t_eq q23) ?_
              show fx_W _ _ _ 79 lv [] _ _
              refine fx_incq aj_d111 rfl (Nat.le_succ _) hlv_5 (by decide) (fun x24 ex24 => ?_)
              obtain ⟨lv25, elv25⟩ : ∃ l, l = aj_set1 lv 5 (.int x24) := ⟨_, rfl⟩
              rw [← elv25]
              have hlv25_0 : aj_lv lv25 0 = some (.ref 95) := fx_e1 elv25 hlv_0 (by decide) (Or.inl (by decide))
              have hlv25_1 : aj_lv lv25 1 = some (.ref p1) := fx_e1 elv25 hlv_1 (by decide) (Or.inl (by decide))
              have hlv25_2 : aj_lv lv25 2 = some (.ref p2) := fx_e1 elv25 hlv_2 (by decide) (Or.inl (by decide))
              have hlv25_3 : aj_lv lv25 3 = some (.int y3) := fx_e1 elv25 hlv_3 (by decide) (Or.inl (by decide))
              have hlv25_4 : aj_lv lv25 4 = some (.int y4) := fx_e1 elv25 hlv_4 (by decide) (Or.inr rfl)
              have hlv25_5 : aj_lv lv25 5 = some (.int x24) := by rw [elv25]; exact ak_set1_eq _ _ _
              show fx_W _ _ _ 82 lv25 [] _ _
              refine fx_n (pc' := 41) (lv' := lv25) (st' := []) aj_d111 rfl (Nat.le_succ _) (fun _ => rfl) ?_
              exact (ih.2.2) lv25 (y3) (y4) (x24) X21  hlv25_0 hlv25_1 hlv25_2 hlv25_3 hlv25_4 hlv25_5
            · skip
              refine fx_qe (c := (w22).toInt = 0) (fx_f_eq q23) ?_
              show fx_W _ _ _ 72 lv [] _ _
              refine fx_i2 aj_d111 rfl (Nat.le_succ _) (fun _ => rfl) hlv_1 ?_
              refine fx_i0 aj_d111 rfl (Nat.le_succ _) (fun _ => rfl) hlv_3 ?_
              refine fx_i0 aj_d111 rfl (Nat.le_succ _) (fun _ => rfl) hlv_5 ?_
              refine fx_cv aj_d111 rfl (Nat.le_succ _) rfl [_, _] rfl rfl (gx_110_ok p1 y3 y5) ?_
              rintro _ X26 ⟨w27, rfl, hR26⟩ hok26 hle26
              refine fx_qc hR26 ?_
              show fx_W _ _ _ 79 lv [] _ _
              refine fx_incq aj_d111 rfl (Nat.le_succ _) hlv_5 (by decide) (fun x28 ex28 => ?_)
              obtain ⟨lv29, elv29⟩ : ∃ l, l = aj_set1 lv 5 (.int x28) := ⟨_, rfl⟩
              rw [← elv29]
              have hlv29_0 : aj_lv lv29 0 = some (.ref 95) := fx_e1 elv29 hlv_0 (by decide) (Or.inl (by decide))
              have hlv29_1 : aj_lv lv29 1 = some (.ref p1) := fx_e1 elv29 hlv_1 (by decide) (Or.inl (by decide))
              have hlv29_2 : aj_lv lv29 2 = some (.ref p2) := fx_e1 elv29 hlv_2 (by decide) (Or.inl (by decide))
              have hlv29_3 : aj_lv lv29 3 = some (.int y3) := fx_e1 elv29 hlv_3 (by decide) (Or.inl (by decide))
              have hlv29_4 : aj_lv lv29 4 = some (.int y4) := fx_e1 elv29 hlv_4 (by decide) (Or.inr rfl)
              have hlv29_5 : aj_lv lv29 5 = some (.int x28) := by rw [elv29]; exact ak_set1_eq _ _ _
              show fx_W _ _ _ 82 lv29 [] _ _
              refine fx_n (pc' := 41) (lv' := lv29) (st' := []) aj_d111 rfl (Nat.le_succ _) (fun _ => rfl) ?_
              exact (ih.2.2) lv29 (y3) (y4) (x28) X26  hlv29_0 hlv29_1 hlv29_2 hlv29_3 hlv29_4 hlv29_5
theorem gx_111_ok {tb : aj_T} (p1 : Nat) (p2 : Nat) {X : fx_X} : fx_K tb 111 [.ref 95, .ref p1, .ref p2] X (fx_Q fx_qN (fun v X' => gx_111 p1 p2 X v X')) := by
  refine fx_m aj_m111_at rfl (fun N => ?_)
  refine fx_mono (Q := fx_Q fx_qN (fun v X' => ∃ n : Nat, gxE_111 p1 p2 (gxF_111 p1 p2 n) X v X')) (fun r X' h => h) ?_
  unfold gxE_111
  show fx_W _ _ _ 0 [(0, .ref 95), (1, .ref p1), (2, .ref p2)] [] _ _
  obtain ⟨lv1, elv1⟩ : ∃ l : aj_V, l = [(0, .ref 95), (1, .ref p1), (2, .ref p2)] := ⟨_, rfl⟩
  rw [← elv1]
  have hlv1_0 : aj_lv lv1 0 = some (.ref 95) := by rw [elv1]; rfl
  have hlv1_1 : aj_lv lv1 1 = some (.ref p1) := by rw [elv1]; rfl
  have hlv1_2 : aj_lv lv1 2 = some (.ref p2) := by rw [elv1]; rfl
  refine fx_n (pc' := 1) (lv' := lv1) (st' := [.int (Int32.ofInt 0)]) aj_d111 rfl (Nat.le_succ _) (fun _ => rfl) ?_
  refine fx_s0 (j := 3) aj_d111 rfl (Nat.le_succ _) (by decide) (fun _ => rfl) ?_
  obtain ⟨lv2, elv2⟩ : ∃ l, l = aj_set1 lv1 3 (.int (Int32.ofInt 0)) := ⟨_, rfl⟩
  rw [← elv2]
  have hlv2_0 : aj_lv lv2 0 = some (.ref 95) := fx_e1 elv2 hlv1_0 (by decide) (Or.inl (by decide))
  have hlv2_1 : aj_lv lv2 1 = some (.ref p1) := fx_e1 elv2 hlv1_1 (by decide) (Or.inl (by decide))
  have hlv2_2 : aj_lv lv2 2 = some (.ref p2) := fx_e1 elv2 hlv1_2 (by decide) (Or.inr rfl)
  have hlv2_3 : aj_lv lv2 3 = some (.int (Int32.ofInt 0)) := by rw [elv2]; exact ak_set1_eq _ _ _
  show fx_W _ _ _ 2 lv2 [] _ _
  exact ((gxL_111 p1 p2 N).1) lv2 ((Int32.ofInt 0)) X  hlv2_0 hlv2_1 hlv2_2 hlv2_3
def gxT_117_5 (p0 : Nat) (p1 : Int32) (P : Nat → List Int32 → List Int64 → List Nat → fx_X → Unit → fx_X → Prop) (y2 : Int32) (y3 : Int32) (X : fx_X) (v : Unit) (X' : fx_X) : Prop :=
  (if (y2).toInt < (y3).toInt then ((0 ≤ (y2).toInt ∧ (y2).toInt < ((1024 : Nat) : Int)) ∧ ∃ X6 : fx_X, X6 = (fx_wI X p0 (y2).toInt.toNat p1) ∧ ∃ x7 : Int32, x7 = y2 + Int32.ofInt 1 ∧ P 5 [x7, y3] [] [] X6 v X') else (X' = X))
def gxE_117 (p0 : Nat) (p1 : Int32) (P : Nat → List Int32 → List Int64 → List Nat → fx_X → Unit → fx_X → Prop) (X : fx_X) (v : Unit) (X' : fx_X) : Prop :=
  P 5 [(Int32.ofInt 0), (Int32.ofNat 1024)] [] [] X v X'
noncomputable def gxF_117 (p0 : Nat) (p1 : Int32) (n : Nat) : Nat → List Int32 → List Int64 → List Nat → fx_X → Unit → fx_X → Prop := Nat.rec (motive := fun _ => Nat → List Int32 → List Int64 → List Nat → fx_X → Unit → fx_X → Prop) (fun _ _ _ _ _ _ _ => False) (fun _ P l is ls rs X v X' => (l = 5 ∧ ∃ (y2 : Int32) (y3 : Int32), is = [y2, y3] ∧ ls = [] ∧ rs = [] ∧ gxT_117_5 p0 p1 P y2 y3 X v X')) n
theorem gxI_117_5 {p0 : Nat} {p1 : Int32} {n : Nat} {y2 : Int32} {y3 : Int32} {X : fx_X} {v : Unit} {X' : fx_X} (h : gxT_117_5 p0 p1 (gxF_117 p0 p1 n) y2 y3 X v X') : gxF_117 p0 p1 (n + 1) 5 [y2, y3] [] [] X v X' := ⟨rfl, y2, y3, rfl, rfl, rfl, h⟩
theorem gxO_117_5 {p0 : Nat} {p1 : Int32} {n : Nat} {y2 : Int32} {y3 : Int32} {X : fx_X} {v : Unit} {X' : fx_X} (h : gxF_117 p0 p1 (n + 1) 5 [y2, y3] [] [] X v X') : gxT_117_5 p0 p1 (gxF_117 p0 p1 n) y2 y3 X v X' := by
  rcases h with ⟨-, _, _, e1, e2, e3, h⟩
  · cases e1; cases e2; cases e3; exact h
def gx_117 (p0 : Nat) (p1 : Int32) (X : fx_X) (v : Unit) (X' : fx_X) : Prop := ∃ n : Nat, gxE_117 p0 p1 (gxF_117 p0 p1 n) X v X'
theorem gxL_117 {tb : aj_T} (p0 : Nat) (p1 : Int32) : ∀ N : Nat, (∀ (lv : aj_V) (y2 : Int32) (y3 : Int32) (X : fx_X), X.2.2.2.1 p0 = (0, 1024) → aj_lv lv 0 = some (.ref p0) → aj_lv lv 1 = some (.int p1) → aj_lv lv 2 = some (.int y2) → aj_lv lv 3 = some (.int y3) → fx_W tb aj_m117 N 5 lv [] X (fx_Q fx_qN (fun v X' => ∃ n : Nat, gxF_117 p0 p1 n 5 [y2, y3] [] [] X v X'))) := by
  intro N
  induction N with
  | zero => exact (by intros; exact fx_z)
  | succ N ih =>
    skip
    · intro lv y2 y3 X hA0 hlv_0 hlv_1 hlv_2 hlv_3
      refine fx_mono (Q := fx_Q fx_qN (fun v X' => ∃ n : Nat, gxT_117_5 p0 p1 (gxF_117 p0 p1 n) y2 y3 X v X')) (fun r X' ⟨v, e, n, z⟩ => ⟨v, e, n + 1, gxI_117_5 z⟩) ?_
      unfold gxT_117_5
      refine fx_i0 aj_d117 rfl (Nat.le_refl _) (fun _ => rfl) hlv_2 ?_
      refine fx_i0 aj_d117 rfl (Nat.le_succ _) (fun _ => rfl) hlv_3 ?_
      refine fx_b (tgt := 20) aj_d117 rfl (Nat.le_succ _) rfl (fun q4 => ?_) (fun q4 => ?_)
      · skip
        refine fx_qe (c := (y2).toInt < (y3).toInt) (fx_t_ge q4) ?_
        show fx_W _ _ _ 20 lv [] _ _
        exact fx_rn aj_d117 rfl ⟨(), rfl, 0, rfl⟩
      · skip
        refine fx_qi (c := (y2).toInt < (y3).toInt) (fx_f_ge q4) ?_
        show fx_W _ _ _ 10 lv [] _ _
        refine fx_i2 aj_d117 rfl (Nat.le_succ _) (fun _ => rfl) hlv_0 ?_
        refine fx_i0 aj_d117 rfl (Nat.le_succ _) (fun _ => rfl) hlv_2 ?_
        refine fx_i0 aj_d117 rfl (Nat.le_succ _) (fun _ => rfl) hlv_1 ?_
        refine fx_st aj_d117 (Or.inl ⟨rfl, rfl⟩) rfl (Nat.le_succ _) (fun g50 g51 => ?_)
        show fx_W _ _ _ _ _ _ (fx_wI X p0 (y2).toInt.toNat p1) _
        refine fx_qa (c := 0 ≤ (y2).toInt ∧ (y2).toInt < ((1024 : Nat) : Int)) ⟨g50, fx_lnk g51 hA0⟩ ?_
        refine fx_qX (fun X6 eX6 => ?_)
        show fx_W _ _ _ 14 lv [] _ _
        refine fx_incq aj_d117 rfl (Nat.le_succ _) hlv_2 (by decide) (fun x7 ex7 => ?_)
        obtain ⟨lv8, elv8⟩ : ∃ l, l = aj_set1 lv 2 (.int x7) := ⟨_, rfl⟩
        rw [← elv8]
        have hlv8_0 : aj_lv lv8 0 = some (.ref p0) := fx_e1 elv8 hlv_0 (by decide) (Or.inl (by decide))
        have hlv8_1 : aj_lv lv8 1 = some (.int p1) := fx_e1 elv8 hlv_1 (by decide) (Or.inr rfl)
        have hlv8_3 : aj_lv lv8 3 = some (.int y3) := fx_e1 elv8 hlv_3 (by decide) (Or.inl (by decide))
        have hlv8_2 : aj_lv lv8 2 = some (.int x7) := by rw [elv8]; exact ak_set1_eq _ _ _
        show fx_W _ _ _ 17 lv8 [] _ _
        refine fx_n (pc' := 5) (lv' := lv8) (st' := []) aj_d117 rfl (Nat.le_succ _) (fun _ => rfl) ?_
        exact (ih) lv8 (x7) (y3) X6 (by rw [eX6]; exact hA0) hlv8_0 hlv8_1 hlv8_2 hlv8_3
theorem gx_117_ok {tb : aj_T} (p0 : Nat) (p1 : Int32) {X : fx_X} (hA0 : X.2.2.2.1 p0 = (0, 1024)) : fx_K tb 117 [.ref p0, .int p1] X (fx_Q fx_qN (fun v X' => gx_117 p0 p1 X v X')) := by
  refine fx_m aj_m117_at rfl (fun N => ?_)
  refine fx_mono (Q := fx_Q fx_qN (fun v X' => ∃ n : Nat, gxE_117 p0 p1 (gxF_117 p0 p1 n) X v X')) (fun r X' h => h) ?_
  unfold gxE_117
  show fx_W _ _ _ 0 [(0, .ref p0), (1, .int p1)] [] _ _
  obtain ⟨lv1, elv1⟩ : ∃ l : aj_V, l = [(0, .ref p0), (1, .int p1)] := ⟨_, rfl⟩
  rw [← elv1]
  have hlv1_0 : aj_lv lv1 0 = some (.ref p0) := by rw [elv1]; rfl
  have hlv1_1 : aj_lv lv1 1 = some (.int p1) := by rw [elv1]; rfl
  refine fx_n (pc' := 1) (lv' := lv1) (st' := [.int (Int32.ofInt 0)]) aj_d117 rfl (Nat.le_succ _) (fun _ => rfl) ?_
  refine fx_s0 (j := 2) aj_d117 rfl (Nat.le_succ _) (by decide) (fun _ => rfl) ?_
  obtain ⟨lv2, elv2⟩ : ∃ l, l = aj_set1 lv1 2 (.int (Int32.ofInt 0)) := ⟨_, rfl⟩
  rw [← elv2]
  have hlv2_0 : aj_lv lv2 0 = some (.ref p0) := fx_e1 elv2 hlv1_0 (by decide) (Or.inl (by decide))
  have hlv2_1 : aj_lv lv2 1 = some (.int p1) := fx_e1 elv2 hlv1_1 (by decide) (Or.inr rfl)
  have hlv2_2 : aj_lv lv2 2 = some (.int (Int32.ofInt 0)) := by rw [elv2]; exact ak_set1_eq _ _ _
  show fx_W _ _ _ 2 lv2 [] _ _
  refine fx_i2 aj_d117 rfl (Nat.le_succ _) (fun _ => rfl) hlv2_0 ?_
  refine fx_al aj_d117 rfl (Nat.le_succ _) ?_
  rw [(hA0 : X.2.2.2.1 p0 = (0, 1024))]
  show fx_W _ _ _ 4 lv2 [.int (Int32.ofNat 1024)] _ _
  refine fx_s0 (j := 3) aj_d117 rfl (Nat.le_succ _) (by decide) (fun _ => rfl) ?_
  obtain ⟨lv3, elv3⟩ : ∃ l, l = aj_set1 lv2 3 (.int (Int32.ofNat 1024)) := ⟨_, rfl⟩
  rw [← elv3]
  have hlv3_0 : aj_lv lv3 0 = some (.ref p0) := fx_e1 elv3 hlv2_0 (by decide) (Or.inl (by decide))
  have hlv3_1 : aj_lv lv3 1 = some (.int p1) := fx_e1 elv3 hlv2_1 (by decide) (Or.inl (by decide))
  have hlv3_2 : aj_lv lv3 2 = some (.int (Int32.ofInt 0)) := fx_e1 elv3 hlv2_2 (by decide) (Or.inr rfl)
  have hlv3_3 : aj_lv lv3 3 = some (.int (Int32.ofNat 1024)) := by rw [elv3]; exact ak_set1_eq _ _ _
  show fx_W _ _ _ 5 lv3 [] _ _
  exact ((gxL_117 p0 p1 N)) lv3 ((Int32.ofInt 0)) ((Int32.ofNat 1024)) X hA0 hlv3_0 hlv3_1 hlv3_2 hlv3_3
def gx_116 (p0 : Nat) (p1 : Int32) (X : fx_X) (v : Unit) (X' : fx_X) : Prop :=
  ∃ X2 : fx_X, X2 = (fx_wI X p0 3 p1) ∧ ∃ X3 : fx_X, X3 = (fx_wI X2 p0 4 (Int32.ofInt 0)) ∧ ∃ (w6 : Unit) (X5 : fx_X), gx_117 (p0 + 3) (Int32.ofInt 0) X3 w6 X5 ∧ X' = X5
theorem gx_116_ok {tb : aj_T} (p0 : Nat) (p1 : Int32) {X : fx_X} : fx_K tb 116 [.ref p0, .int p1] X (fx_Q fx_qN (fun v X' => gx_116 p0 p1 X v X')) := by
  refine fx_m aj_m116_at rfl (fun N => ?_)
  refine fx_mono (Q := fx_Q fx_qN (fun v X' => ∃ n : Nat, gx_116 p0 p1 X v X')) (fun r X' ⟨v, e, _, z⟩ => ⟨v, e, z⟩) ?_
  unfold gx_116
  show fx_W _ _ _ 0 [(0, .ref p0), (1, .int p1)] [] _ _
  obtain ⟨lv1, elv1⟩ : ∃ l : aj_V, l = [(0, .ref p0), (1, .int p1)] := ⟨_, rfl⟩
  rw [← elv1]
  have hlv1_0 : aj_lv lv1 0 = some (.ref p0) := by rw [elv1]; rfl
  have hlv1_1 : aj_lv lv1 1 = some (.int p1) := by rw [elv1]; rfl
  refine fx_i2 aj_d116 rfl (Nat.le_succ _) (fun _ => rfl) hlv1_0 ?_
  refine fx_i0 aj_d116 rfl (Nat.le_succ _) (fun _ => rfl) hlv1_1 ?_
  refine fx_pI aj_d116 rfl (Nat.le_succ _) rfl rfl (Or.inl rfl) fx_no_6_3 (by decide) ?_
  refine fx_qX (fun X2 eX2 => ?_)
  show fx_W _ _ _ 5 lv1 [] _ _
  refine fx_i2 aj_d116 rfl (Nat.le_succ _) (fun _ => rfl) hlv1_0 ?_
  refine fx_n (pc' := 7) (lv' := lv1) (st' := [.int (Int32.ofInt 0), .ref p0]) aj_d116 rfl (Nat.le_succ _) (fun _ => rfl) ?_
  refine fx_pI aj_d116 rfl (Nat.le_succ _) rfl rfl (Or.inl rfl) fx_no_6_4 (by decide) ?_
  refine fx_qX (fun X3 eX3 => ?_)
  show fx_W _ _ _ 10 lv1 [] _ _
  refine fx_i2 aj_d116 rfl (Nat.le_succ _) (fun _ => rfl) hlv1_0 ?_
  refine fx_gF aj_d116 rfl (Nat.le_succ _) rfl rfl fx_in_6_2 (t := (p0 + 3)) rfl (fun hA4 => ?_)
  refine fx_n (pc' := 15) (lv' := lv1) (st' := [.int (Int32.ofInt 0), .ref (p0 + 3)]) aj_d116 rfl (Nat.le_succ _) (fun _ => rfl) ?_
  refine fx_cs aj_d116 rfl (Nat.le_succ _) rfl rfl [_, _] rfl rfl (gx_117_ok (p0 + 3) (Int32.ofInt 0) hA4) ?_
  rintro _ X5 ⟨w6, rfl, hR5⟩ hok5 hle5
  refine fx_qc hR5 ?_
  show fx_W _ _ _ 18 lv1 [] _ _
  exact fx_rn aj_d116 rfl ⟨(), rfl, 0, rfl⟩
def gxT_119_5 (p0 : Nat) (p1 : Int32) (p2 : Int32) (P : Nat → List Int32 → List Int64 → List Nat → fx_X → Int32 → fx_X → Prop) (y3 : Int32) (y4 : Int32) (X : fx_X) (v : Int32) (X' : fx_X) : Prop :=
  (if (y4).toInt < ((X.1 p0 3)).toInt then ((if (((p2 >>> (((Int32.ofInt 3) * y4) &&& 31)) &&& ((Int8.ofInt 7).toInt32))).toInt < (p1).toInt then (∃ x6 : Int32, x6 = (y3 + (Int32.ofInt 0)) ∧ ∃ x8 : Int32, x8 = y4 + Int32.ofInt 1 ∧ P 5 [x6, x8] [] [] X v X') else (∃ x10 : Int32, x10 = (y3 + (Int32.ofInt 1)) ∧ ∃ x12 : Int32, x12 = y4 + Int32.ofInt 1 ∧ P 5 [x10, x12] [] [] X v X'))) else (v = y3 ∧ X' = X))
def gxE_119 (p0 : Nat) (p1 : Int32) (p2 : Int32) (P : Nat → List Int32 → List Int64 → List Nat → fx_X → Int32 → fx_X → Prop) (X : fx_X) (v : Int32) (X' : fx_X) : Prop :=
  P 5 [(Int32.ofInt 0), (Int32.ofInt 0)] [] [] X v X'
noncomputable def gxF_119 (p0 : Nat) (p1 : Int32) (p2 : Int32) (n : Nat) : Nat → List Int32 → List Int64 → List Nat → fx_X → Int32 → fx_X → Prop := Nat.rec (motive := fun _ => Nat → List Int32 → List Int64 → List Nat → fx_X → Int32 → fx_X → Prop) (fun _ _ _ _ _ _ _ => False) (fun _ P l is ls rs X v X' => (l = 5 ∧ ∃ (y3 : Int32) (y4 : Int32), is = [y3, y4] ∧ ls = [] ∧ rs = [] ∧ gxT_119_5 p0 p1 p2 P y3 y4 X v X')) n
theorem gxI_119_5 {p0 : Nat} {p1 : Int32} {p2 : Int32} {n : Nat} {y3 : Int32} {y4 : Int32} {X : fx_X} {v : Int32} {X' : fx_X} (h : gxT_119_5 p0 p1 p2 (gxF_119 p0 p1 p2 n) y3 y4 X v X') : gxF_119 p0 p1 p2 (n + 1) 5 [y3, y4] [] [] X v X' := ⟨rfl, y3, y4, rfl, rfl, rfl, h⟩
theorem gxO_119_5 {p0 : Nat} {p1 : Int32} {p2 : Int32} {n : Nat} {y3 : Int32} {y4 : Int32} {X : fx_X} {v : Int32} {X' : fx_X} (h : gxF_119 p0 p1 p2 (n + 1) 5 [y3, y4] [] [] X v X') : gxT_119_5 p0 p1 p2 (gxF_119 p0 p1 p2 n) y3 y4 X v X' := by
  rcases h with ⟨-, _, _, e1, e2, e3, h⟩
  · cases e1; cases e2; cases e3; exact h
def gx_119 (p0 : Nat) (p1 : Int32) (p2 : Int32) (X : fx_X) (v : Int32) (X' : fx_X) : Prop := ∃ n : Nat, gxE_119 p0 p1 p2 (gxF_119 p0 p1 p2 n) X v X'
theorem gxL_119 {tb : aj_T} (p0 : Nat) (p1 : Int32) (p2 : Int32) : ∀ N : Nat, (∀ (lv : aj_V) (y3 : Int32) (y4 : Int32) (X : fx_X), aj_lv lv 0 = some (.ref p0) → aj_lv lv 1 = some (.int p1) → aj_lv lv 2 = some (.int p2) → aj_lv lv 3 = some (.int y3) → aj_lv lv 4 = some (.int y4) → fx_W tb aj_m119 N 5 lv [] X (fx_Q fx_qI (fun v X' => ∃ n : Nat, gxF_119 p0 p1 p2 n 5 [y3, y4] [] [] X v X'))) := by
  intro N
  induction N with
  | zero => exact (by intros; exact fx_z)
  | succ N ih =>
    skip
    · intro lv y3 y4 X hlv_0 hlv_1 hlv_2 hlv_3 hlv_4
      refine fx_mono (Q := fx_Q fx_qI (fun v X' => ∃ n : Nat, gxT_119_5 p0 p1 p2 (gxF_119 p0 p1 p2 n) y3 y4 X v X')) (fun r X' ⟨v, e, n, z⟩ => ⟨v, e, n + 1, gxI_119_5 z⟩) ?_
      unfold gxT_119_5
      refine fx_i0 aj_d119 rfl (Nat.le_refl _) (fun _ => rfl) hlv_4 ?_
      refine fx_i2 aj_d119 rfl (Nat.le_succ _) (fun _ => rfl) hlv_0 ?_
      refine fx_gI aj_d119 rfl (Nat.le_succ _) rfl rfl (Or.inl rfl) ?_
      refine fx_b (tgt := 41) aj_d119 rfl (Nat.le_succ _) rfl (fun q4 => ?_) (fun q4 => ?_)
      · skip
        refine fx_qe (c := (y4).toInt < ((X.1 p0 3)).toInt) (fx_t_ge q4) ?_
        show fx_W _ _ _ 41 lv [] _ _
        refine fx_i0 aj_d119 rfl (Nat.le_succ _) (fun _ => rfl) hlv_3 ?_
        exact fx_ri aj_d119 rfl ⟨_, rfl, 0, rfl, rfl⟩
      · skip
        refine fx_qi (c := (y4).toInt < ((X.1 p0 3)).toInt) (fx_f_ge q4) ?_
        show fx_W _ _ _ 14 lv [] _ _
        refine fx_i0 aj_d119 rfl (Nat.le_succ _) (fun _ => rfl) hlv_3 ?_
        refine fx_i0 aj_d119 rfl (Nat.le_succ _) (fun _ => rfl) hlv_2 ?_
        refine fx_n (pc' := 17) (lv' := lv) (st' := [.int (Int32.ofInt 3), .int p2, .int y3]) aj_d119 rfl (Nat.le_succ _) (fun _ => rfl) ?_
        refine fx_i0 aj_d119 rfl (Nat.le_succ _) (fun _ => rfl) hlv_4 ?_
        refine fx_n (pc' := 20) (lv' := lv) (st' := [.int ((Int32.ofInt 3) * y4), .int p2, .int y3]) aj_d119 rfl (Nat.le_succ _) (fun _ => rfl) ?_
        refine fx_n (pc' := 21) (lv' := lv) (st' := [.int (p2 >>> (((Int32.ofInt 3) * y4) &&& 31)), .int y3]) aj_d119 rfl (Nat.le_succ _) (fun _ => rfl) ?_
        refine fx_n (pc' := 23) (lv' := lv) (st' := [.int ((Int8.ofInt 7).toInt32), .int (p2 >>> (((Int32.ofInt 3) * y4) &&& 31)), .int y3]) aj_d119 rfl (Nat.le_succ _) (fun _ => rfl) ?_
        refine fx_n (pc' := 24) (lv' := lv) (st' := [.int ((p2 >>> (((Int32.ofInt 3) * y4) &&& 31)) &&& ((Int8.ofInt 7).toInt32)), .int y3]) aj_d119 rfl (Nat.le_succ _) (fun _ => rfl) ?_
        refine fx_i0 aj_d119 rfl (Nat.le_succ _) (fun _ => rfl) hlv_1 ?_
        refine fx_b (tgt := 32) aj_d119 rfl (Nat.le_succ _) rfl (fun q5 => ?_) (fun q5 => ?_)
        · skip
          refine fx_qi (c := (((p2 >>> (((Int32.ofInt 3) * y4) &&& 31)) &&& ((Int8.ofInt 7).toInt32))).toInt < (p1).toInt) (fx_t_lt q5) ?_
          show fx_W _ _ _ 32 lv [.int y3] _ _
          refine fx_n (pc' := 33) (lv' := lv) (st' := [.int (Int32.ofInt 0), .int y3]) aj_d119 rfl (Nat.le_succ _) (fun _ => rfl) ?_
          refine fx_n (pc' := 34) (lv' := lv) (st' := [.int (y3 + (Int32.ofInt 0))]) aj_d119 rfl (Nat.le_succ _) (fun _ => rfl) ?_
          refine fx_qxI (fun x6 ex6 => ?_)
          refine fx_s0 (j := 3) aj_d119 rfl (Nat.le_succ _) (by decide) (fun _ => rfl) ?_
          obtain ⟨lv7, elv7⟩ : ∃ l, l = aj_set1 lv 3 (.int x6) := ⟨_, rfl⟩
          rw [← elv7]
          have hlv7_0 : aj_lv lv7 0 = some (.ref p0) := fx_e1 elv7 hlv_0 (by decide) (Or.inl (by decide))
          have hlv7_1 : aj_lv lv7 1 = some (.int p1) := fx_e1 elv7 hlv_1 (by decide) (Or.inl (by decide))
          have hlv7_2 : aj_lv lv7 2 = some (.int p2) := fx_e1 elv7 hlv_2 (by decide) (Or.inr rfl)
          have hlv7_4 : aj_lv lv7 4 = some (.int y4) := fx_e1 elv7 hlv_4 (by decide) (Or.inl (by decide))
          have hlv7_3 : aj_lv lv7 3 = some (.int x6) := by rw [elv7]; exact ak_set1_eq _ _ _
          show fx_W _ _ _ 35 lv7 [] _ _
          refine fx_incq aj_d119 rfl (Nat.le_succ _) hlv7_4 (by decide) (fun x8 ex8 => ?_)
          obtain ⟨lv9, elv9⟩ : ∃ l, l = aj_set1 lv7 4 (.int x8) := ⟨_, rfl⟩
          rw [← elv9]
          have hlv9_0 : aj_lv lv9 0 = some (.ref p0) := fx_e1 elv9 hlv7_0 (by decide) (Or.inl (by decide))
          have hlv9_1 : aj_lv lv9 1 = some (.int p1) := fx_e1 elv9 hlv7_1 (by decide) (Or.inl (by decide))
          have hlv9_2 : aj_lv lv9 2 = some (.int p2) := fx_e1 elv9 hlv7_2 (by decide) (Or.inl (by decide))
          have hlv9_3 : aj_lv lv9 3 = some (.int x6) := fx_e1 elv9 hlv7_3 (by decide) (Or.inr rfl)
          have hlv9_4 : aj_lv lv9 4 = some (.int x8) := by rw [elv9]; exact ak_set1_eq _ _ _
          show fx_W _ _ _ 38 lv9 [] _ _
          refine fx_n (pc' := 5) (lv' := lv9) (st' := []) aj_d119 rfl (Nat.le_succ _) (fun _ => rfl) ?_
          exact (ih) lv9 (x6) (x8) X  hlv9_0 hlv9_1 hlv9_2 hlv9_3 hlv9_4
        · skip
          refine fx_qe (c := (((p2 >>> (((Int32.ofInt 3) * y4) &&& 31)) &&& ((Int8.ofInt 7).toInt32))).toInt < (p1).toInt) (fx_f_lt q5) ?_
          show fx_W _ _ _ 28 lv [.int y3] _ _
          refine fx_n (pc' := 29) (lv' := lv) (st' := [.int (Int32.ofInt 1), .int y3]) aj_d119 rfl (Nat.le_succ _) (fun _ => rfl) ?_
          refine fx_n (pc' := 33) (lv' := lv) (st' := [.int (Int32.ofInt 1), .int y3]) aj_d119 rfl (Nat.le_succ _) (fun _ => rfl) ?_
          refine fx_n (pc' := 34) (lv' := lv) (st' := [.int (y3 + (Int32.ofInt 1))]) aj_d119 rfl (Nat.le_succ _) (fun _ => rfl) ?_
          refine fx_qxI (fun x10 ex10 => ?_)
          refine fx_s0 (j := 3) aj_d119 rfl (Nat.le_succ _) (by decide) (fun _ => rfl) ?_
          obtain ⟨lv11, elv11⟩ : ∃ l, l = aj_set1 lv 3 (.int x10) := ⟨_, rfl⟩
          rw [← elv11]
          have hlv11_0 : aj_lv lv11 0 = some (.ref p0) := fx_e1 elv11 hlv_0 (by decide) (Or.inl (by decide))
          have hlv11_1 : aj_lv lv11 1 = some (.int p1) := fx_e1 elv11 hlv_1 (by decide) (Or.inl (by decide))
          have hlv11_2 : aj_lv lv11 2 = some (.int p2) := fx_e1 elv11 hlv_2 (by decide) (Or.inr rfl)
          have hlv11_4 : aj_lv lv11 4 = some (.int y4) := fx_e1 elv11 hlv_4 (by decide) (Or.inl (by decide))
          have hlv11_3 : aj_lv lv11 3 = some (.int x10) := by rw [elv11]; exact ak_set1_eq _ _ _
          show fx_W _ _ _ 35 lv11 [] _ _
          refine fx_incq aj_d119 rfl (Nat.le_succ _) hlv11_4 (by decide) (fun x12 ex12 => ?_)
          obtain ⟨lv13, elv13⟩ : ∃ l, l = aj_set1 lv11 4 (.int x12) := ⟨_, rfl⟩
          rw [← elv13]
          have hlv13_0 : aj_lv lv13 0 = some (.ref p0) := fx_e1 elv13 hlv11_0 (by decide) (Or.inl (by decide))
          have hlv13_1 : aj_lv lv13 1 = some (.int p1) := fx_e1 elv13 hlv11_1 (by decide) (Or.inl (by decide))
          have hlv13_2 : aj_lv lv13 2 = some (.int p2) := fx_e1 elv13 hlv11_2 (by decide) (Or.inl (by decide))
          have hlv13_3 : aj_lv lv13 3 = some (.int x10) := fx_e1 elv13 hlv11_3 (by decide) (Or.inr rfl)
          have hlv13_4 : aj_lv lv13 4 = some (.int x12) := by rw [elv13]; exact ak_set1_eq _ _ _
          show fx_W _ _ _ 38 lv13 [] _ _
          refine fx_n (pc' := 5) (lv' := lv13) (st' := []) aj_d119 rfl (Nat.le_succ _) (fun _ => rfl) ?_
          exact (ih) lv13 (x10) (x12) X  hlv13_0 hlv13_1 hlv13_2 hlv13_3 hlv13_4
theorem gx_119_ok {tb : aj_T} (p0 : Nat) (p1 : Int32) (p2 : Int32) {X : fx_X} : fx_K tb 119 [.ref p0, .int p1, .int p2] X (fx_Q fx_qI (fun v X' => gx_119 p0 p1 p2 X v X')) := by
  refine fx_m aj_m119_at rfl (fun N => ?_)
  refine fx_mono (Q := fx_Q fx_qI (fun v X' => ∃ n : Nat, gxE_119 p0 p1 p2 (gxF_119 p0 p1 p2 n) X v X')) (fun r X' h => h) ?_
  unfold gxE_119
  show fx_W _ _ _ 0 [(0, .ref p0), (1, .int p1), (2, .int p2)] [] _ _
  obtain ⟨lv1, elv1⟩ : ∃ l : aj_V, l = [(0, .ref p0), (1, .int p1), (2, .int p2)] := ⟨_, rfl⟩
  rw [← elv1]
  have hlv1_0 : aj_lv lv1 0 = some (.ref p0) := by rw [elv1]; rfl
  have hlv1_1 : aj_lv lv1 1 = some (.int p1) := by rw [elv1]; rfl
  have hlv1_2 : aj_lv lv1 2 = some (.int p2) := by rw [elv1]; rfl
  refine fx_n (pc' := 1) (lv' := lv1) (st' := [.int (Int32.ofInt 0)]) aj_d119 rfl (Nat.le_succ _) (fun _ => rfl) ?_
  refine fx_s0 (j := 3) aj_d119 rfl (Nat.le_succ _) (by decide) (fun _ => rfl) ?_
  obtain ⟨lv2, elv2⟩ : ∃ l, l = aj_set1 lv1 3 (.int (Int32.ofInt 0)) := ⟨_, rfl⟩
  rw [← elv2]
  have hlv2_0 : aj_lv lv2 0 = some (.ref p0) := fx_e1 elv2 hlv1_0 (by decide) (Or.inl (by decide))
  have hlv2_1 : aj_lv lv2 1 = some (.int p1) := fx_e1 elv2 hlv1_1 (by decide) (Or.inl (by decide))
  have hlv2_2 : aj_lv lv2 2 = some (.int p2) := fx_e1 elv2 hlv1_2 (by decide) (Or.inr rfl)
  have hlv2_3 : aj_lv lv2 3 = some (.int (Int32.ofInt 0)) := by rw [elv2]; exact ak_set1_eq _ _ _
  show fx_W _ _ _ 2 lv2 [] _ _
  refine fx_n (pc' := 3) (lv' := lv2) (st' := [.int (Int32.ofInt 0)]) aj_d119 rfl (Nat.le_succ _) (fun _ => rfl) ?_
  refine fx_s0 (j := 4) aj_d119 rfl (Nat.le_succ _) (by decide) (fun _ => rfl) ?_
  obtain ⟨lv3, elv3⟩ : ∃ l, l = aj_set1 lv2 4 (.int (Int32.ofInt 0)) := ⟨_, rfl⟩
  rw [← elv3]
  have hlv3_0 : aj_lv lv3 0 = some (.ref p0) := fx_e1 elv3 hlv2_0 (by decide) (Or.inl (by decide))
  have hlv3_1 : aj_lv lv3 1 = some (.int p1) := fx_e1 elv3 hlv2_1 (by decide) (Or.inl (by decide))
  have hlv3_2 : aj_lv lv3 2 = some (.int p2) := fx_e1 elv3 hlv2_2 (by decide) (Or.inl (by decide))
  have hlv3_3 : aj_lv lv3 3 = some (.int (Int32.ofInt 0)) := fx_e1 elv3 hlv2_3 (by decide) (Or.inr rfl)
  have hlv3_4 : aj_lv lv3 4 = some (.int (Int32.ofInt 0)) := by rw [elv3]; exact ak_set1_eq _ _ _
  show fx_W _ _ _ 5 lv3 [] _ _
  exact ((gxL_119 p0 p1 p2 N)) lv3 ((Int32.ofInt 0)) ((Int32.ofInt 0)) X  hlv3_0 hlv3_1 hlv3_2 hlv3_3 hlv3_4
def gx_120 (X : fx_X) (v : Unit) (X' : fx_X) : Prop :=
  ∃ x2 : Int32, x2 = ((X.1 95 4) - (Int32.ofInt 1)) ∧ (if (x2).toInt < 0 then (X' = X) else ((if (x2).toInt < 20 then (∃ (w8 : Nat) (X7 : fx_X), gx_100 x2 X w8 X7 ∧ ∃ b12 : Nat, X7.2.2.1 95 5 = some b12 ∧ (0 ≤ (x2).toInt ∧ (x2).toInt < ((20 : Nat) : Int)) ∧ ∃ X14 : fx_X, X14 = (fx_wR X7 101 (x2).toInt.toNat (some b12)) ∧ ∃ X16 : fx_X, X16 = (fx_wR X14 95 5 (some w8)) ∧ X' = X16) else (X' = X))))
theorem gx_120_ok {tb : aj_T} {X : fx_X} : fx_K tb 120 [.ref 95] X (fx_Q fx_qN (fun v X' => gx_120 X v X')) := by
  refine fx_m aj_m120_at rfl (fun N => ?_)
  refine fx_mono (Q := fx_Q fx_qN (fun v X' => ∃ n : Nat, gx_120 X v X')) (fun r X' ⟨v, e, _, z⟩ => ⟨v, e, z⟩) ?_
  unfold gx_120
  show fx_W _ _ _ 0 [(0, .ref 95)] [] _ _
  obtain ⟨lv1, elv1⟩ : ∃ l : aj_V, l = [(0, .ref 95)] := ⟨_, rfl⟩
  rw [← elv1]
  have hlv1_0 : aj_lv lv1 0 = some (.ref 95) := by rw [elv1]; rfl
  refine fx_i2 aj_d120 rfl (Nat.le_succ _) (fun _ => rfl) hlv1_0 ?_
  refine fx_gI aj_d120 rfl (Nat.le_succ _) rfl rfl (Or.inl rfl) ?_
  refine fx_n (pc' := 5) (lv' := lv1) (st' := [.int (Int32.ofInt 1), .int (X.1 95 4)]) aj_d120 rfl (Nat.le_succ _) (fun _ => rfl) ?_
  refine fx_n (pc' := 6) (lv' := lv1) (st' := [.int ((X.1 95 4) - (Int32.ofInt 1))]) aj_d120 rfl (Nat.le_succ _) (fun _ => rfl) ?_
  refine fx_qxI (fun x2 ex2 => ?_)
  refine fx_s0 (j := 1) aj_d120 rfl (Nat.le_succ _) (by decide) (fun _ => rfl) ?_
  obtain ⟨lv3, elv3⟩ : ∃ l, l = aj_set1 lv1 1 (.int x2) := ⟨_, rfl⟩
  rw [← elv3]
  have hlv3_0 : aj_lv lv3 0 = some (.ref 95) := fx_e1 elv3 hlv1_0 (by decide) (Or.inr rfl)
  have hlv3_1 : aj_lv lv3 1 = some (.int x2) := by rw [elv3]; exact ak_set1_eq _ _ _
  show fx_W _ _ _ 7 lv3 [] _ _
  refine fx_i0 aj_d120 rfl (Nat.le_succ _) (fun _ => rfl) hlv3_1 ?_
  refine fx_b0 (tgt := 41) aj_d120 rfl (Nat.le_succ _) rfl (fun q4 => ?_) (fun q4 => ?_)
  · skip
    refine fx_qi (c := (x2).toInt < 0) (fx_t_lt q4) ?_
    show fx_W _ _ _ 41 lv3 [] _ _
    exact fx_rn aj_d120 rfl ⟨(), rfl, 0, rfl⟩
  · skip
    refine fx_qe (c := (x2).toInt < 0) (fx_f_lt q4) ?_
    show fx_W _ _ _ 11 lv3 [] _ _
    refine fx_i0 aj_d120 rfl (Nat.le_succ _) (fun _ => rfl) hlv3_1 ?_
    refine fx_i2 aj_d120 rfl (Nat.le_succ _) (fun _ => rfl) hlv3_0 ?_
    refine fx_gF aj_d120 rfl (Nat.le_succ _) rfl rfl fx_in_9_3 (t := 101) rfl (fun hA5 => ?_)
    refine fx_al aj_d120 rfl (Nat.le_succ _) ?_
    rw [(hA5 : X.2.2.2.1 101 = (5, 20))]
    show fx_W _ _ _ 17 lv3 [.int (Int32.ofNat 20), .int x2] _ _
    refine fx_b (tgt := 41) aj_d120 rfl (Nat.le_succ _) rfl (fun q6 => ?_) (fun q6 => ?_)
    · skip
      refine fx_qe (c := (x2).toInt < 20) (fx_t_ge q6) ?_
      show fx_W _ _ _ 41 lv3 [] _ _
      exact fx_rn aj_d120 rfl ⟨(), rfl, 0, rfl⟩
    · skip
      refine fx_qi (c := (x2).toInt < 20) (fx_f_ge q6) ?_
      show fx_W _ _ _ 20 lv3 [] _ _
      refine fx_i2 aj_d120 rfl (Nat.le_succ _) (fun _ => rfl) hlv3_0 ?_
      refine fx_i0 aj_d120 rfl (Nat.le_succ _) (fun _ => rfl) hlv3_1 ?_
      refine fx_cv aj_d120 rfl (Nat.le_succ _) rfl [_] rfl rfl (gx_100_ok x2) ?_
      rintro _ X7 ⟨w8, rfl, hR7⟩ hok7 hle7
      refine fx_qc hR7 ?_
      show fx_W _ _ _ 25 lv3 [.ref w8] _ _
      refine fx_s2 (j := 2) aj_d120 rfl (Nat.le_succ _) (by decide) (fun _ => rfl) ?_
      obtain ⟨lv9, elv9⟩ : ∃ l, l = aj_set1 lv3 2 (.ref w8) := ⟨_, rfl⟩
      rw [← elv9]
      have hlv9_0 : aj_lv lv9 0 = some (.ref 95) := fx_e1 elv9 hlv3_0 (by decide) (Or.inl (by decide))
      have hlv9_1 : aj_lv lv9 1 = some (.int x2) := fx_e1 elv9 hlv3_1 (by decide) (Or.inr rfl)
      have hlv9_2 : aj_lv lv9 2 = some (.ref w8) := by rw [elv9]; exact ak_set1_eq _ _ _
      show fx_W _ _ _ 26 lv9 [] _ _
      refine fx_i2 aj_d120 rfl (Nat.le_succ _) (fun _ => rfl) hlv9_0 ?_
      refine fx_gF aj_d120 rfl (Nat.le_succ _) rfl rfl fx_in_9_3 (t := 101) rfl (fun hA10 => ?_)
      refine fx_i0 aj_d120 rfl (Nat.le_succ _) (fun _ => rfl) hlv9_1 ?_
      refine fx_i2 aj_d120 rfl (Nat.le_succ _) (fun _ => rfl) hlv9_0 ?_
      refine fx_gR aj_d120 rfl (Nat.le_succ _) rfl rfl (Or.inl ⟨_, rfl⟩) (fun _ z => absurd (by decide) z) (fun b12 q11 => ?_)
      show fx_W _ _ _ 35 lv9 [.ref b12, .int x2, .ref 101] _ _
      refine fx_qs q11 ?_
      refine fx_sR aj_d120 rfl (Nat.le_succ _) (fun g130 g131 => ?_)
      refine fx_qa (c := 0 ≤ (x2).toInt ∧ (x2).toInt < ((20 : Nat) : Int)) ⟨g130, fx_lnk g131 hA10⟩ ?_
      refine fx_qX (fun X14 eX14 => ?_)
      show fx_W _ _ _ 36 lv9 [] _ _
      have kn15 : X14.2.2.1 101 (x2).toInt.toNat = some b12 := by rw [eX14]; exact if_pos ⟨rfl, rfl⟩
      refine fx_i2 aj_d120 rfl (Nat.le_succ _) (fun _ => rfl) hlv9_0 ?_
      refine fx_i2 aj_d120 rfl (Nat.le_succ _) (fun _ => rfl) hlv9_2 ?_
      refine fx_pR aj_d120 rfl (Nat.le_succ _) rfl rfl (Or.inl ⟨_, rfl⟩) fx_no_9_5 (o := (some w8)) rfl (fun _ z => by cases z) ?_
      refine fx_qX (fun X16 eX16 => ?_)
      show fx_W _ _ _ 41 lv9 [] _ _
      exact fx_rn aj_d120 rfl ⟨(), rfl, 0, rfl⟩
def gxT_118_20 (p1 : Nat) (p2 : Int32) (p3 : Nat) (p4 : Int32) (p5 : Int32) (P : Nat → List Int32 → List Int64 → List Nat → fx_X → Unit → fx_X → Prop) (y6 : Int32) (y7 : Int32) (y8 : Int32) (X : fx_X) (v : Unit) (X' : fx_X) : Prop :=
  (if (y8).toInt < ((X.1 p3 3)).toInt then ((if (((p5 >>> (((Int32.ofInt 3) * y8) &&& 31)) &&& ((Int8.ofInt 7).toInt32))).toInt < ((X.1 p1 3)).toInt then (∃ x16 : Int32, x16 = y8 + Int32.ofInt 1 ∧ P 20 [y6, y7, x16] [] [] X v X') else (∃ b19 : Nat, X.2.2.1 95 5 = some b19 ∧ ∃ (w21 : Int32) (X20 : fx_X), gx_103 p3 p4 y8 X w21 X20 ∧ ∃ (w23 : Int32) (X22 : fx_X), gx_104 p3 p4 y8 X20 w23 X22 ∧ ∃ (w25 : Unit) (X24 : fx_X), gx_105 b19 y6 y7 w21 w23 X22 w25 X24 ∧ ∃ x26 : Int32, x26 = y7 + Int32.ofInt 1 ∧ ∃ x28 : Int32, x28 = y8 + Int32.ofInt 1 ∧ P 20 [y6, x26, x28] [] [] X24 v X'))) else (∃ (w12 : Int32) (X11 : fx_X), gx_112 p1 p2 p3 p4 p5 X w12 X11 ∧ (if (w12).toInt = 0 then (P 99 [y6, (Int32.ofInt 0)] [] [] X11 v X') else (X' = X11))))
def gxT_118_99 (p1 : Nat) (p2 : Int32) (p3 : Nat) (p4 : Int32) (p5 : Int32) (P : Nat → List Int32 → List Int64 → List Nat → fx_X → Unit → fx_X → Prop) (y6 : Int32) (y8 : Int32) (X : fx_X) (v : Unit) (X' : fx_X) : Prop :=
  ∃ b31 : Nat, X.2.2.1 95 7 = some b31 ∧ (if (y8).toInt < ((X.1 b31 13)).toInt then (∃ (w36 : Int32) (X35 : fx_X), gx_113 p1 b31 p2 p3 p4 p5 y8 X w36 X35 ∧ (if (w36).toInt = 0 then (∃ x38 : Int32, x38 = y8 + Int32.ofInt 1 ∧ P 99 [y6, x38] [] [] X35 v X') else (∃ b41 : Nat, X35.2.2.1 95 5 = some b41 ∧ ∃ (w43 : Unit) (X42 : fx_X), gx_109 b41 y6 y8 X35 w43 X42 ∧ ∃ x44 : Int32, x44 = y8 + Int32.ofInt 1 ∧ P 99 [y6, x44] [] [] X42 v X'))) else (X' = X))
def gxE_118 (p1 : Nat) (p2 : Int32) (p3 : Nat) (p4 : Int32) (p5 : Int32) (P : Nat → List Int32 → List Int64 → List Nat → fx_X → Unit → fx_X → Prop) (X : fx_X) (v : Unit) (X' : fx_X) : Prop :=
  ∃ b3 : Nat, X.2.2.1 95 5 = some b3 ∧ ∃ (w5 : Int32) (X4 : fx_X), gx_102 b3 p1 p2 X w5 X4 ∧ ∃ x7 : Int32, x7 = (X4.1 p1 3) ∧ P 20 [w5, x7, (Int32.ofInt 0)] [] [] X4 v X'
noncomputable def gxF_118 (p1 : Nat) (p2 : Int32) (p3 : Nat) (p4 : Int32) (p5 : Int32) (n : Nat) : Nat → List Int32 → List Int64 → List Nat → fx_X → Unit → fx_X → Prop := Nat.rec (motive := fun _ => Nat → List Int32 → List Int64 → List Nat → fx_X → Unit → fx_X → Prop) (fun _ _ _ _ _ _ _ => False) (fun _ P l is ls rs X v X' => (l = 20 ∧ ∃ (y6 : Int32) (y7 : Int32) (y8 : Int32), is = [y6, y7, y8] ∧ ls = [] ∧ rs = [] ∧ gxT_118_20 p1 p2 p3 p4 p5 P y6 y7 y8 X v X') ∨ (l = 99 ∧ ∃ (y6 : Int32) (y8 : Int32), is = [y6, y8] ∧ ls = [] ∧ rs = [] ∧ gxT_118_99 p1 p2 p3 p4 p5 P y6 y8 X v X')) n
theorem gxI_118_20 {p1 : Nat} {p2 : Int32} {p3 : Nat} {p4 : Int32} {p5 : Int32} {n : Nat} {y6 : Int32} {y7 : Int32} {y8 : Int32} {X : fx_X} {v : Unit} {X' : fx_X} (h : gxT_118_20 p1 p2 p3 p4 p5 (gxF_118 p1 p2 p3 p4 p5 n) y6 y7 y8 X v X') : gxF_118 p1 p2 p3 p4 p5 (n + 1) 20 [y6, y7, y8] [] [] X v X' := Or.inl ⟨rfl, y6, y7, y8, rfl, rfl, rfl, h⟩
theorem gxO_118_20 {p1 : Nat} {p2 : Int32} {p3 : Nat} {p4 : Int32} {p5 : Int32} {n : Nat} {y6 : Int32} {y7 : Int32} {y8 : Int32} {X : fx_X} {v : Unit} {X' : fx_X} (h : gxF_118 p1 p2 p3 p4 p5 (n + 1) 20 [y6, y7, y8] [] [] X v X') : gxT_118_20 p1 p2 p3 p4 p5 (gxF_118 p1 p2 p3 p4 p5 n) y6 y7 y8 X v X' := by
  rcases h with ⟨-, _, _, _, e1, e2, e3, h⟩ | ⟨e, -⟩
  · cases e1; cases e2; cases e3; exact h
  · exact absurd e (by decide)
theorem gxI_118_99 {p1 : Nat} {p2 : Int32} {p3 : Nat} {p4 : Int32} {p5 : Int32} {n : Nat} {y6 : Int32} {y8 : Int32} {X : fx_X} {v : Unit} {X' : fx_X} (h : gxT_118_99 p1 p2 p3 p4 p5 (gxF_118 p1 p2 p3 p4 p5 n) y6 y8 X v X') : gxF_118 p1 p2 p3 p4 p5 (n + 1) 99 [y6, y8] [] [] X v X' := Or.inr (⟨rfl, y6, y8, rfl, rfl, rfl, h⟩)
theorem gxO_118_99 {p1 : Nat} {p2 : Int32} {p3 : Nat} {p4 : Int32} {p5 : Int32} {n : Nat} {y6 : Int32} {y8 : Int32} {X : fx_X} {v : Unit} {X' : fx_X} (h : gxF_118 p1 p2 p3 p4 p5 (n + 1) 99 [y6, y8] [] [] X v X') : gxT_118_99 p1 p2 p3 p4 p5 (gxF_118 p1 p2 p3 p4 p5 n) y6 y8 X v X' := by
  rcases h with ⟨e, -⟩ | ⟨-, _, _, e1, e2, e3, h⟩
  · exact absurd e (by decide)
  · cases e1; cases e2; cases e3; exact h
def gx_118 (p1 : Nat) (p2 : Int32) (p3 : Nat) (p4 : Int32) (p5 : Int32) (X : fx_X) (v : Unit) (X' : fx_X) : Prop := ∃ n : Nat, gxE_118 p1 p2 p3 p4 p5 (gxF_118 p1 p2 p3 p4 p5 n) X v X'
theorem gxL_118 {tb : aj_T} (p1 : Nat) (p2 : Int32) (p3 : Nat) (p4 : Int32) (p5 : Int32) : ∀ N : Nat, (∀ (lv : aj_V) (y6 : Int32) (y7 : Int32) (y8 : Int32) (X : fx_X), aj_lv lv 0 = some (.ref 95) → aj_lv lv 1 = some (.ref p1) → aj_lv lv 2 = some (.int p2) → aj_lv lv 3 = some (.ref p3) → aj_lv lv 4 = some (.int p4) → aj_lv lv 5 = some (.int p5) → aj_lv lv 6 = some (.int y6) → aj_lv lv 7 = some (.int y7) → aj_lv lv 8 = some (.int y8) → fx_W tb aj_m118 N 20 lv [] X (fx_Q fx_qN (fun v X' => ∃ n : Nat, gxF_118 p1 p2 p3 p4 p5 n 20 [y6, y7, y8] [] [] X v X'))) ∧ (∀ (lv : aj_V) (y6 : Int32) (y8 : Int32) (X : fx_X), aj_lv lv 0 = some (.ref 95) → aj_lv lv 1 = some (.ref p1) → aj_lv lv 2 = some (.int p2) → aj_lv lv 3 = some (.ref p3) → aj_lv lv 4 = some (.int p4) → aj_lv lv 5 = some (.int p5) → aj_lv lv 6 = some (.int y6) → aj_lv lv 8 = some (.int y8) → fx_W tb aj_m118 N 99 lv [] X (fx_Q fx_qN (fun v X' => ∃ n : Nat, gxF_118 p1 p2 p3 p4 p5 n 99 [y6, y8] [] [] X v X'))) := by
  intro N
  induction N with
  | zero => exact ⟨(by intros; exact fx_z), (by intros; exact fx_z)⟩
  | succ N ih =>
    refine ⟨?_, ?_⟩
    · intro lv y6 y7 y8 X hlv_0 hlv_1 hlv_2 hlv_3 hlv_4 hlv_5 hlv_6 hlv_7 hlv_8
      refine fx_mono (Q := fx_Q fx_qN (fun v X' => ∃ n : Nat, gxT_118_20 p1 p2 p3 p4 p5 (gxF_118 p1 p2 p3 p4 p5 n) y6 y7 y8 X v X')) (fun r X' ⟨v, e, n, z⟩ => ⟨v, e, n + 1, gxI_118_20 z⟩) ?_
      unfold gxT_118_20
      refine fx_i0 aj_d118 rfl (Nat.le_refl _) (fun _ => rfl) hlv_8 ?_
      refine fx_i2 aj_d118 rfl (Nat.le_succ _) (fun _ => rfl) hlv_3 ?_
      refine fx_gI aj_d118 rfl (Nat.le_succ _) rfl rfl (Or.inl rfl) ?_
      refine fx_b (tgt := 82) aj_d118 rfl (Nat.le_succ _) rfl (fun q10 => ?_) (fun q10 => ?_)
      · skip
        refine fx_qe (c := (y8).toInt < ((X.1 p3 3)).toInt) (fx_t_ge q10) ?_
        show fx_W _ _ _ 82 lv [] _ _
        refine fx_i2 aj_d118 rfl (Nat.le_succ _) (fun _ => rfl) hlv_1 ?_
        refine fx_i0 aj_d118 rfl (Nat.le_succ _) (fun _ => rfl) hlv_2 ?_
        refine fx_i2 aj_d118 rfl (Nat.le_succ _) (fun _ => rfl) hlv_3 ?_
        refine fx_i0 aj_d118 rfl (Nat.le_succ _) (fun _ => rfl) hlv_4 ?_
        refine fx_i0 aj_d118 rfl (Nat.le_succ _) (fun _ => rfl) hlv_5 ?_
        refine fx_cv aj_d118 rfl (Nat.le_succ _) rfl [_, _, _, _] rfl rfl (gx_112_ok p1 p2 p3 p4 p5) ?_
        rintro _ X11 ⟨w12, rfl, hR11⟩ hok11 hle11
        refine fx_qc hR11 ?_
        show fx_W _ _ _ 92 lv [.int w12] _ _
        refine fx_b0 (tgt := 96) aj_d118 rfl (Nat.le_succ _) rfl (fun q13 => ?_) (fun q13 => ?_)
        · skip
          refine fx_qi (c := (w12).toInt = 0) (fx_t_eq q13) ?_
          show fx_W _ _ _ 96 lv [] _ _
          refine fx_n (pc' := 97) (lv' := lv) (st' := [.int (Int32.ofInt 0)]) aj_d118 rfl (Nat.le_succ _) (fun _ => rfl) ?_
          refine fx_s0 (j := 8) aj_d118 rfl (Nat.le_succ _) (by decide) (fun _ => rfl) ?_
          obtain ⟨lv14, elv14⟩ : ∃ l, l = aj_set1 lv 8 (.int (Int32.ofInt 0)) := ⟨_, rfl⟩
          rw [← elv14]
          have hlv14_0 : aj_lv lv14 0 = some (.ref 95) := fx_e1 elv14 hlv_0 (by decide) (Or.inl (by decide))
          have hlv14_1 : aj_lv lv14 1 = some (.ref p1) := fx_e1 elv14 hlv_1 (by decide) (Or.inl (by decide))
          have hlv14_2 : aj_lv lv14 2 = some (.int p2) := fx_e1 elv14 hlv_2 (by decide) (Or.inl (by decide))
          have hlv14_3 : aj_lv lv14 3 = some (.ref p3) := fx_e1 elv14 hlv_3 (by decide) (Or.inl (by decide))
          have hlv14_4 : aj_lv lv14 4 = some (.int p4) := fx_e1 elv14 hlv_4 (by decide) (Or.inl (by decide))
          have hlv14_5 : aj_lv lv14 5 = some (.int p5) := fx_e1 elv14 hlv_5 (by decide) (Or.inl (by decide))
          have hlv14_6 : aj_lv lv14 6 = some (.int y6) := fx_e1 elv14 hlv_6 (by decide) (Or.inl (by decide))
          have hlv14_8 : aj_lv lv14 8 = some (.int (Int32.ofInt 0)) := by rw [elv14]; exact ak_set1_eq _ _ _
          show fx_W _ _ _ 99 lv14 [] _ _
          exact (ih.2) lv14 (y6) ((Int32.ofInt 0)) X11  hlv14_0 hlv14_1 hlv14_2 hlv14_3 hlv14_4 hlv14_5 hlv14_6 hlv14_8
        · skip
          refine fx_qe (c := (w12).toInt = 0) (fx_f_eq q13) ?_
          show fx_W _ _ _ 95 lv [] _ _
          exact fx_rn aj_d118 rfl ⟨(), rfl, 0, rfl⟩
      · skip
        refine fx_qi (c := (y8).toInt < ((X.1 p3 3)).toInt) (fx_f_ge q10) ?_
        show fx_W _ _ _ 29 lv [] _ _
        refine fx_i0 aj_d118 rfl (Nat.le_succ _) (fun _ => rfl) hlv_5 ?_
        refine fx_n (pc' := 32) (lv' := lv) (st' := [.int (Int32.ofInt 3), .int p5]) aj_d118 rfl (Nat.le_succ _) (fun _ => rfl) ?_
        refine fx_i0 aj_d118 rfl (Nat.le_succ _) (fun _ => rfl) hlv_8 ?_
        refine fx_n (pc' := 35) (lv' := lv) (st' := [.int ((Int32.ofInt 3) * y8), .int p5]) aj_d118 rfl (Nat.le_succ _) (fun _ => rfl) ?_
        refine fx_n (pc' := 36) (lv' := lv) (st' := [.int (p5 >>> (((Int32.ofInt 3) * y8) &&& 31))]) aj_d118 rfl (Nat.le_succ _) (fun _ => rfl) ?_
        refine fx_n (pc' := 38) (lv' := lv) (st' := [.int ((Int8.ofInt 7).toInt32), .int (p5 >>> (((Int32.ofInt 3) * y8) &&& 31))]) aj_d118 rfl (Nat.le_succ _) (fun _ => rfl) ?_
        refine fx_n (pc' := 39) (lv' := lv) (st' := [.int ((p5 >>> (((Int32.ofInt 3) * y8) &&& 31)) &&& ((Int8.ofInt 7).toInt32))]) aj_d118 rfl (Nat.le_succ _) (fun _ => rfl) ?_
        refine fx_i2 aj_d118 rfl (Nat.le_succ _) (fun _ => rfl) hlv_1 ?_
        refine fx_gI aj_d118 rfl (Nat.le_succ _) rfl rfl (Or.inl rfl) ?_
        refine fx_b (tgt := 76) aj_d118 rfl (Nat.le_succ _) rfl (fun q15 => ?_) (fun q15 => ?_)
        · skip
          refine fx_qi (c := (((p5 >>> (((Int32.ofInt 3) * y8) &&& 31)) &&& ((Int8.ofInt 7).toInt32))).toInt < ((X.1 p1 3)).toInt) (fx_t_lt q15) ?_
          show fx_W _ _ _ 76 lv [] _ _
          refine fx_incq aj_d118 rfl (Nat.le_succ _) hlv_8 (by decide) (fun x16 ex16 => ?_)
          obtain ⟨lv17, elv17⟩ : ∃ l, l = aj_set1 lv 8 (.int x16) := ⟨_, rfl⟩
          rw [← elv17]
          have hlv17_0 : aj_lv lv17 0 = some (.ref 95) := fx_e1 elv17 hlv_0 (by decide) (Or.inl (by decide))
          have hlv17_1 : aj_lv lv17 1 = some (.ref p1) := fx_e1 elv17 hlv_1 (by decide) (Or.inl (by decide))
          have hlv17_2 : aj_lv lv17 2 = some (.int p2) := fx_e1 elv17 hlv_2 (by decide) (Or.inl (by decide))
          have hlv17_3 : aj_lv lv17 3 = some (.ref p3) := fx_e1 elv17 hlv_3 (by decide) (Or.inl (by decide))
          have hlv17_4 : aj_lv lv17 4 = some (.int p4) := fx_e1 elv17 hlv_4 (by decide) (Or.inl (by decide))
          have hlv17_5 : aj_lv lv17 5 = some (.int p5) := fx_e1 elv17 hlv_5 (by decide) (Or.inl (by decide))
          have hlv17_6 : aj_lv lv17 6 = some (.int y6) := fx_e1 elv17 hlv_6 (by decide) (Or.inl (by decide))
          have hlv17_7 : aj_lv lv17 7 = some (.int y7) := fx_e1 elv17 hlv_7 (by decide) (Or.inr rfl)
          have hlv17_8 : aj_lv lv17 8 = some (.int x16) := by rw [elv17]; exact ak_set1_eq _ _ _
          show fx_W _ _ _ 79 lv17 [] _ _
          refine fx_n (pc' := 20) (lv' := lv17) (st' := []) aj_d118 rfl (Nat.le_succ _) (fun _ => rfl) ?_
          exact (ih.1) lv17 (y6) (y7) (x16) X  hlv17_0 hlv17_1 hlv17_2 hlv17_3 hlv17_4 hlv17_5 hlv17_6 hlv17_7 hlv17_8
        · skip
          refine fx_qe (c := (((p5 >>> (((Int32.ofInt 3) * y8) &&& 31)) &&& ((Int8.ofInt 7).toInt32))).toInt < ((X.1 p1 3)).toInt) (fx_f_lt q15) ?_
          show fx_W _ _ _ 46 lv [] _ _
          refine fx_i2 aj_d118 rfl (Nat.le_succ _) (fun _ => rfl) hlv_0 ?_
          refine fx_gR aj_d118 rfl (Nat.le_succ _) rfl rfl (Or.inl ⟨_, rfl⟩) (fun _ z => absurd (by decide) z) (fun b19 q18 => ?_)
          show fx_W _ _ _ 50 lv [.ref b19] _ _
          refine fx_qs q18 ?_
          refine fx_i0 aj_d118 rfl (Nat.le_succ _) (fun _ => rfl) hlv_6 ?_
          refine fx_i0 aj_d118 rfl (Nat.le_succ _) (fun _ => rfl) hlv_7 ?_
          refine fx_i2 aj_d118 rfl (Nat.le_succ _) (fun _ => rfl) hlv_3 ?_
          refine fx_i0 aj_d118 rfl (Nat.le_succ _) (fun _ => rfl) hlv_4 ?_
          refine fx_i0 aj_d118 rfl (Nat.le_succ _) (fun _ => rfl) hlv_8 ?_
          refine fx_cv aj_d118 rfl (Nat.le_succ _) rfl [_, _] rfl rfl (gx_103_ok p3 p4 y8) ?_
          rintro _ X20 ⟨w21, rfl, hR20⟩ hok20 hle20
          refine fx_qc hR20 ?_
          show fx_W _ _ _ 62 lv [.int w21, .int y7, .int y6, .ref b19] _ _
          refine fx_i2 aj_d118 rfl (Nat.le_succ _) (fun _ => rfl) hlv_3 ?_
          refine fx_i0 aj_d118 rfl (Nat.le_succ _) (fun _ => rfl) hlv_4 ?_
          refine fx_i0 aj_d118 rfl (Nat.le_succ _) (fun _ => rfl) hlv_8 ?_
          refine fx_cv aj_d118 rfl (Nat.le_succ _) rfl [_, _] rfl rfl (gx_104_ok p3 p4 y8) ?_
          rintro _ X22 ⟨w23, rfl, hR22⟩ hok22 hle22
          refine fx_qc hR22 ?_
          show fx_W _ _ _ 70 lv [.int w23, .int w21, .int y7, .int y6, .ref b19] _ _
          refine fx_cv aj_d118 rfl (Nat.le_succ _) rfl [_, _, _, _] rfl rfl (gx_105_ok b19 y6 y7 w21 w23) ?_
          rintro _ X24 ⟨w25, rfl, hR24⟩ hok24 hle24
          refine fx_qc hR24 ?_
          show fx_W _ _ _ 73 lv [] _ _
          refine fx_incq aj_d118 rfl (Nat.le_succ _) hlv_7 (by decide) (fun x26 ex26 => ?_)
          obtain ⟨lv27, elv27⟩ : ∃ l, l = aj_set1 lv 7 (.int x26) := ⟨_, rfl⟩
          rw [← elv27]
          have hlv27_0 : aj_lv lv27 0 = some (.ref 95) := fx_e1 elv27 hlv_0 (by decide) (Or.inl (by decide))
          have hlv27_1 : aj_lv lv27 1 = some (.ref p1) := fx_e1 elv27 hlv_1 (by decide) (Or.inl (by decide))
          have hlv27_2 : aj_lv lv27 2 = some (.int p2) := fx_e1 elv27 hlv_2 (by decide) (Or.inl (by decide))
          have hlv27_3 : aj_lv lv27 3 = some (.ref p3) := fx_e1 elv27 hlv_3 (by decide) (Or.inl (by decide))
          have hlv27_4 : aj_lv lv27 4 = some (.int p4) := fx_e1 elv27 hlv_4 (by decide) (Or.inl (by decide))
          have hlv27_5 : aj_lv lv27 5 = some (.int p5) := fx_e1 elv27 hlv_5 (by decide) (Or.inl (by decide))
          have hlv27_6 : aj_lv lv27 6 = some (.int y6) := fx_e1 elv27 hlv_6 (by decide) (Or.inr rfl)
          have hlv27_8 : aj_lv lv27 8 = some (.int y8) := fx_e1 elv27 hlv_8 (by decide) (Or.inl (by decide))
          have hlv27_7 : aj_lv lv27 7 = some (.int x26) := by rw [elv27]; exact ak_set1_eq _ _ _
          show fx_W _ _ _ 76 lv27 [] _ _
          refine fx_incq aj_d118 rfl (Nat.le_succ _) hlv27_8 (by decide) (fun x28 ex28 => ?_)
          obtain ⟨lv29, elv29⟩ : ∃ l, l = aj_set1 lv27 8 (.int x28) := ⟨_, rfl⟩
          rw [← elv29]
          have hlv29_0 : aj_lv lv29 0 = some (.ref 95) := fx_e1 elv29 hlv27_0 (by decide) (Or.inl (by decide))
          have hlv29_1 : aj_lv lv29 1 = some (.ref p1) := fx_e1 elv29 hlv27_1 (by decide) (Or.inl (by decide))
          have hlv29_2 : aj_lv lv29 2 = some (.int p2) := fx_e1 elv29 hlv27_2 (by decide) (Or.inl (by decide))
          have hlv29_3 : aj_lv lv29 3 = some (.ref p3) := fx_e1 elv29 hlv27_3 (by decide) (Or.inl (by decide))
          have hlv29_4 : aj_lv lv29 4 = some (.int p4) := fx_e1 elv29 hlv27_4 (by decide) (Or.inl (by decide))
          have hlv29_5 : aj_lv lv29 5 = some (.int p5) := fx_e1 elv29 hlv27_5 (by decide) (Or.inl (by decide))
          have hlv29_6 : aj_lv lv29 6 = some (.int y6) := fx_e1 elv29 hlv27_6 (by decide) (Or.inl (by decide))
          have hlv29_7 : aj_lv lv29 7 = some (.int x26) := fx_e1 elv29 hlv27_7 (by decide) (Or.inr rfl)
          have hlv29_8 : aj_lv lv29 8 = some (.int x28) := by rw [elv29]; exact ak_set1_eq _ _ _
          show fx_W _ _ _ 79 lv29 [] _ _
          refine fx_n (pc' := 20) (lv' := lv29) (st' := []) aj_d118 rfl (Nat.le_succ _) (fun _ => rfl) ?_
          exact (ih.1) lv29 (y6) (x26) (x28) X24  hlv29_0 hlv29_1 hlv29_2 hlv29_3 hlv29_4 hlv29_5 hlv29_6 hlv29_7 hlv29_8
    · intro lv y6 y8 X hlv_0 hlv_1 hlv_2 hlv_3 hlv_4 hlv_5 hlv_6 hlv_8
      refine fx_mono (Q := fx_Q fx_qN (fun v X' => ∃ n : Nat, gxT_118_99 p1 p2 p3 p4 p5 (gxF_118 p1 p2 p3 p4 p5 n) y6 y8 X v X')) (fun r X' ⟨v, e, n, z⟩ => ⟨v, e, n + 1, gxI_118_99 z⟩) ?_
      unfold gxT_118_99
      refine fx_i0 aj_d118 rfl (Nat.le_refl _) (fun _ => rfl) hlv_8 ?_
      refine fx_i2 aj_d118 rfl (Nat.le_succ _) (fun _ => rfl) hlv_0 ?_
      refine fx_gR aj_d118 rfl (Nat.le_succ _) rfl rfl (Or.inl ⟨_, rfl⟩) (fun q30 _ => ?_) (fun b31 q30 => ?_)
      · skip
        show fx_W _ _ _ 105 lv [.null, .int y8] _ _
        exact fx_d aj_d118 rfl (fun _ => rfl)
      · skip
        refine fx_qs q30 ?_
        show fx_W _ _ _ 105 lv [.ref b31, .int y8] _ _
        refine fx_gI aj_d118 rfl (Nat.le_succ _) rfl rfl (Or.inl rfl) ?_
        refine fx_b (tgt := 147) aj_d118 rfl (Nat.le_succ _) rfl (fun q32 => ?_) (fun q32 => ?_)
        · skip
          refine fx_qe (c := (y8).toInt < ((X.1 b31 13)).toInt) (fx_t_ge q32) ?_
          show fx_W _ _ _ 147 lv [] _ _
          exact fx_rn aj_d118 rfl ⟨(), rfl, 0, rfl⟩
        · skip
          refine fx_qi (c := (y8).toInt < ((X.1 b31 13)).toInt) (fx_f_ge q32) ?_
          show fx_W _ _ _ 111 lv [] _ _
          refine fx_i2 aj_d118 rfl (Nat.le_succ _) (fun _ => rfl) hlv_1 ?_
          refine fx_i2 aj_d118 rfl (Nat.le_succ _) (fun _ => rfl) hlv_0 ?_
          refine fx_gR aj_d118 rfl (Nat.le_succ _) rfl rfl (Or.inl ⟨_, rfl⟩) (fun q33 _ => ?_) (fun b34 q33 => ?_)
          · exact absurd (q33.symm.trans q30) (by simp)
          · skip
            obtain rfl : b31 = b34 := Option.some.inj (q30.symm.trans q33)
            show fx_W _ _ _ 116 lv [.ref b31, .ref p1] _ _
            refine fx_i0 aj_d118 rfl (Nat.le_succ _) (fun _ => rfl) hlv_2 ?_
            refine fx_i2 aj_d118 rfl (Nat.le_succ _) (fun _ => rfl) hlv_3 ?_
            refine fx_i0 aj_d118 rfl (Nat.le_succ _) (fun _ => rfl) hlv_4 ?_
            refine fx_i0 aj_d118 rfl (Nat.le_succ _) (fun _ => rfl) hlv_5 ?_
            refine fx_i0 aj_d118 rfl (Nat.le_succ _) (fun _ => rfl) hlv_8 ?_
            refine fx_cv aj_d118 rfl (Nat.le_succ _) rfl [_, _, _, _, _, _] rfl rfl (gx_113_ok p1 b31 p2 p3 p4 p5 y8) ?_
            rintro _ X35 ⟨w36, rfl, hR35⟩ hok35 hle35
            refine fx_qc hR35 ?_
            show fx_W _ _ _ 127 lv [.int w36] _ _
            refine fx_b0 (tgt := 141) aj_d118 rfl (Nat.le_succ _) rfl (fun q37 => ?_) (fun q37 => ?_)
            · skip
              refine fx_qi (c := (w36).toInt = 0) (fx_t_eq q37) ?_
              show fx_W _ _ _ 141 lv [] _ _
              refine fx_incq aj_d118 rfl (Nat.le_succ _) hlv_8 (by decide) (fun x38 ex38 => ?_)
              obtain ⟨lv39, elv39⟩ : ∃ l, l = aj_set1 lv 8 (.int x38) := ⟨_, rfl⟩
              rw [← elv39]
              have hlv39_0 : aj_lv lv39 0 = some (.ref 95) := fx_e1 elv39 hlv_0 (by decide) (Or.inl (by decide))
              have hlv39_1 : aj_lv lv39 1 = some (.ref p1) := fx_e1 elv39 hlv_1 (by decide) (Or.inl (by decide))
              have hlv39_2 : aj_lv lv39 2 = some (.int p2) := fx_e1 elv39 hlv_2 (by decide) (Or.inl (by decide))
              have hlv39_3 : aj_lv lv39 3 = some (.ref p3) := fx_e1 elv39 hlv_3 (by decide) (Or.inl (by decide))
              have hlv39_4 : aj_lv lv39 4 = some (.int p4) := fx_e1 elv39 hlv_4 (by decide) (Or.inl (by decide))
              have hlv39_5 : aj_lv lv39 5 = some (.int p5) := fx_e1 elv39 hlv_5 (by decide) (Or.inl (by decide))
              have hlv39_6 : aj_lv lv39 6 = some (.int y6) := fx_e1 elv39 hlv_6 (by decide) (Or.inl (by decide))
              have hlv39_8 : aj_lv lv39 8 = some (.int x38) := by rw [elv39]; exact ak_set1_eq _ _ _
              show fx_W _ _ _ 144 lv39 [] _ _
              refine fx_n (pc' := 99) (lv' := lv39) (st' := []) aj_d118 rfl (Nat.le_succ _) (fun _ => rfl) ?_
              exact (ih.2) lv39 (y6) (x38) X35  hlv39_0 hlv39_1 hlv39_2 hlv39_3 hlv39_4 hlv39_5 hlv39_6 hlv39_8
            · skip
              refine fx_qe (c := (w36).toInt = 0) (fx_f_eq q37) ?_
              show fx_W _ _ _ 130 lv [] _ _
              refine fx_i2 aj_d118 rfl (Nat.le_succ _) (fun _ => rfl) hlv_0 ?_
              refine fx_gR aj_d118 rfl (Nat.le_succ _) rfl rfl (Or.inl ⟨_, rfl⟩) (fun _ z => absurd (by decide) z) (fun b41 q40 => ?_)
              show fx_W _ _ _ 134 lv [.ref b41] _ _
              refine fx_qs q40 ?_
              refine fx_i0 aj_d118 rfl (Nat.le_succ _) (fun _ => rfl) hlv_6 ?_
              refine fx_i0 aj_d118 rfl (Nat.le_succ _) (fun _ => rfl) hlv_8 ?_
              refine fx_cv aj_d118 rfl (Nat.le_succ _) rfl [_, _] rfl rfl (gx_109_ok b41 y6 y8) ?_
              rintro _ X42 ⟨w43, rfl, hR42⟩ hok42 hle42
              refine fx_qc hR42 ?_
              show fx_W _ _ _ 141 lv [] _ _
              refine fx_incq aj_d118 rfl (Nat.le_succ _) hlv_8 (by decide) (fun x44 ex44 => ?_)
              obtain ⟨lv45, elv45⟩ : ∃ l, l = aj_set1 lv 8 (.int x44) := ⟨_, rfl⟩
              rw [← elv45]
              have hlv45_0 : aj_lv lv45 0 = some (.ref 95) := fx_e1 elv45 hlv_0 (by decide) (Or.inl (by decide))
              have hlv45_1 : aj_lv lv45 1 = some (.ref p1) := fx_e1 elv45 hlv_1 (by decide) (Or.inl (by decide))
              have hlv45_2 : aj_lv lv45 2 = some (.int p2) := fx_e1 elv45 hlv_2 (by decide) (Or.inl (by decide))
              have hlv45_3 : aj_lv lv45 3 = some (.ref p3) := fx_e1 elv45 hlv_3 (by decide) (Or.inl (by decide))
              have hlv45_4 : aj_lv lv45 4 = some (.int p4) := fx_e1 elv45 hlv_4 (by decide) (Or.inl (by decide))
              have hlv45_5 : aj_lv lv45 5 = some (.int p5) := fx_e1 elv45 hlv_5 (by decide) (Or.inl (by decide))
              have hlv45_6 : aj_lv lv45 6 = some (.int y6) := fx_e1 elv45 hlv_6 (by decide) (Or.inl (by decide))
              have hlv45_8 : aj_lv lv45 8 = some (.int x44) := by rw [elv45]; exact ak_set1_eq _ _ _
              show fx_W _ _ _ 144 lv45 [] _ _
              refine fx_n (pc' := 99) (lv' := lv45) (st' := []) aj_d118 rfl (Nat.le_succ _) (fun _ => rfl) ?_
              exact (ih.2) lv45 (y6) (x44) X42  hlv45_0 hlv45_1 hlv45_2 hlv45_3 hlv45_4 hlv45_5 hlv45_6 hlv45_8
theorem gx_118_ok {tb : aj_T} (p1 : Nat) (p2 : Int32) (p3 : Nat) (p4 : Int32) (p5 : Int32) {X : fx_X} : fx_K tb 118 [.ref 95, .ref p1, .int p2, .ref p3, .int p4, .int p5] X (fx_Q fx_qN (fun v X' => gx_118 p1 p2 p3 p4 p5 X v X')) := by
  refine fx_m aj_m118_at rfl (fun N => ?_)
  refine fx_mono (Q := fx_Q fx_qN (fun v X' => ∃ n : Nat, gxE_118 p1 p2 p3 p4 p5 (gxF_118 p1 p2 p3 p4 p5 n) X v X')) (fun r X' h => h) ?_
  unfold gxE_118
  show fx_W _ _ _ 0 [(0, .ref 95), (1, .ref p1), (2, .int p2), (3, .ref p3), (4, .int p4), (5, .int p5)] [] _ _
  obtain ⟨lv1, elv1⟩ : ∃ l : aj_V, l = [(0, .ref 95), (1, .ref p1), (2, .int p2), (3, .ref p3), (4, .int p4), (5, .int p5)] := ⟨_, rfl⟩
  rw [← elv1]
  have hlv1_0 : aj_lv lv1 0 = some (.ref 95) := by rw [elv1]; rfl
  have hlv1_1 : aj_lv lv1 1 = some (.ref p1) := by rw [elv1]; rfl
  have hlv1_2 : aj_lv lv1 2 = some (.int p2) := by rw [elv1]; rfl
  have hlv1_3 : aj_lv lv1 3 = some (.ref p3) := by rw [elv1]; rfl
  have hlv1_4 : aj_lv lv1 4 = some (.int p4) := by rw [elv1]; rfl
  have hlv1_5 : aj_lv lv1 5 = some (.int p5) := by rw [elv1]; rfl
  refine fx_i2 aj_d118 rfl (Nat.le_succ _) (fun _ => rfl) hlv1_0 ?_
  refine fx_gR aj_d118 rfl (Nat.le_succ _) rfl rfl (Or.inl ⟨_, rfl⟩) (fun _ z => absurd (by decide) z) (fun b3 q2 => ?_)
  show fx_W _ _ _ 4 lv1 [.ref b3] _ _
  refine fx_qs q2 ?_
  refine fx_i2 aj_d118 rfl (Nat.le_succ _) (fun _ => rfl) hlv1_1 ?_
  refine fx_i0 aj_d118 rfl (Nat.le_succ _) (fun _ => rfl) hlv1_2 ?_
  refine fx_cv aj_d118 rfl (Nat.le_succ _) rfl [_, _] rfl rfl (gx_102_ok b3 p1 p2) ?_
  rintro _ X4 ⟨w5, rfl, hR4⟩ hok4 hle4
  refine fx_qc hR4 ?_
  show fx_W _ _ _ 9 lv1 [.int w5] _ _
  refine fx_s0 (j := 6) aj_d118 rfl (Nat.le_succ _) (by decide) (fun _ => rfl) ?_
  obtain ⟨lv6, elv6⟩ : ∃ l, l = aj_set1 lv1 6 (.int w5) := ⟨_, rfl⟩
  rw [← elv6]
  have hlv6_0 : aj_lv lv6 0 = some (.ref 95) := fx_e1 elv6 hlv1_0 (by decide) (Or.inl (by decide))
  have hlv6_1 : aj_lv lv6 1 = some (.ref p1) := fx_e1 elv6 hlv1_1 (by decide) (Or.inl (by decide))
  have hlv6_2 : aj_lv lv6 2 = some (.int p2) := fx_e1 elv6 hlv1_2 (by decide) (Or.inl (by decide))
  have hlv6_3 : aj_lv lv6 3 = some (.ref p3) := fx_e1 elv6 hlv1_3 (by decide) (Or.inl (by decide))
  have hlv6_4 : aj_lv lv6 4 = some (.int p4) := fx_e1 elv6 hlv1_4 (by decide) (Or.inl (by decide))
  have hlv6_5 : aj_lv lv6 5 = some (.int p5) := fx_e1 elv6 hlv1_5 (by decide) (Or.inr rfl)
  have hlv6_6 : aj_lv lv6 6 = some (.int w5) := by rw [elv6]; exact ak_set1_eq _ _ _
  show fx_W _ _ _ 11 lv6 [] _ _
  refine fx_i2 aj_d118 rfl (Nat.le_succ _) (fun _ => rfl) hlv6_1 ?_
  refine fx_gI aj_d118 rfl (Nat.le_succ _) rfl rfl (Or.inl rfl) ?_
  refine fx_qxI (fun x7 ex7 => ?_)
  refine fx_s0 (j := 7) aj_d118 rfl (Nat.le_succ _) (by decide) (fun _ => rfl) ?_
  obtain ⟨lv8, elv8⟩ : ∃ l, l = aj_set1 lv6 7 (.int x7) := ⟨_, rfl⟩
  rw [← elv8]
  have hlv8_0 : aj_lv lv8 0 = some (.ref 95) := fx_e1 elv8 hlv6_0 (by decide) (Or.inl (by decide))
  have hlv8_1 : aj_lv lv8 1 = some (.ref p1) := fx_e1 elv8 hlv6_1 (by decide) (Or.inl (by decide))
  have hlv8_2 : aj_lv lv8 2 = some (.int p2) := fx_e1 elv8 hlv6_2 (by decide) (Or.inl (by decide))
  have hlv8_3 : aj_lv lv8 3 = some (.ref p3) := fx_e1 elv8 hlv6_3 (by decide) (Or.inl (by decide))
  have hlv8_4 : aj_lv lv8 4 = some (.int p4) := fx_e1 elv8 hlv6_4 (by decide) (Or.inl (by decide))
  have hlv8_5 : aj_lv lv8 5 = some (.int p5) := fx_e1 elv8 hlv6_5 (by decide) (Or.inl (by decide))
  have hlv8_6 : aj_lv lv8 6 = some (.int w5) := fx_e1 elv8 hlv6_6 (by decide) (Or.inr rfl)
  have hlv8_7 : aj_lv lv8 7 = some (.int x7) := by rw [elv8]; exact ak_set1_eq _ _ _
  show fx_W _ _ _ 17 lv8 [] _ _
  refine fx_n (pc' := 18) (lv' := lv8) (st' := [.int (Int32.ofInt 0)]) aj_d118 rfl (Nat.le_succ _) (fun _ => rfl) ?_
  refine fx_s0 (j := 8) aj_d118 rfl (Nat.le_succ _) (by decide) (fun _ => rfl) ?_
  obtain ⟨lv9, elv9⟩ : ∃ l, l = aj_set1 lv8 8 (.int (Int32.ofInt 0)) := ⟨_, rfl⟩
  rw [← elv9]
  have hlv9_0 : aj_lv lv9 0 = some (.ref 95) := fx_e1 elv9 hlv8_0 (by decide) (Or.inl (by decide))
  have hlv9_1 : aj_lv lv9 1 = some (.ref p1) := fx_e1 elv9 hlv8_1 (by decide) (Or.inl (by decide))
  have hlv9_2 : aj_lv lv9 2 = some (.int p2) := fx_e1 elv9 hlv8_2 (by decide) (Or.inl (by decide))
  have hlv9_3 : aj_lv lv9 3 = some (.ref p3) := fx_e1 elv9 hlv8_3 (by decide) (Or.inl (by decide))
  have hlv9_4 : aj_lv lv9 4 = some (.int p4) := fx_e1 elv9 hlv8_4 (by decide) (Or.inl (by decide))
  have hlv9_5 : aj_lv lv9 5 = some (.int p5) := fx_e1 elv9 hlv8_5 (by decide) (Or.inl (by decide))
  have hlv9_6 : aj_lv lv9 6 = some (.int w5) := fx_e1 elv9 hlv8_6 (by decide) (Or.inl (by decide))
  have hlv9_7 : aj_lv lv9 7 = some (.int x7) := fx_e1 elv9 hlv8_7 (by decide) (Or.inr rfl)
  have hlv9_8 : aj_lv lv9 8 = some (.int (Int32.ofInt 0)) := by rw [elv9]; exact ak_set1_eq _ _ _
  show fx_W _ _ _ 20 lv9 [] _ _
  exact ((gxL_118 p1 p2 p3 p4 p5 N).1) lv9 (w5) (x7) ((Int32.ofInt 0)) X4  hlv9_0 hlv9_1 hlv9_2 hlv9_3 hlv9_4 hlv9_5 hlv9_6 hlv9_7 hlv9_8
def gxT_115_44 (p1 : Nat) (p2 : Nat) (p3 : Int32) (P : Nat → List Int32 → List Int64 → List Nat → fx_X → Unit → fx_X → Prop) (y4 : Int32) (y5 : Int32) (X : fx_X) (v : Unit) (X' : fx_X) : Prop :=
  (if (y5).toInt < ((X.1 p1 4)).toInt then (P 56 [y4, y5, (Int32.ofInt 0)] [] [] X v X') else (∃ b16 : Nat, X.2.2.1 95 5 = some b16 ∧ ∃ (w18 : Int32) (X17 : fx_X), gx_119 p2 (X.1 p1 3) y4 X w18 X17 ∧ ∃ X19 : fx_X, X19 = (fx_wI X17 b16 3 ((X.1 p1 3) + w18)) ∧ ∃ (w21 : Unit) (X20 : fx_X), gx_120 X19 w21 X20 ∧ X' = X20))
def gxT_115_56 (p1 : Nat) (p2 : Nat) (p3 : Int32) (P : Nat → List Int32 → List Int64 → List Nat → fx_X → Unit → fx_X → Prop) (y4 : Int32) (y5 : Int32) (y6 : Int32) (X : fx_X) (v : Unit) (X' : fx_X) : Prop :=
  (if (y6).toInt < ((X.1 p2 4)).toInt then (∃ (w27 : Unit) (X26 : fx_X), gx_118 p1 y5 p2 y6 y4 X w27 X26 ∧ ∃ x28 : Int32, x28 = y6 + Int32.ofInt 1 ∧ P 56 [y4, y5, x28] [] [] X26 v X') else (∃ x24 : Int32, x24 = y5 + Int32.ofInt 1 ∧ P 44 [y4, x24] [] [] X v X'))
def gxE_115 (p1 : Nat) (p2 : Nat) (p3 : Int32) (P : Nat → List Int32 → List Int64 → List Nat → fx_X → Unit → fx_X → Prop) (X : fx_X) (v : Unit) (X' : fx_X) : Prop :=
  (if 30 < (((X.1 p1 4) * (X.1 p2 4))).toInt then (∃ (w13 : Unit) (X12 : fx_X), gx_107 p3 X w13 X12 ∧ X' = X12) else (∃ (w5 : Int32) (X4 : fx_X), gx_40 p3 X w5 X4 ∧ ∃ b8 : Nat, X4.2.2.1 95 5 = some b8 ∧ ∃ (w10 : Unit) (X9 : fx_X), gx_116 b8 (X4.1 p1 3) X4 w10 X9 ∧ P 44 [w5, (Int32.ofInt 0)] [] [] X9 v X'))
noncomputable def gxF_115 (p1 : Nat) (p2 : Nat) (p3 : Int32) (n : Nat) : Nat → List Int32 → List Int64 → List Nat → fx_X → Unit → fx_X → Prop := Nat.rec (motive := fun _ => Nat → List Int32 → List Int64 → List Nat → fx_X → Unit → fx_X → Prop) (fun _ _ _ _ _ _ _ => False) (fun _ P l is ls rs X v X' => (l = 44 ∧ ∃ (y4 : Int32) (y5 : Int32), is = [y4, y5] ∧ ls = [] ∧ rs = [] ∧ gxT_115_44 p1 p2 p3 P y4 y5 X v X') ∨ (l = 56 ∧ ∃ (y4 : Int32) (y5 : Int32) (y6 : Int32), is = [y4, y5, y6] ∧ ls = [] ∧ rs = [] ∧ gxT_115_56 p1 p2 p3 P y4 y5 y6 X v X')) n
theorem gxI_115_44 {p1 : Nat} {p2 : Nat} {p3 : Int32} {n : Nat} {y4 : Int32} {y5 : Int32} {X : fx_X} {v : Unit} {X' : fx_X} (h : gxT_115_44 p1 p2 p3 (gxF_115 p1 p2 p3 n) y4 y5 X v X') : gxF_115 p1 p2 p3 (n + 1) 44 [y4, y5] [] [] X v X' := Or.inl ⟨rfl, y4, y5, rfl, rfl, rfl, h⟩
theorem gxO_115_44 {p1 : Nat} {p2 : Nat} {p3 : Int32} {n : Nat} {y4 : Int32} {y5 : Int32} {X : fx_X} {v : Unit} {X' : fx_X} (h : gxF_115 p1 p2 p3 (n + 1) 44 [y4, y5] [] [] X v X') : gxT_115_44 p1 p2 p3 (gxF_115 p1 p2 p3 n) y4 y5 X v X' := by
  rcases h with ⟨-, _, _, e1, e2, e3, h⟩ | ⟨e, -⟩
  · cases e1; cases e2; cases e3; exact h
  · exact absurd e (by decide)
theorem gxI_115_56 {p1 : Nat} {p2 : Nat} {p3 : Int32} {n : Nat} {y4 : Int32} {y5 : Int32} {y6 : Int32} {X : fx_X} {v : Unit} {X' : fx_X} (h : gxT_115_56 p1 p2 p3 (gxF_115 p1 p2 p3 n) y4 y5 y6 X v X') : gxF_115 p1 p2 p3 (n + 1) 56 [y4, y5, y6] [] [] X v X' := Or.inr (⟨rfl, y4, y5, y6, rfl, rfl, rfl, h⟩)
theorem gxO_115_56 {p1 : Nat} {p2 : Nat} {p3 : Int32} {n : Nat} {y4 : Int32} {y5 : Int32} {y6 : Int32} {X : fx_X} {v : Unit} {X' : fx_X} (h : gxF_115 p1 p2 p3 (n + 1) 56 [y4, y5, y6] [] [] X v X') : gxT_115_56 p1 p2 p3 (gxF_115 p1 p2 p3 n) y4 y5 y6 X v X' := by
  rcases h with ⟨e, -⟩ | ⟨-, _, _, _, e1, e2, e3, h⟩
  · exact absurd e (by decide)
  · cases e1; cases e2; cases e3; exact h
def gx_115 (p1 : Nat) (p2 : Nat) (p3 : Int32) (X : fx_X) (v : Unit) (X' : fx_X) : Prop := ∃ n : Nat, gxE_115 p1 p2 p3 (gxF_115 p1 p2 p3 n) X v X'
theorem gxL_115 {tb : aj_T} (p1 : Nat) (p2 : Nat) (p3 : Int32) : ∀ N : Nat, (∀ (lv : aj_V) (y4 : Int32) (y5 : Int32) (X : fx_X), aj_lv lv 0 = some (.ref 95) → aj_lv lv 1 = some (.ref p1) → aj_lv lv 2 = some (.ref p2) → aj_lv lv 4 = some (.int y4) → aj_lv lv 5 = some (.int y5) → fx_W tb aj_m115 N 44 lv [] X (fx_Q fx_qN (fun v X' => ∃ n : Nat, gxF_115 p1 p2 p3 n 44 [y4, y5] [] [] X v X'))) ∧ (∀ (lv : aj_V) (y4 : Int32) (y5 : Int32) (y6 : Int32) (X : fx_X), aj_lv lv 0 = some (.ref 95) → aj_lv lv 1 = some (.ref p1) → aj_lv lv 2 = some (.ref p2) → aj_lv lv 4 = some (.int y4) → aj_lv lv 5 = some (.int y5) → aj_lv lv 6 = some (.int y6) → fx_W tb aj_m115 N 56 lv [] X (fx_Q fx_qN (fun v X' => ∃ n : Nat, gxF_115 p1 p2 p3 n 56 [y4, y5, y6] [] [] X v X'))) := by
  intro N
  induction N with
  | zero => exact ⟨(by intros; exact fx_z), (by intros; exact fx_z)⟩
  | succ N ih =>
    refine ⟨?_, ?_⟩
    · intro lv y4 y5 X hlv_0 hlv_1 hlv_2 hlv_4 hlv_5
      refine fx_mono (Q := fx_Q fx_qN (fun v X' => ∃ n : Nat, gxT_115_44 p1 p2 p3 (gxF_115 p1 p2 p3 n) y4 y5 X v X')) (fun r X' ⟨v, e, n, z⟩ => ⟨v, e, n + 1, gxI_115_44 z⟩) ?_
      unfold gxT_115_44
      refine fx_i0 aj_d115 rfl (Nat.le_refl _) (fun _ => rfl) hlv_5 ?_
      refine fx_i2 aj_d115 rfl (Nat.le_succ _) (fun _ => rfl) hlv_1 ?_
      refine fx_gI aj_d115 rfl (Nat.le_succ _) rfl rfl (Or.inl rfl) ?_
      refine fx_b (tgt := 89) aj_d115 rfl (Nat.le_succ _) rfl (fun q14 => ?_) (fun q14 => ?_)
      · skip
        refine fx_qe (c := (y5).toInt < ((X.1 p1 4)).toInt) (fx_t_ge q14) ?_
        show fx_W _ _ _ 89 lv [] _ _
        refine fx_i2 aj_d115 rfl (Nat.le_succ _) (fun _ => rfl) hlv_0 ?_
        refine fx_gR aj_d115 rfl (Nat.le_succ _) rfl rfl (Or.inl ⟨_, rfl⟩) (fun _ z => absurd (by decide) z) (fun b16 q15 => ?_)
        show fx_W _ _ _ 93 lv [.ref b16] _ _
        refine fx_qs q15 ?_
        refine fx_i2 aj_d115 rfl (Nat.le_succ _) (fun _ => rfl) hlv_1 ?_
        refine fx_gI aj_d115 rfl (Nat.le_succ _) rfl rfl (Or.inl rfl) ?_
        refine fx_i2 aj_d115 rfl (Nat.le_succ _) (fun _ => rfl) hlv_2 ?_
        refine fx_i2 aj_d115 rfl (Nat.le_succ _) (fun _ => rfl) hlv_1 ?_
        refine fx_gI aj_d115 rfl (Nat.le_succ _) rfl rfl (Or.inl rfl) ?_
        refine fx_i0 aj_d115 rfl (Nat.le_succ _) (fun _ => rfl) hlv_4 ?_
        refine fx_cv aj_d115 rfl (Nat.le_succ _) rfl [_, _] rfl rfl (gx_119_ok p2 (X.1 p1 3) y4) ?_
        rintro _ X17 ⟨w18, rfl, hR17⟩ hok17 hle17
        refine fx_qc hR17 ?_
        show fx_W _ _ _ 107 lv [.int w18, .int (X.1 p1 3), .ref b16] _ _
        refine fx_n (pc' := 108) (lv' := lv) (st' := [.int ((X.1 p1 3) + w18), .ref b16]) aj_d115 rfl (Nat.le_succ _) (fun _ => rfl) ?_
        refine fx_pI aj_d115 rfl (Nat.le_succ _) rfl rfl (Or.inl rfl) fx_no_6_3 (by decide) ?_
        refine fx_qX (fun X19 eX19 => ?_)
        show fx_W _ _ _ 111 lv [] _ _
        refine fx_i2 aj_d115 rfl (Nat.le_succ _) (fun _ => rfl) hlv_0 ?_
        refine fx_cv aj_d115 rfl (Nat.le_succ _) rfl [] rfl rfl (gx_120_ok) ?_
        rintro _ X20 ⟨w21, rfl, hR20⟩ hok20 hle20
        refine fx_qc hR20 ?_
        show fx_W _ _ _ 115 lv [] _ _
        exact fx_rn aj_d115 rfl ⟨(), rfl, 0, rfl⟩
      · skip
        refine fx_qi (c := (y5).toInt < ((X.1 p1 4)).toInt) (fx_f_ge q14) ?_
        show fx_W _ _ _ 53 lv [] _ _
        refine fx_n (pc' := 54) (lv' := lv) (st' := [.int (Int32.ofInt 0)]) aj_d115 rfl (Nat.le_succ _) (fun _ => rfl) ?_
        refine fx_s0 (j := 6) aj_d115 rfl (Nat.le_succ _) (by decide) (fun _ => rfl) ?_
        obtain ⟨lv22, elv22⟩ : ∃ l, l = aj_set1 lv 6 (.int (Int32.ofInt 0)) := ⟨_, rfl⟩
        rw [← elv22]
        have hlv22_0 : aj_lv lv22 0 = some (.ref 95) := fx_e1 elv22 hlv_0 (by decide) (Or.inl (by decide))
        have hlv22_1 : aj_lv lv22 1 = some (.ref p1) := fx_e1 elv22 hlv_1 (by decide) (Or.inl (by decide))
        have hlv22_2 : aj_lv lv22 2 = some (.ref p2) := fx_e1 elv22 hlv_2 (by decide) (Or.inl (by decide))
        have hlv22_4 : aj_lv lv22 4 = some (.int y4) := fx_e1 elv22 hlv_4 (by decide) (Or.inl (by decide))
        have hlv22_5 : aj_lv lv22 5 = some (.int y5) := fx_e1 elv22 hlv_5 (by decide) (Or.inr rfl)
        have hlv22_6 : aj_lv lv22 6 = some (.int (Int32.ofInt 0)) := by rw [elv22]; exact ak_set1_eq _ _ _
        show fx_W _ _ _ 56 lv22 [] _ _
        exact (ih.2) lv22 (y4) (y5) ((Int32.ofInt 0)) X  hlv22_0 hlv22_1 hlv22_2 hlv22_4 hlv22_5 hlv22_6
    · intro lv y4 y5 y6 X hlv_0 hlv_1 hlv_2 hlv_4 hlv_5 hlv_6
      refine fx_mono (Q := fx_Q fx_qN (fun v X' => ∃ n : Nat, gxT_115_56 p1 p2 p3 (gxF_115 p1 p2 p3 n) y4 y5 y6 X v X')) (fun r X' ⟨v, e, n, z⟩ => ⟨v, e, n + 1, gxI_115_56 z⟩) ?_
      unfold gxT_115_56
      refine fx_i0 aj_d115 rfl (Nat.le_refl _) (fun _ => rfl) hlv_6 ?_
      refine fx_i2 aj_d115 rfl (Nat.le_succ _) (fun _ => rfl) hlv_2 ?_
      refine fx_gI aj_d115 rfl (Nat.le_succ _) rfl rfl (Or.inl rfl) ?_
      refine fx_b (tgt := 83) aj_d115 rfl (Nat.le_succ _) rfl (fun q23 => ?_) (fun q23 => ?_)
      · skip
        refine fx_qe (c := (y6).toInt < ((X.1 p2 4)).toInt) (fx_t_ge q23) ?_
        show fx_W _ _ _ 83 lv [] _ _
        refine fx_incq aj_d115 rfl (Nat.le_succ _) hlv_5 (by decide) (fun x24 ex24 => ?_)
        obtain ⟨lv25, elv25⟩ : ∃ l, l = aj_set1 lv 5 (.int x24) := ⟨_, rfl⟩
        rw [← elv25]
        have hlv25_0 : aj_lv lv25 0 = some (.ref 95) := fx_e1 elv25 hlv_0 (by decide) (Or.inl (by decide))
        have hlv25_1 : aj_lv lv25 1 = some (.ref p1) := fx_e1 elv25 hlv_1 (by decide) (Or.inl (by decide))
        have hlv25_2 : aj_lv lv25 2 = some (.ref p2) := fx_e1 elv25 hlv_2 (by decide) (Or.inl (by decide))
        have hlv25_4 : aj_lv lv25 4 = some (.int y4) := fx_e1 elv25 hlv_4 (by decide) (Or.inr rfl)
        have hlv25_5 : aj_lv lv25 5 = some (.int x24) := by rw [elv25]; exact ak_set1_eq _ _ _
        show fx_W _ _ _ 86 lv25 [] _ _
        refine fx_n (pc' := 44) (lv' := lv25) (st' := []) aj_d115 rfl (Nat.le_succ _) (fun _ => rfl) ?_
        exact (ih.1) lv25 (y4) (x24) X  hlv25_0 hlv25_1 hlv25_2 hlv25_4 hlv25_5
      · skip
        refine fx_qi (c := (y6).toInt < ((X.1 p2 4)).toInt) (fx_f_ge q23) ?_
        show fx_W _ _ _ 65 lv [] _ _
        refine fx_i2 aj_d115 rfl (Nat.le_succ _) (fun _ => rfl) hlv_0 ?_
        refine fx_i2 aj_d115 rfl (Nat.le_succ _) (fun _ => rfl) hlv_1 ?_
        refine fx_i0 aj_d115 rfl (Nat.le_succ _) (fun _ => rfl) hlv_5 ?_
        refine fx_i2 aj_d115 rfl (Nat.le_succ _) (fun _ => rfl) hlv_2 ?_
        refine fx_i0 aj_d115 rfl (Nat.le_succ _) (fun _ => rfl) hlv_6 ?_
        refine fx_i0 aj_d115 rfl (Nat.le_succ _) (fun _ => rfl) hlv_4 ?_
        refine fx_cv aj_d115 rfl (Nat.le_succ _) rfl [_, _, _, _, _] rfl rfl (gx_118_ok p1 y5 p2 y6 y4) ?_
        rintro _ X26 ⟨w27, rfl, hR26⟩ hok26 hle26
        refine fx_qc hR26 ?_
        show fx_W _ _ _ 77 lv [] _ _
        refine fx_incq aj_d115 rfl (Nat.le_succ _) hlv_6 (by decide) (fun x28 ex28 => ?_)
        obtain ⟨lv29, elv29⟩ : ∃ l, l = aj_set1 lv 6 (.int x28) := ⟨_, rfl⟩
        rw [← elv29]
        have hlv29_0 : aj_lv lv29 0 = some (.ref 95) := fx_e1 elv29 hlv_0 (by decide) (Or.inl (by decide))
        have hlv29_1 : aj_lv lv29 1 = some (.ref p1) := fx_e1 elv29 hlv_1 (by decide) (Or.inl (by decide))
        have hlv29_2 : aj_lv lv29 2 = some (.ref p2) := fx_e1 elv29 hlv_2 (by decide) (Or.inl (by decide))
        have hlv29_4 : aj_lv lv29 4 = some (.int y4) := fx_e1 elv29 hlv_4 (by decide) (Or.inl (by decide))
        have hlv29_5 : aj_lv lv29 5 = some (.int y5) := fx_e1 elv29 hlv_5 (by decide) (Or.inr rfl)
        have hlv29_6 : aj_lv lv29 6 = some (.int x28) := by rw [elv29]; exact ak_set1_eq _ _ _
        show fx_W _ _ _ 80 lv29 [] _ _
        refine fx_n (pc' := 56) (lv' := lv29) (st' := []) aj_d115 rfl (Nat.le_succ _) (fun _ => rfl) ?_
        exact (ih.2) lv29 (y4) (y5) (x28) X26  hlv29_0 hlv29_1 hlv29_2 hlv29_4 hlv29_5 hlv29_6
theorem gx_115_ok {tb : aj_T} (p1 : Nat) (p2 : Nat) (p3 : Int32) {X : fx_X} : fx_K tb 115 [.ref 95, .ref p1, .ref p2, .int p3] X (fx_Q fx_qN (fun v X' => gx_115 p1 p2 p3 X v X')) := by
  refine fx_m aj_m115_at rfl (fun N => ?_)
  refine fx_mono (Q := fx_Q fx_qN (fun v X' => ∃ n : Nat, gxE_115 p1 p2 p3 (gxF_115 p1 p2 p3 n) X v X')) (fun r X' h => h) ?_
  unfold gxE_115
  show fx_W _ _ _ 0 [(0, .ref 95), (1, .ref p1), (2, .ref p2), (3, .int p3)] [] _ _
  obtain ⟨lv1, elv1⟩ : ∃ l : aj_V, l = [(0, .ref 95), (1, .ref p1), (2, .ref p2), (3, .int p3)] := ⟨_, rfl⟩
  rw [← elv1]
  have hlv1_0 : aj_lv lv1 0 = some (.ref 95) := by rw [elv1]; rfl
  have hlv1_1 : aj_lv lv1 1 = some (.ref p1) := by rw [elv1]; rfl
  have hlv1_2 : aj_lv lv1 2 = some (.ref p2) := by rw [elv1]; rfl
  have hlv1_3 : aj_lv lv1 3 = some (.int p3) := by rw [elv1]; rfl
  refine fx_i2 aj_d115 rfl (Nat.le_succ _) (fun _ => rfl) hlv1_1 ?_
  refine fx_gI aj_d115 rfl (Nat.le_succ _) rfl rfl (Or.inl rfl) ?_
  refine fx_i2 aj_d115 rfl (Nat.le_succ _) (fun _ => rfl) hlv1_2 ?_
  refine fx_gI aj_d115 rfl (Nat.le_succ _) rfl rfl (Or.inl rfl) ?_
  refine fx_n (pc' := 9) (lv' := lv1) (st' := [.int ((X.1 p1 4) * (X.1 p2 4))]) aj_d115 rfl (Nat.le_succ _) (fun _ => rfl) ?_
  refine fx_n (pc' := 11) (lv' := lv1) (st' := [.int ((Int8.ofInt 30).toInt32), .int ((X.1 p1 4) * (X.1 p2 4))]) aj_d115 rfl (Nat.le_succ _) (fun _ => rfl) ?_
  refine fx_b (tgt := 20) aj_d115 rfl (Nat.le_succ _) rfl (fun q2 => ?_) (fun q2 => ?_)
  · skip
    refine fx_qe (c := 30 < (((X.1 p1 4) * (X.1 p2 4))).toInt) (fx_t_le q2) ?_
    show fx_W _ _ _ 20 lv1 [] _ _
    refine fx_i2 aj_d115 rfl (Nat.le_succ _) (fun _ => rfl) hlv1_0 ?_
    refine fx_gF aj_d115 rfl (Nat.le_succ _) rfl rfl fx_in_9_1 (t := 82) rfl (fun hA3 => ?_)
    refine fx_i0 aj_d115 rfl (Nat.le_succ _) (fun _ => rfl) hlv1_3 ?_
    refine fx_cv aj_d115 rfl (Nat.le_succ _) rfl [_] rfl rfl (gx_40_ok p3) ?_
    rintro _ X4 ⟨w5, rfl, hR4⟩ hok4 hle4
    refine fx_qc hR4 ?_
    show fx_W _ _ _ 28 lv1 [.int w5] _ _
    refine fx_s0 (j := 4) aj_d115 rfl (Nat.le_succ _) (by decide) (fun _ => rfl) ?_
    obtain ⟨lv6, elv6⟩ : ∃ l, l = aj_set1 lv1 4 (.int w5) := ⟨_, rfl⟩
    rw [← elv6]
    have hlv6_0 : aj_lv lv6 0 = some (.ref 95) := fx_e1 elv6 hlv1_0 (by decide) (Or.inl (by decide))
    have hlv6_1 : aj_lv lv6 1 = some (.ref p1) := fx_e1 elv6 hlv1_1 (by decide) (Or.inl (by decide))
    have hlv6_2 : aj_lv lv6 2 = some (.ref p2) := fx_e1 elv6 hlv1_2 (by decide) (Or.inl (by decide))
    have hlv6_4 : aj_lv lv6 4 = some (.int w5) := by rw [elv6]; exact ak_set1_eq _ _ _
    show fx_W _ _ _ 30 lv6 [] _ _
    refine fx_i2 aj_d115 rfl (Nat.le_succ _) (fun _ => rfl) hlv6_0 ?_
    refine fx_gR aj_d115 rfl (Nat.le_succ _) rfl rfl (Or.inl ⟨_, rfl⟩) (fun _ z => absurd (by decide) z) (fun b8 q7 => ?_)
    show fx_W _ _ _ 34 lv6 [.ref b8] _ _
    refine fx_qs q7 ?_
    refine fx_i2 aj_d115 rfl (Nat.le_succ _) (fun _ => rfl) hlv6_1 ?_
    refine fx_gI aj_d115 rfl (Nat.le_succ _) rfl rfl (Or.inl rfl) ?_
    refine fx_cv aj_d115 rfl (Nat.le_succ _) rfl [_] rfl rfl (gx_116_ok b8 (X4.1 p1 3)) ?_
    rintro _ X9 ⟨w10, rfl, hR9⟩ hok9 hle9
    refine fx_qc hR9 ?_
    show fx_W _ _ _ 41 lv6 [] _ _
    refine fx_n (pc' := 42) (lv' := lv6) (st' := [.int (Int32.ofInt 0)]) aj_d115 rfl (Nat.le_succ _) (fun _ => rfl) ?_
    refine fx_s0 (j := 5) aj_d115 rfl (Nat.le_succ _) (by decide) (fun _ => rfl) ?_
    obtain ⟨lv11, elv11⟩ : ∃ l, l = aj_set1 lv6 5 (.int (Int32.ofInt 0)) := ⟨_, rfl⟩
    rw [← elv11]
    have hlv11_0 : aj_lv lv11 0 = some (.ref 95) := fx_e1 elv11 hlv6_0 (by decide) (Or.inl (by decide))
    have hlv11_1 : aj_lv lv11 1 = some (.ref p1) := fx_e1 elv11 hlv6_1 (by decide) (Or.inl (by decide))
    have hlv11_2 : aj_lv lv11 2 = some (.ref p2) := fx_e1 elv11 hlv6_2 (by decide) (Or.inl (by decide))
    have hlv11_4 : aj_lv lv11 4 = some (.int w5) := fx_e1 elv11 hlv6_4 (by decide) (Or.inr rfl)
    have hlv11_5 : aj_lv lv11 5 = some (.int (Int32.ofInt 0)) := by rw [elv11]; exact ak_set1_eq _ _ _
    show fx_W _ _ _ 44 lv11 [] _ _
    exact ((gxL_115 p1 p2 p3 N).1) lv11 (w5) ((Int32.ofInt 0)) X9  hlv11_0 hlv11_1 hlv11_2 hlv11_4 hlv11_5
  · skip
    refine fx_qi (c := 30 < (((X.1 p1 4) * (X.1 p2 4))).toInt) (fx_f_le q2) ?_
    show fx_W _ _ _ 14 lv1 [] _ _
    refine fx_i2 aj_d115 rfl (Nat.le_succ _) (fun _ => rfl) hlv1_0 ?_
    refine fx_i0 aj_d115 rfl (Nat.le_succ _) (fun _ => rfl) hlv1_3 ?_
    refine fx_cv aj_d115 rfl (Nat.le_succ _) rfl [_] rfl rfl (gx_107_ok p3) ?_
    rintro _ X12 ⟨w13, rfl, hR12⟩ hok12 hle12
    refine fx_qc hR12 ?_
    show fx_W _ _ _ 19 lv1 [] _ _
    exact fx_rn aj_d115 rfl ⟨(), rfl, 0, rfl⟩
def gxT_121_2 (p1 : Nat) (P : Nat → List Int32 → List Int64 → List Nat → fx_X → Unit → fx_X → Prop) (y2 : Int32) (X : fx_X) (v : Unit) (X' : fx_X) : Prop :=
  (if (y2).toInt < ((X.1 p1 4)).toInt then (P 12 [y2, (Int32.ofInt 0)] [] [] X v X') else (X' = X))
def gxT_121_12 (p1 : Nat) (P : Nat → List Int32 → List Int64 → List Nat → fx_X → Unit → fx_X → Prop) (y2 : Int32) (y3 : Int32) (X : fx_X) (v : Unit) (X' : fx_X) : Prop :=
  ∃ b6 : Nat, X.2.2.1 95 7 = some b6 ∧ (if (y3).toInt < ((X.1 b6 13)).toInt then (∃ (w11 : Int32) (X10 : fx_X), gx_108 p1 y2 y3 X w11 X10 ∧ (if (w11).toInt = 0 then (∃ x13 : Int32, x13 = y3 + Int32.ofInt 1 ∧ P 12 [y2, x13] [] [] X10 v X') else (∃ (w16 : Int32) (X15 : fx_X), gx_122 p1 y2 y3 X10 w16 X15 ∧ (if (w16).toInt = 0 then (∃ (w21 : Unit) (X20 : fx_X), gx_110 p1 y2 y3 X15 w21 X20 ∧ ∃ x22 : Int32, x22 = y3 + Int32.ofInt 1 ∧ P 12 [y2, x22] [] [] X20 v X') else (∃ x18 : Int32, x18 = y3 + Int32.ofInt 1 ∧ P 12 [y2, x18] [] [] X15 v X'))))) else (∃ x8 : Int32, x8 = y2 + Int32.ofInt 1 ∧ P 2 [x8] [] [] X v X'))
def gxE_121 (p1 : Nat) (P : Nat → List Int32 → List Int64 → List Nat → fx_X → Unit → fx_X → Prop) (X : fx_X) (v : Unit) (X' : fx_X) : Prop :=
  P 2 [(Int32.ofInt 0)] [] [] X v X'
noncomputable def gxF_121 (p1 : Nat) (n : Nat) : Nat → List Int32 → List Int64 → List Nat → fx_X → Unit → fx_X → Prop := Nat.rec (motive := fun _ => Nat → List Int32 → List Int64 → List Nat → fx_X → Unit → fx_X → Prop) (fun _ _ _ _ _ _ _ => False) (fun _ P l is ls rs X v X' => (l = 2 ∧ ∃ (y2 : Int32), is = [y2] ∧ ls = [] ∧ rs = [] ∧ gxT_121_2 p1 P y2 X v X') ∨ (l = 12 ∧ ∃ (y2 : Int32) (y3 : Int32), is = [y2, y3] ∧ ls = [] ∧ rs = [] ∧ gxT_121_12 p1 P y2 y3 X v X')) n
theorem gxI_121_2 {p1 : Nat} {n : Nat} {y2 : Int32} {X : fx_X} {v : Unit} {X' : fx_X} (h : gxT_121_2 p1 (gxF_121 p1 n) y2 X v X') : gxF_121 p1 (n + 1) 2 [y2] [] [] X v X' := Or.inl ⟨rfl, y2, rfl, rfl, rfl, h⟩
theorem gxO_121_2 {p1 : Nat} {n : Nat} {y2 : Int32} {X : fx_X} {v : Unit} {X' : fx_X} (h : gxF_121 p1 (n + 1) 2 [y2] [] [] X v X') : gxT_121_2 p1 (gxF_121 p1 n) y2 X v X' := by
  rcases h with ⟨-, _, e1, e2, e3, h⟩ | ⟨e, -⟩
  · cases e1; cases e2; cases e3; exact h
  · exact absurd e (by decide)
theorem gxI_121_12 {p1 : Nat} {n : Nat} {y2 : Int32} {y3 : Int32} {X : fx_X} {v : Unit} {X' : fx_X} (h : gxT_121_12 p1 (gxF_121 p1 n) y2 y3 X v X') : gxF_121 p1 (n + 1) 12 [y2, y3] [] [] X v X' := Or.inr (⟨rfl, y2, y3, rfl, rfl, rfl, h⟩)
theorem gxO_121_12 {p1 : Nat} {n : Nat} {y2 : Int32} {y3 : Int32} {X : fx_X} {v : Unit} {X' : fx_X} (h : gxF_121 p1 (n + 1) 12 [y2, y3] [] [] X v X') : gxT_121_12 p1 (gxF_121 p1 n) y2 y3 X v X' := by
  rcases h with ⟨e, -⟩ | ⟨-, _, _, e1, e2, e3, h⟩
  · exact absurd e (by decide)
  · cases e1; cases e2; cases e3; exact h
def gx_121 (p1 : Nat) (X : fx_X) (v : Unit) (X' : fx_X) : Prop := ∃ n : Nat, gxE_121 p1 (gxF_121 p1 n) X v X'
theorem gxL_121 {tb : aj_T} (p1 : Nat) : ∀ N : Nat, (∀ (lv : aj_V) (y2 : Int32) (X : fx_X), aj_lv lv 0 = some (.ref 95) → aj_lv lv 1 = some (.ref p1) → aj_lv lv 2 = some (.int y2) → fx_W tb aj_m121 N 2 lv [] X (fx_Q fx_qN (fun v X' => ∃ n : Nat, gxF_121 p1 n 2 [y2] [] [] X v X'))) ∧ (∀ (lv : aj_V) (y2 : Int32) (y3 : Int32) (X : fx_X), aj_lv lv 0 = some (.ref 95) → aj_lv lv 1 = some (.ref p1) → aj_lv lv 2 = some (.int y2) → aj_lv lv 3 = some (.int y3) → fx_W tb aj_m121 N 12 lv [] X (fx_Q fx_qN (fun v X' => ∃ n : Nat, gxF_121 p1 n 12 [y2, y3] [] [] X v X'))) := by
  intro N
  induction N with
  | zero => exact ⟨(by intros; exact fx_z), (by intros; exact fx_z)⟩
  | succ N ih =>
    refine ⟨?_, ?_⟩
    · intro lv y2 X hlv_0 hlv_1 hlv_2
      refine fx_mono (Q := fx_Q fx_qN (fun v X' => ∃ n : Nat, gxT_121_2 p1 (gxF_121 p1 n) y2 X v X')) (fun r X' ⟨v, e, n, z⟩ => ⟨v, e, n + 1, gxI_121_2 z⟩) ?_
      unfold gxT_121_2
      refine fx_i0 aj_d121 rfl (Nat.le_refl _) (fun _ => rfl) hlv_2 ?_
      refine fx_i2 aj_d121 rfl (Nat.le_succ _) (fun _ => rfl) hlv_1 ?_
      refine fx_gI aj_d121 rfl (Nat.le_succ _) rfl rfl (Or.inl rfl) ?_
      refine fx_b (tgt := 60) aj_d121 rfl (Nat.le_succ _) rfl (fun q3 => ?_) (fun q3 => ?_)
      · skip
        refine fx_qe (c := (y2).toInt < ((X.1 p1 4)).toInt) (fx_t_ge q3) ?_
        show fx_W _ _ _ 60 lv [] _ _
        exact fx_rn aj_d121 rfl ⟨(), rfl, 0, rfl⟩
      · skip
        refine fx_qi (c := (y2).toInt < ((X.1 p1 4)).toInt) (fx_f_ge q3) ?_
        show fx_W _ _ _ 10 lv [] _ _
        refine fx_n (pc' := 11) (lv' := lv) (st' := [.int (Int32.ofInt 0)]) aj_d121 rfl (Nat.le_succ _) (fun _ => rfl) ?_
        refine fx_s0 (j := 3) aj_d121 rfl (Nat.le_succ _) (by decide) (fun _ => rfl) ?_
        obtain ⟨lv4, elv4⟩ : ∃ l, l = aj_set1 lv 3 (.int (Int32.ofInt 0)) := ⟨_, rfl⟩
        rw [← elv4]
        have hlv4_0 : aj_lv lv4 0 = some (.ref 95) := fx_e1 elv4 hlv_0 (by decide) (Or.inl (by decide))
        have hlv4_1 : aj_lv lv4 1 = some (.ref p1) := fx_e1 elv4 hlv_1 (by decide) (Or.inl (by decide))
        have hlv4_2 : aj_lv lv4 2 = some (.int y2) := fx_e1 elv4 hlv_2 (by decide) (Or.inr rfl)
        have hlv4_3 : aj_lv lv4 3 = some (.int (Int32.ofInt 0)) := by rw [elv4]; exact ak_set1_eq _ _ _
        show fx_W _ _ _ 12 lv4 [] _ _
        exact (ih.2) lv4 (y2) ((Int32.ofInt 0)) X  hlv4_0 hlv4_1 hlv4_2 hlv4_3
    · intro lv y2 y3 X hlv_0 hlv_1 hlv_2 hlv_3
      refine fx_mono (Q := fx_Q fx_qN (fun v X' => ∃ n : Nat, gxT_121_12 p1 (gxF_121 p1 n) y2 y3 X v X')) (fun r X' ⟨v, e, n, z⟩ => ⟨v, e, n + 1, gxI_121_12 z⟩) ?_
      unfold gxT_121_12
      refine fx_i0 aj_d121 rfl (Nat.le_refl _) (fun _ => rfl) hlv_3 ?_
      refine fx_i2 aj_d121 rfl (Nat.le_succ _) (fun _ => rfl) hlv_0 ?_
      refine fx_gR aj_d121 rfl (Nat.le_succ _) rfl rfl (Or.inl ⟨_, rfl⟩) (fun q5 _ => ?_) (fun b6 q5 => ?_)
      · skip
        show fx_W _ _ _ 17 lv [.null, .int y3] _ _
        exact fx_d aj_d121 rfl (fun _ => rfl)
      · skip
        refine fx_qs q5 ?_
        show fx_W _ _ _ 17 lv [.ref b6, .int y3] _ _
        refine fx_gI aj_d121 rfl (Nat.le_succ _) rfl rfl (Or.inl rfl) ?_
        refine fx_b (tgt := 54) aj_d121 rfl (Nat.le_succ _) rfl (fun q7 => ?_) (fun q7 => ?_)
        · skip
          refine fx_qe (c := (y3).toInt < ((X.1 b6 13)).toInt) (fx_t_ge q7) ?_
          show fx_W _ _ _ 54 lv [] _ _
          refine fx_incq aj_d121 rfl (Nat.le_succ _) hlv_2 (by decide) (fun x8 ex8 => ?_)
          obtain ⟨lv9, elv9⟩ : ∃ l, l = aj_set1 lv 2 (.int x8) := ⟨_, rfl⟩
          rw [← elv9]
          have hlv9_0 : aj_lv lv9 0 = some (.ref 95) := fx_e1 elv9 hlv_0 (by decide) (Or.inl (by decide))
          have hlv9_1 : aj_lv lv9 1 = some (.ref p1) := fx_e1 elv9 hlv_1 (by decide) (Or.inr rfl)
          have hlv9_2 : aj_lv lv9 2 = some (.int x8) := by rw [elv9]; exact ak_set1_eq _ _ _
          show fx_W _ _ _ 57 lv9 [] _ _
          refine fx_n (pc' := 2) (lv' := lv9) (st' := []) aj_d121 rfl (Nat.le_succ _) (fun _ => rfl) ?_
          exact (ih.1) lv9 (x8) X  hlv9_0 hlv9_1 hlv9_2
        · skip
          refine fx_qi (c := (y3).toInt < ((X.1 b6 13)).toInt) (fx_f_ge q7) ?_
          show fx_W _ _ _ 23 lv [] _ _
          refine fx_i2 aj_d121 rfl (Nat.le_succ _) (fun _ => rfl) hlv_1 ?_
          refine fx_i0 aj_d121 rfl (Nat.le_succ _) (fun _ => rfl) hlv_2 ?_
          refine fx_i0 aj_d121 rfl (Nat.le_succ _) (fun _ => rfl) hlv_3 ?_
          refine fx_cv aj_d121 rfl (Nat.le_succ _) rfl [_, _] rfl rfl (gx_108_ok p1 y2 y3) ?_
          rintro _ X10 ⟨w11, rfl, hR10⟩ hok10 hle10
          refine fx_qc hR10 ?_
          show fx_W _ _ _ 29 lv [.int w11] _ _
          refine fx_b0 (tgt := 48) aj_d121 rfl (Nat.le_succ _) rfl (fun q12 => ?_) (fun q12 => ?_)
          · skip
            refine fx_qi (c := (w11).toInt = 0) (fx_t_eq q12) ?_
            show fx_W _ _ _ 48 lv [] _ _
            refine fx_incq aj_d121 rfl (Nat.le_succ _) hlv_3 (by decide) (fun x13 ex13 => ?_)
            obtain ⟨lv14, elv14⟩ : ∃ l, l = aj_set1 lv 3 (.int x13) := ⟨_, rfl⟩
            rw [← elv14]
            have hlv14_0 : aj_lv lv14 0 = some (.ref 95) := fx_e1 elv14 hlv_0 (by decide) (Or.inl (by decide))
            have hlv14_1 : aj_lv lv14 1 = some (.ref p1) := fx_e1 elv14 hlv_1 (by decide) (Or.inl (by decide))
            have hlv14_2 : aj_lv lv14 2 = some (.int y2) := fx_e1 elv14 hlv_2 (by decide) (Or.inr rfl)
            have hlv14_3 : aj_lv lv14 3 = some (.int x13) := by rw [elv14]; exact ak_set1_eq _ _ _
            show fx_W _ _ _ 51 lv14 [] _ _
            refine fx_n (pc' := 12) (lv' := lv14) (st' := []) aj_d121 rfl (Nat.le_succ _) (fun _ => rfl) ?_
            exact (ih.2) lv14 (y2) (x13) X10  hlv14_0 hlv14_1 hlv14_2 hlv14_3
          · skip
            refine fx_qe (c := (w11).toInt = 0) (fx_f_eq q12) ?_
            show fx_W _ _ _ 32 lv [] _ _
            refine fx_i2 aj_d121 rfl (Nat.le_succ _) (fun _ => rfl) hlv_0 ?_
            refine fx_i2 aj_d121 rfl (Nat.le_succ _) (fun _ => rfl) hlv_1 ?_
            refine fx_i0 aj_d121 rfl (Nat.le_succ _) (fun _ => rfl) hlv_2 ?_
            refine fx_i0 aj_d121 rfl (Nat.le_succ _) (fun _ => rfl) hlv_3 ?_
            refine fx_cv aj_d121 rfl (Nat.le_succ _) rfl [_, _, _] rfl rfl (gx_122_ok p1 y2 y3) ?_
            rintro _ X15 ⟨w16, rfl, hR15⟩ hok15 hle15
            refine fx_qc hR15 ?_
            show fx_W _ _ _ 39 lv [.int w16] _ _
            refine fx_b0 (tgt := 48) aj_d121 rfl (Nat.le_succ _) rfl (fun q17 => ?_) (fun q17 => ?_)
            · skip
              refine fx_qe (c := (w16).toInt = 0) (fx_t_ne q17) ?_
              show fx_W _ _ _ 48 lv [] _ _
              refine fx_incq aj_d121 rfl (Nat.le_succ _) hlv_3 (by decide) (fun x18 ex18 => ?_)
              obtain ⟨lv19, elv19⟩ : ∃ l, l = aj_set1 lv 3 (.int x18) := ⟨_, rfl⟩
              rw [← elv19]
              have hlv19_0 : aj_lv lv19 0 = some (.ref 95) := fx_e1 elv19 hlv_0 (by decide) (Or.inl (by decide))
              have hlv19_1 : aj_lv lv19 1 = some (.ref p1) := fx_e1 elv19 hlv_1 (by decide) (Or.inl (by decide))
              have hlv19_2 : aj_lv lv19 2 = some (.int y2) := fx_e1 elv19 hlv_2 (by decide) (Or.inr rfl)
              have hlv19_3 : aj_lv lv19 3 = some (.int x18) := by rw [elv19]; exact ak_set1_eq _ _ _
              show fx_W _ _ _ 51 lv19 [] _ _
              refine fx_n (pc' := 12) (lv' := lv19) (st' := []) aj_d121 rfl (Nat.le_succ _) (fun _ => rfl) ?_
              exact (ih.2) lv19 (y2) (x18) X15  hlv19_0 hlv19_1 hlv19_2 hlv19_3
            · skip
              refine fx_qi (c := (w16).toInt = 0) (fx_f_ne q17) ?_
              show fx_W _ _ _ 42 lv [] _ _
              refine fx_i2 aj_d121 rfl (Nat.le_succ _) (fun _ => rfl) hlv_1 ?_
              refine fx_i0 aj_d121 rfl (Nat.le_succ _) (fun _ => rfl) hlv_2 ?_
              refine fx_i0 aj_d121 rfl (Nat.le_succ _) (fun _ => rfl) hlv_3 ?_
              refine fx_cv aj_d121 rfl (Nat.le_succ _) rfl [_, _] rfl rfl (gx_110_ok p1 y2 y3) ?_
              rintro _ X20 ⟨w21, rfl, hR20⟩ hok20 hle20
              refine fx_qc hR20 ?_
              show fx_W _ _ _ 48 lv [] _ _
              refine fx_incq aj_d121 rfl (Nat.le_succ _) hlv_3 (by decide) (fun x22 ex22 => ?_)
              obtain ⟨lv23, elv23⟩ : ∃ l, l = aj_set1 lv 3 (.int x22) := ⟨_, rfl⟩
              rw [← elv23]
              have hlv23_0 : aj_lv lv23 0 = some (.ref 95) := fx_e1 elv23 hlv_0 (by decide) (Or.inl (by decide))
              have hlv23_1 : aj_lv lv23 1 = some (.ref p1) := fx_e1 elv23 hlv_1 (by decide) (Or.inl (by decide))
              have hlv23_2 : aj_lv lv23 2 = some (.int y2) := fx_e1 elv23 hlv_2 (by decide) (Or.inr rfl)
              have hlv23_3 : aj_lv lv23 3 = some (.int x22) := by rw [elv23]; exact ak_set1_eq _ _ _
              show fx_W _ _ _ 51 lv23 [] _ _
              refine fx_n (pc' := 12) (lv' := lv23) (st' := []) aj_d121 rfl (Nat.le_succ _) (fun _ => rfl) ?_
              exact (ih.2) lv23 (y2) (x22) X20  hlv23_0 hlv23_1 hlv23_2 hlv23_3
theorem gx_121_ok {tb : aj_T} (p1 : Nat) {X : fx_X} : fx_K tb 121 [.ref 95, .ref p1] X (fx_Q fx_qN (fun v X' => gx_121 p1 X v X')) := by
  refine fx_m aj_m121_at rfl (fun N => ?_)
  refine fx_mono (Q := fx_Q fx_qN (fun v X' => ∃ n : Nat, gxE_121 p1 (gxF_121 p1 n) X v X')) (fun r X' h => h) ?_
  unfold gxE_121
  show fx_W _ _ _ 0 [(0, .ref 95), (1, .ref p1)] [] _ _
  obtain ⟨lv1, elv1⟩ : ∃ l : aj_V, l = [(0, .ref 95), (1, .ref p1)] := ⟨_, rfl⟩
  rw [← elv1]
  have hlv1_0 : aj_lv lv1 0 = some (.ref 95) := by rw [elv1]; rfl
  have hlv1_1 : aj_lv lv1 1 = some (.ref p1) := by rw [elv1]; rfl
  refine fx_n (pc' := 1) (lv' := lv1) (st' := [.int (Int32.ofInt 0)]) aj_d121 rfl (Nat.le_succ _) (fun _ => rfl) ?_
  refine fx_s0 (j := 2) aj_d121 rfl (Nat.le_succ _) (by decide) (fun _ => rfl) ?_
  obtain ⟨lv2, elv2⟩ : ∃ l, l = aj_set1 lv1 2 (.int (Int32.ofInt 0)) := ⟨_, rfl⟩
  rw [← elv2]
  have hlv2_0 : aj_lv lv2 0 = some (.ref 95) := fx_e1 elv2 hlv1_0 (by decide) (Or.inl (by decide))
  have hlv2_1 : aj_lv lv2 1 = some (.ref p1) := fx_e1 elv2 hlv1_1 (by decide) (Or.inr rfl)
  have hlv2_2 : aj_lv lv2 2 = some (.int (Int32.ofInt 0)) := by rw [elv2]; exact ak_set1_eq _ _ _
  show fx_W _ _ _ 2 lv2 [] _ _
  exact ((gxL_121 p1 N).1) lv2 ((Int32.ofInt 0)) X  hlv2_0 hlv2_1 hlv2_2
def gx_125 (p1 : Int32) (X : fx_X) (v : Unit) (X' : fx_X) : Prop :=
  (if ((X.1 96 1)).toInt < 6 then ((0 ≤ ((X.1 96 1)).toInt ∧ ((X.1 96 1)).toInt < ((6 : Nat) : Int)) ∧ ∃ X6 : fx_X, X6 = (fx_wI X 97 ((X.1 96 1)).toInt.toNat p1) ∧ ∃ X7 : fx_X, X7 = (fx_wI X6 96 1 ((X6.1 96 1) + (Int32.ofInt 1))) ∧ X' = X7) else (X' = X))
theorem gx_125_ok {tb : aj_T} (p1 : Int32) {X : fx_X} : fx_K tb 125 [.ref 96, .int p1] X (fx_Q fx_qN (fun v X' => gx_125 p1 X v X')) := by
  refine fx_m aj_m125_at rfl (fun N => ?_)
  refine fx_mono (Q := fx_Q fx_qN (fun v X' => ∃ n : Nat, gx_125 p1 X v X')) (fun r X' ⟨v, e, _, z⟩ => ⟨v, e, z⟩) ?_
  unfold gx_125
  show fx_W _ _ _ 0 [(0, .ref 96), (1, .int p1)] [] _ _
  obtain ⟨lv1, elv1⟩ : ∃ l : aj_V, l = [(0, .ref 96), (1, .int p1)] := ⟨_, rfl⟩
  rw [← elv1]
  have hlv1_0 : aj_lv lv1 0 = some (.ref 96) := by rw [elv1]; rfl
  have hlv1_1 : aj_lv lv1 1 = some (.int p1) := by rw [elv1]; rfl
  refine fx_i2 aj_d125 rfl (Nat.le_succ _) (fun _ => rfl) hlv1_0 ?_
  refine fx_gI aj_d125 rfl (Nat.le_succ _) rfl rfl (Or.inl rfl) ?_
  refine fx_i2 aj_d125 rfl (Nat.le_succ _) (fun _ => rfl) hlv1_0 ?_
  refine fx_gF aj_d125 rfl (Nat.le_succ _) rfl rfl fx_in_1_0 (t := 97) rfl (fun hA2 => ?_)
  refine fx_al aj_d125 rfl (Nat.le_succ _) ?_
  rw [(hA2 : X.2.2.2.1 97 = (0, 6))]
  show fx_W _ _ _ 9 lv1 [.int (Int32.ofNat 6), .int (X.1 96 1)] _ _
  refine fx_b (tgt := 32) aj_d125 rfl (Nat.le_succ _) rfl (fun q3 => ?_) (fun q3 => ?_)
  · skip
    refine fx_qe (c := ((X.1 96 1)).toInt < 6) (fx_t_ge q3) ?_
    show fx_W _ _ _ 32 lv1 [] _ _
    exact fx_rn aj_d125 rfl ⟨(), rfl, 0, rfl⟩
  · skip
    refine fx_qi (c := ((X.1 96 1)).toInt < 6) (fx_f_ge q3) ?_
    show fx_W _ _ _ 12 lv1 [] _ _
    refine fx_i2 aj_d125 rfl (Nat.le_succ _) (fun _ => rfl) hlv1_0 ?_
    refine fx_gF aj_d125 rfl (Nat.le_succ _) rfl rfl fx_in_1_0 (t := 97) rfl (fun hA4 => ?_)
    refine fx_i2 aj_d125 rfl (Nat.le_succ _) (fun _ => rfl) hlv1_0 ?_
    refine fx_gI aj_d125 rfl (Nat.le_succ _) rfl rfl (Or.inl rfl) ?_
    refine fx_i0 aj_d125 rfl (Nat.le_succ _) (fun _ => rfl) hlv1_1 ?_
    refine fx_st aj_d125 (Or.inl ⟨rfl, rfl⟩) rfl (Nat.le_succ _) (fun g50 g51 => ?_)
    show fx_W _ _ _ _ _ _ (fx_wI X 97 ((X.1 96 1)).toInt.toNat p1) _
    refine fx_qa (c := 0 ≤ ((X.1 96 1)).toInt ∧ ((X.1 96 1)).toInt < ((6 : Nat) : Int)) ⟨g50, fx_lnk g51 hA4⟩ ?_
    refine fx_qX (fun X6 eX6 => ?_)
    show fx_W _ _ _ 22 lv1 [] _ _
    refine fx_i2 aj_d125 rfl (Nat.le_succ _) (fun _ => rfl) hlv1_0 ?_
    refine fx_n (pc' := 24) (lv' := lv1) (st' := [.ref 96, .ref 96]) aj_d125 rfl (Nat.le_succ _) (fun _ => rfl) ?_
    refine fx_gI aj_d125 rfl (Nat.le_succ _) rfl rfl (Or.inl rfl) ?_
    refine fx_n (pc' := 28) (lv' := lv1) (st' := [.int (Int32.ofInt 1), .int (X6.1 96 1), .ref 96]) aj_d125 rfl (Nat.le_succ _) (fun _ => rfl) ?_
    refine fx_n (pc' := 29) (lv' := lv1) (st' := [.int ((X6.1 96 1) + (Int32.ofInt 1)), .ref 96]) aj_d125 rfl (Nat.le_succ _) (fun _ => rfl) ?_
    refine fx_pI aj_d125 rfl (Nat.le_succ _) rfl rfl (Or.inl rfl) fx_no_1_1 (by decide) ?_
    refine fx_qX (fun X7 eX7 => ?_)
    show fx_W _ _ _ 32 lv1 [] _ _
    exact fx_rn aj_d125 rfl ⟨(), rfl, 0, rfl⟩
def gxT_126_2 (p1 : Nat) (P : Nat → List Int32 → List Int64 → List Nat → fx_X → Unit → fx_X → Prop) (y2 : Int32) (X : fx_X) (v : Unit) (X' : fx_X) : Prop :=
  (if (y2).toInt < ((X.1 p1 4)).toInt then (P 12 [y2, (Int32.ofInt 0)] [] [] X v X') else (∃ X4 : fx_X, X4 = (fx_wI X p1 3 (X.1 96 1)) ∧ X' = X4))
def gxT_126_12 (p1 : Nat) (P : Nat → List Int32 → List Int64 → List Nat → fx_X → Unit → fx_X → Prop) (y2 : Int32) (y3 : Int32) (X : fx_X) (v : Unit) (X' : fx_X) : Prop :=
  (if (y3).toInt < ((X.1 96 1)).toInt then ((if (y3).toInt < 6 then ((0 ≤ (y3).toInt ∧ (y3).toInt < ((6 : Nat) : Int)) ∧ ∃ (w15 : Int32) (X14 : fx_X), gx_104 p1 y2 (X.1 97 (y3).toInt.toNat) X w15 X14 ∧ (0 ≤ (y3).toInt ∧ (y3).toInt < ((6 : Nat) : Int)) ∧ ∃ X17 : fx_X, X17 = (fx_wI X14 99 (y3).toInt.toNat w15) ∧ (0 ≤ (y3).toInt ∧ (y3).toInt < ((6 : Nat) : Int)) ∧ ∃ (w22 : Int32) (X21 : fx_X), gx_103 p1 y2 (X17.1 97 (y3).toInt.toNat) X17 w22 X21 ∧ (0 ≤ (y3).toInt ∧ (y3).toInt < ((6 : Nat) : Int)) ∧ ∃ X24 : fx_X, X24 = (fx_wI X21 100 (y3).toInt.toNat (aj_nar 2 w22)) ∧ ∃ x25 : Int32, x25 = y3 + Int32.ofInt 1 ∧ P 12 [y2, x25] [] [] X24 v X') else (P 71 [y2, (Int32.ofInt 0)] [] [] X v X'))) else (P 71 [y2, (Int32.ofInt 0)] [] [] X v X'))
def gxT_126_71 (p1 : Nat) (P : Nat → List Int32 → List Int64 → List Nat → fx_X → Unit → fx_X → Prop) (y2 : Int32) (y3 : Int32) (X : fx_X) (v : Unit) (X' : fx_X) : Prop :=
  (if (y3).toInt < ((X.1 96 1)).toInt then ((if (y3).toInt < 6 then ((0 ≤ (y3).toInt ∧ (y3).toInt < ((6 : Nat) : Int)) ∧ (0 ≤ (y3).toInt ∧ (y3).toInt < ((6 : Nat) : Int)) ∧ ∃ (w39 : Unit) (X38 : fx_X), gx_105 p1 y2 y3 (X.1 100 (y3).toInt.toNat) (X.1 99 (y3).toInt.toNat) X w39 X38 ∧ ∃ x40 : Int32, x40 = y3 + Int32.ofInt 1 ∧ P 71 [y2, x40] [] [] X38 v X') else (∃ x32 : Int32, x32 = y2 + Int32.ofInt 1 ∧ P 2 [x32] [] [] X v X'))) else (∃ x28 : Int32, x28 = y2 + Int32.ofInt 1 ∧ P 2 [x28] [] [] X v X'))
def gxE_126 (p1 : Nat) (P : Nat → List Int32 → List Int64 → List Nat → fx_X → Unit → fx_X → Prop) (X : fx_X) (v : Unit) (X' : fx_X) : Prop :=
  P 2 [(Int32.ofInt 0)] [] [] X v X'
noncomputable def gxF_126 (p1 : Nat) (n : Nat) : Nat → List Int32 → List Int64 → List Nat → fx_X → Unit → fx_X → Prop := Nat.rec (motive := fun _ => Nat → List Int32 → List Int64 → List Nat → fx_X → Unit → fx_X → Prop) (fun _ _ _ _ _ _ _ => False) (fun _ P l is ls rs X v X' => (l = 2 ∧ ∃ (y2 : Int32), is = [y2] ∧ ls = [] ∧ rs = [] ∧ gxT_126_2 p1 P y2 X v X') ∨ (l = 12 ∧ ∃ (y2 : Int32) (y3 : Int32), is = [y2, y3] ∧ ls = [] ∧ rs = [] ∧ gxT_126_12 p1 P y2 y3 X v X') ∨ (l = 71 ∧ ∃ (y2 : Int32) (y3 : Int32), is = [y2, y3] ∧ ls = [] ∧ rs = [] ∧ gxT_126_71 p1 P y2 y3 X v X')) n
theorem gxI_126_2 {p1 : Nat} {n : Nat} {y2 : Int32} {X : fx_X} {v : Unit} {X' : fx_X} (h : gxT_126_2 p1 (gxF_126 p1 n) y2 X v X') : gxF_126 p1 (n + 1) 2 [y2] [] [] X v X' := Or.inl ⟨rfl, y2, rfl, rfl, rfl, h⟩
theorem gxO_126_2 {p1 : Nat} {n : Nat} {y2 : Int32} {X : fx_X} {v : Unit} {X' : fx_X} (h : gxF_126 p1 (n + 1) 2 [y2] [] [] X v X') : gxT_126_2 p1 (gxF_126 p1 n) y2 X v X' := by
  rcases h with ⟨-, _, e1, e2, e3, h⟩ | ⟨e, -⟩ | ⟨e, -⟩
  · cases e1; cases e2; cases e3; exact h
  · exact absurd e (by decide)
  · exact absurd e (by decide)
theorem gxI_126_12 {p1 : Nat} {n : Nat} {y2 : Int32} {y3 : Int32} {X : fx_X} {v : Unit} {X' : fx_X} (h : gxT_126_12 p1 (gxF_126 p1 n) y2 y3 X v X') : gxF_126 p1 (n + 1) 12 [y2, y3] [] [] X v X' := Or.inr (Or.inl ⟨rfl, y2, y3, rfl, rfl, rfl, h⟩)
theorem gxO_126_12 {p1 : Nat} {n : Nat} {y2 : Int32} {y3 : Int32} {X : fx_X} {v : Unit} {X' : fx_X} (h : gxF_126 p1 (n + 1) 12 [y2, y3] [] [] X v X') : gxT_126_12 p1 (gxF_126 p1 n) y2 y3 X v X' := by
  rcases h with ⟨e, -⟩ | ⟨-, _, _, e1, e2, e3, h⟩ | ⟨e, -⟩
  · exact absurd e (by decide)
  · cases e1; cases e2; cases e3; exact h
  · exact absurd e (by decide)
theorem gxI_126_71 {p1 : Nat} {n : Nat} {y2 : Int32} {y3 : Int32} {X : fx_X} {v : Unit} {X' : fx_X} (h : gxT_126_71 p1 (gxF_126 p1 n) y2 y3 X v X') : gxF_126 p1 (n + 1) 71 [y2, y3] [] [] X v X' := Or.inr (Or.inr (⟨rfl, y2, y3, rfl, rfl, rfl, h⟩))
theorem gxO_126_71 {p1 : Nat} {n : Nat} {y2 : Int32} {y3 : Int32} {X : fx_X} {v : Unit} {X' : fx_X} (h : gxF_126 p1 (n + 1) 71 [y2, y3] [] [] X v X') : gxT_126_71 p1 (gxF_126 p1 n) y2 y3 X v X' := by
  rcases h with ⟨e, -⟩ | ⟨e, -⟩ | ⟨-, _, _, e1, e2, e3, h⟩
  · exact absurd e (by decide)
  · exact absurd e (by decide)
  · cases e1; cases e2; cases e3; exact h
def gx_126 (p1 : Nat) (X : fx_X) (v : Unit) (X' : fx_X) : Prop := ∃ n : Nat, gxE_126 p1 (gxF_126 p1 n) X v X'
theorem gxL_126 {tb : aj_T} (p1 : Nat) : ∀ N : Nat, (∀ (lv : aj_V) (y2 : Int32) (X : fx_X), aj_lv lv 0 = some (.ref 96) → aj_lv lv 1 = some (.ref p1) → aj_lv lv 2 = some (.int y2) → fx_W tb aj_m126 N 2 lv [] X (fx_Q fx_qN (fun v X' => ∃ n : Nat, gxF_126 p1 n 2 [y2] [] [] X v X'))) ∧ (∀ (lv : aj_V) (y2 : Int32) (y3 : Int32) (X : fx_X), aj_lv lv 0 = some (.ref 96) → aj_lv lv 1 = some (.ref p1) → aj_lv lv 2 = some (.int y2) → aj_lv lv 3 = some (.int y3) → fx_W tb aj_m126 N 12 lv [] X (fx_Q fx_qN (fun v X' => ∃ n : Nat, gxF_126 p1 n 12 [y2, y3] [] [] X v X'))) ∧ (∀ (lv : aj_V) (y2 : Int32) (y3 : Int32) (X : fx_X), aj_lv lv 0 = some (.ref 96) → aj_lv lv 1 = some (.ref p1) → aj_lv lv 2 = some (.int y2) → aj_lv lv 3 = some (.int y3) → fx_W tb aj_m126 N 71 lv [] X (fx_Q fx_qN (fun v X' => ∃ n : Nat, gxF_126 p1 n 71 [y2, y3] [] [] X v X'))) := by
  intro N
  induction N with
  | zero => exact ⟨(by intros; exact fx_z), (by intros; exact fx_z), (by intros; exact fx_z)⟩
  | succ N ih =>
    refine ⟨?_, ?_, ?_⟩
    · intro lv y2 X hlv_0 hlv_1 hlv_2
      refine fx_mono (Q := fx_Q fx_qN (fun v X' => ∃ n : Nat, gxT_126_2 p1 (gxF_126 p1 n) y2 X v X')) (fun r X' ⟨v, e, n, z⟩ => ⟨v, e, n + 1, gxI_126_2 z⟩) ?_
      unfold gxT_126_2
      refine fx_i0 aj_d126 rfl (Nat.le_refl _) (fun _ => rfl) hlv_2 ?_
      refine fx_i2 aj_d126 rfl (Nat.le_succ _) (fun _ => rfl) hlv_1 ?_
      refine fx_gI aj_d126 rfl (Nat.le_succ _) rfl rfl (Or.inl rfl) ?_
      refine fx_b (tgt := 118) aj_d126 rfl (Nat.le_succ _) rfl (fun q3 => ?_) (fun q3 => ?_)
      · skip
        refine fx_qe (c := (y2).toInt < ((X.1 p1 4)).toInt) (fx_t_ge q3) ?_
        show fx_W _ _ _ 118 lv [] _ _
        refine fx_i2 aj_d126 rfl (Nat.le_succ _) (fun _ => rfl) hlv_1 ?_
        refine fx_i2 aj_d126 rfl (Nat.le_succ _) (fun _ => rfl) hlv_0 ?_
        refine fx_gI aj_d126 rfl (Nat.le_succ _) rfl rfl (Or.inl rfl) ?_
        refine fx_pI aj_d126 rfl (Nat.le_succ _) rfl rfl (Or.inl rfl) fx_no_6_3 (by decide) ?_
        refine fx_qX (fun X4 eX4 => ?_)
        show fx_W _ _ _ 126 lv [] _ _
        exact fx_rn aj_d126 rfl ⟨(), rfl, 0, rfl⟩
      · skip
        refine fx_qi (c := (y2).toInt < ((X.1 p1 4)).toInt) (fx_f_ge q3) ?_
        show fx_W _ _ _ 10 lv [] _ _
        refine fx_n (pc' := 11) (lv' := lv) (st' := [.int (Int32.ofInt 0)]) aj_d126 rfl (Nat.le_succ _) (fun _ => rfl) ?_
        refine fx_s0 (j := 3) aj_d126 rfl (Nat.le_succ _) (by decide) (fun _ => rfl) ?_
        obtain ⟨lv5, elv5⟩ : ∃ l, l = aj_set1 lv 3 (.int (Int32.ofInt 0)) := ⟨_, rfl⟩
        rw [← elv5]
        have hlv5_0 : aj_lv lv5 0 = some (.ref 96) := fx_e1 elv5 hlv_0 (by decide) (Or.inl (by decide))
        have hlv5_1 : aj_lv lv5 1 = some (.ref p1) := fx_e1 elv5 hlv_1 (by decide) (Or.inl (by decide))
        have hlv5_2 : aj_lv lv5 2 = some (.int y2) := fx_e1 elv5 hlv_2 (by decide) (Or.inr rfl)
        have hlv5_3 : aj_lv lv5 3 = some (.int (Int32.ofInt 0)) := by rw [elv5]; exact ak_set1_eq _ _ _
        show fx_W _ _ _ 12 lv5 [] _ _
        exact (ih.2.1) lv5 (y2) ((Int32.ofInt 0)) X  hlv5_0 hlv5_1 hlv5_2 hlv5_3
    · intro lv y2 y3 X hlv_0 hlv_1 hlv_2 hlv_3
      refine fx_mono (Q := fx_Q fx_qN (fun v X' => ∃ n : Nat, gxT_126_12 p1 (gxF_126 p1 n) y2 y3 X v X')) (fun r X' ⟨v, e, n, z⟩ => ⟨v, e, n + 1, gxI_126_12 z⟩) ?_
      unfold gxT_126_12
      refine fx_i0 aj_d126 rfl (Nat.le_refl _) (fun _ => rfl) hlv_3 ?_
      refine fx_i2 aj_d126 rfl (Nat.le_succ _) (fun _ => rfl) hlv_0 ?_
      refine fx_gI aj_d126 rfl (Nat.le_succ _) rfl rfl (Or.inl rfl) ?_
      refine fx_b (tgt := 69) aj_d126 rfl (Nat.le_succ _) rfl (fun q6 => ?_) (fun q6 => ?_)
      · skip
        refine fx_qe (c := (y3).toInt < ((X.1 96 1)).toInt) (fx_t_ge q6) ?_
        show fx_W _ _ _ 69 lv [] _ _
        refine fx_n (pc' := 70) (lv' := lv) (st' := [.int (Int32.ofInt 0)]) aj_d126 rfl (Nat.le_succ _) (fun _ => rfl) ?_
        refine fx_s0 (j := 3) aj_d126 rfl (Nat.le_succ _) (by decide) (fun _ => rfl) ?_
        obtain ⟨lv7, elv7⟩ : ∃ l, l = aj_set1 lv 3 (.int (Int32.ofInt 0)) := ⟨_, rfl⟩
        rw [← elv7]
        have hlv7_0 : aj_lv lv7 0 = some (.ref 96) := fx_e1 elv7 hlv_0 (by decide) (Or.inl (by decide))
        have hlv7_1 : aj_lv lv7 1 = some (.ref p1) := fx_e1 elv7 hlv_1 (by decide) (Or.inl (by decide))
        have hlv7_2 : aj_lv lv7 2 = some (.int y2) := fx_e1 elv7 hlv_2 (by decide) (Or.inr rfl)
        have hlv7_3 : aj_lv lv7 3 = some (.int (Int32.ofInt 0)) := by rw [elv7]; exact ak_set1_eq _ _ _
        show fx_W _ _ _ 71 lv7 [] _ _
        exact (ih.2.2) lv7 (y2) ((Int32.ofInt 0)) X  hlv7_0 hlv7_1 hlv7_2 hlv7_3
      · skip
        refine fx_qi (c := (y3).toInt < ((X.1 96 1)).toInt) (fx_f_ge q6) ?_
        show fx_W _ _ _ 20 lv [] _ _
        refine fx_i0 aj_d126 rfl (Nat.le_succ _) (fun _ => rfl) hlv_3 ?_
        refine fx_i2 aj_d126 rfl (Nat.le_succ _) (fun _ => rfl) hlv_0 ?_
        refine fx_gF aj_d126 rfl (Nat.le_succ _) rfl rfl fx_in_1_0 (t := 97) rfl (fun hA8 => ?_)
        refine fx_al aj_d126 rfl (Nat.le_succ _) ?_
        rw [(hA8 : X.2.2.2.1 97 = (0, 6))]
        show fx_W _ _ _ 26 lv [.int (Int32.ofNat 6), .int y3] _ _
        refine fx_b (tgt := 69) aj_d126 rfl (Nat.le_succ _) rfl (fun q9 => ?_) (fun q9 => ?_)
        · skip
          refine fx_qe (c := (y3).toInt < 6) (fx_t_ge q9) ?_
          show fx_W _ _ _ 69 lv [] _ _
          refine fx_n (pc' := 70) (lv' := lv) (st' := [.int (Int32.ofInt 0)]) aj_d126 rfl (Nat.le_succ _) (fun _ => rfl) ?_
          refine fx_s0 (j := 3) aj_d126 rfl (Nat.le_succ _) (by decide) (fun _ => rfl) ?_
          obtain ⟨lv10, elv10⟩ : ∃ l, l = aj_set1 lv 3 (.int (Int32.ofInt 0)) := ⟨_, rfl⟩
          rw [← elv10]
          have hlv10_0 : aj_lv lv10 0 = some (.ref 96) := fx_e1 elv10 hlv_0 (by decide) (Or.inl (by decide))
          have hlv10_1 : aj_lv lv10 1 = some (.ref p1) := fx_e1 elv10 hlv_1 (by decide) (Or.inl (by decide))
          have hlv10_2 : aj_lv lv10 2 = some (.int y2) := fx_e1 elv10 hlv_2 (by decide) (Or.inr rfl)
          have hlv10_3 : aj_lv lv10 3 = some (.int (Int32.ofInt 0)) := by rw [elv10]; exact ak_set1_eq _ _ _
          show fx_W _ _ _ 71 lv10 [] _ _
          exact (ih.2.2) lv10 (y2) ((Int32.ofInt 0)) X  hlv10_0 hlv10_1 hlv10_2 hlv10_3
        · skip
          refine fx_qi (c := (y3).toInt < 6) (fx_f_ge q9) ?_
          show fx_W _ _ _ 29 lv [] _ _
          refine fx_i2 aj_d126 rfl (Nat.le_succ _) (fun _ => rfl) hlv_0 ?_
          refine fx_gF aj_d126 rfl (Nat.le_succ _) rfl rfl fx_in_1_5 (t := 99) rfl (fun hA11 => ?_)
          refine fx_i0 aj_d126 rfl (Nat.le_succ _) (fun _ => rfl) hlv_3 ?_
          refine fx_i2 aj_d126 rfl (Nat.le_succ _) (fun _ => rfl) hlv_1 ?_
          refine fx_i0 aj_d126 rfl (Nat.le_succ _) (fun _ => rfl) hlv_2 ?_
          refine fx_i2 aj_d126 rfl (Nat.le_succ _) (fun _ => rfl) hlv_0 ?_
          refine fx_gF aj_d126 rfl (Nat.le_succ _) rfl rfl fx_in_1_0 (t := 97) rfl (fun hA12 => ?_)
          refine fx_i0 aj_d126 rfl (Nat.le_succ _) (fun _ => rfl) hlv_3 ?_
          refine fx_ld aj_d126 (Or.inl rfl) rfl (Nat.le_succ _) (fun g130 g131 => ?_)
          show fx_W _ _ _ 42 lv [.int (X.1 97 (y3).toInt.toNat), .int y2, .ref p1, .int y3, .ref 99] _ _
          refine fx_qa (c := 0 ≤ (y3).toInt ∧ (y3).toInt < ((6 : Nat) : Int)) ⟨g130, fx_lnk g131 hA12⟩ ?_
          refine fx_cv aj_d126 rfl (Nat.le_succ _) rfl [_, _] rfl rfl (gx_104_ok p1 y2 (X.1 97 (y3).toInt.toNat)) ?_
          rintro _ X14 ⟨w15, rfl, hR14⟩ hok14 hle14
          refine fx_qc hR14 ?_
          show fx_W _ _ _ 45 lv [.int w15, .int y3, .ref 99] _ _
          refine fx_st aj_d126 (Or.inl ⟨rfl, rfl⟩) rfl (Nat.le_succ _) (fun g160 g161 => ?_)
          show fx_W _ _ _ _ _ _ (fx_wI X14 99 (y3).toInt.toNat w15) _
          refine fx_qa (c := 0 ≤ (y3).toInt ∧ (y3).toInt < ((6 : Nat) : Int)) ⟨g160, fx_lnk g161 ((hle14.2 _ (by rw [hA11]; decide)).trans hA11)⟩ ?_
          refine fx_qX (fun X17 eX17 => ?_)
          show fx_W _ _ _ 46 lv [] _ _
          refine fx_i2 aj_d126 rfl (Nat.le_succ _) (fun _ => rfl) hlv_0 ?_
          refine fx_gF aj_d126 rfl (Nat.le_succ _) rfl rfl fx_in_1_6 (t := 100) rfl (fun hA18 => ?_)
          refine fx_i0 aj_d126 rfl (Nat.le_succ _) (fun _ => rfl) hlv_3 ?_
          refine fx_i2 aj_d126 rfl (Nat.le_succ _) (fun _ => rfl) hlv_1 ?_
          refine fx_i0 aj_d126 rfl (Nat.le_succ _) (fun _ => rfl) hlv_2 ?_
          refine fx_i2 aj_d126 rfl (Nat.le_succ _) (fun _ => rfl) hlv_0 ?_
          refine fx_gF aj_d126 rfl (Nat.le_succ _) rfl rfl fx_in_1_0 (t := 97) rfl (fun hA19 => ?_)
          refine fx_i0 aj_d126 rfl (Nat.le_succ _) (fun _ => rfl) hlv_3 ?_
          refine fx_ld aj_d126 (Or.inl rfl) rfl (Nat.le_succ _) (fun g200 g201 => ?_)
          show fx_W _ _ _ 59 lv [.int (X17.1 97 (y3).toInt.toNat), .int y2, .ref p1, .int y3, .ref 100] _ _
          refine fx_qa (c := 0 ≤ (y3).toInt ∧ (y3).toInt < ((6 : Nat) : Int)) ⟨g200, fx_lnk g201 hA19⟩ ?_
          refine fx_cv aj_d126 rfl (Nat.le_succ _) rfl [_, _] rfl rfl (gx_103_ok p1 y2 (X17.1 97 (y3).toInt.toNat)) ?_
          rintro _ X21 ⟨w22, rfl, hR21⟩ hok21 hle21
          refine fx_qc hR21 ?_
          show fx_W _ _ _ 62 lv [.int w22, .int y3, .ref 100] _ _
          refine fx_sb (kd := 2) aj_d126 rfl (Nat.le_succ _) ((hle21.2 _ (by rw [hA18]; decide)).trans hA18) (fun g230 g231 => ?_)
          refine fx_qa (c := 0 ≤ (y3).toInt ∧ (y3).toInt < ((6 : Nat) : Int)) ⟨g230, fx_lnk g231 ((hle21.2 _ (by rw [hA18]; decide)).trans hA18)⟩ ?_
          refine fx_qX (fun X24 eX24 => ?_)
          show fx_W _ _ _ 63 lv [] _ _
          refine fx_incq aj_d126 rfl (Nat.le_succ _) hlv_3 (by decide) (fun x25 ex25 => ?_)
          obtain ⟨lv26, elv26⟩ : ∃ l, l = aj_set1 lv 3 (.int x25) := ⟨_, rfl⟩
          rw [← elv26]
          have hlv26_0 : aj_lv lv26 0 = some (.ref 96) := fx_e1 elv26 hlv_0 (by decide) (Or.inl (by decide))
          have hlv26_1 : aj_lv lv26 1 = some (.ref p1) := fx_e1 elv26 hlv_1 (by decide) (Or.inl (by decide))
          have hlv26_2 : aj_lv lv26 2 = some (.int y2) := fx_e1 elv26 hlv_2 (by decide) (Or.inr rfl)
          have hlv26_3 : aj_lv lv26 3 = some (.int x25) := by rw [elv26]; exact ak_set1_eq _ _ _
          show fx_W _ _ _ 66 lv26 [] _ _
          refine fx_n (pc' := 12) (lv' := lv26) (st' := []) aj_d126 rfl (Nat.le_succ _) (fun _ => rfl) ?_
          exact (ih.2.1) lv26 (y2) (x25) X24  hlv26_0 hlv26_1 hlv26_2 hlv26_3
    · intro lv y2 y3 X hlv_0 hlv_1 hlv_2 hlv_3
      refine fx_mono (Q := fx_Q fx_qN (fun v X' => ∃ n : Nat, gxT_126_71 p1 (gxF_126 p1 n) y2 y3 X v X')) (fun r X' ⟨v, e, n, z⟩ => ⟨v, e, n + 1, gxI_126_71 z⟩) ?_
      unfold gxT_126_71
      refine fx_i0 aj_d126 rfl (Nat.le_refl _) (fun _ => rfl) hlv_3 ?_
      refine fx_i2 aj_d126 rfl (Nat.le_succ _) (fun _ => rfl) hlv_0 ?_
      refine fx_gI aj_d126 rfl (Nat.le_succ _) rfl rfl (Or.inl rfl) ?_
      refine fx_b (tgt := 112) aj_d126 rfl (Nat.le_succ _) rfl (fun q27 => ?_) (fun q27 => ?_)
      · skip
        refine fx_qe (c := (y3).toInt < ((X.1 96 1)).toInt) (fx_t_ge q27) ?_
        show fx_W _ _ _ 112 lv [] _ _
        refine fx_incq aj_d126 rfl (Nat.le_succ _) hlv_2 (by decide) (fun x28 ex28 => ?_)
        obtain ⟨lv29, elv29⟩ : ∃ l, l = aj_set1 lv 2 (.int x28) := ⟨_, rfl⟩
        rw [← elv29]
        have hlv29_0 : aj_lv lv29 0 = some (.ref 96) := fx_e1 elv29 hlv_0 (by decide) (Or.inl (by decide))
        have hlv29_1 : aj_lv lv29 1 = some (.ref p1) := fx_e1 elv29 hlv_1 (by decide) (Or.inr rfl)
        have hlv29_2 : aj_lv lv29 2 = some (.int x28) := by rw [elv29]; exact ak_set1_eq _ _ _
        show fx_W _ _ _ 115 lv29 [] _ _
        refine fx_n (pc' := 2) (lv' := lv29) (st' := []) aj_d126 rfl (Nat.le_succ _) (fun _ => rfl) ?_
        exact (ih.1) lv29 (x28) X  hlv29_0 hlv29_1 hlv29_2
      · skip
        refine fx_qi (c := (y3).toInt < ((X.1 96 1)).toInt) (fx_f_ge q27) ?_
        show fx_W _ _ _ 79 lv [] _ _
        refine fx_i0 aj_d126 rfl (Nat.le_succ _) (fun _ => rfl) hlv_3 ?_
        refine fx_i2 aj_d126 rfl (Nat.le_succ _) (fun _ => rfl) hlv_0 ?_
        refine fx_gF aj_d126 rfl (Nat.le_succ _) rfl rfl fx_in_1_0 (t := 97) rfl (fun hA30 => ?_)
        refine fx_al aj_d126 rfl (Nat.le_succ _) ?_
        rw [(hA30 : X.2.2.2.1 97 = (0, 6))]
        show fx_W _ _ _ 85 lv [.int (Int32.ofNat 6), .int y3] _ _
        refine fx_b (tgt := 112) aj_d126 rfl (Nat.le_succ _) rfl (fun q31 => ?_) (fun q31 => ?_)
        · skip
          refine fx_qe (c := (y3).toInt < 6) (fx_t_ge q31) ?_
          show fx_W _ _ _ 112 lv [] _ _
          refine fx_incq aj_d126 rfl (Nat.le_succ _) hlv_2 (by decide) (fun x32 ex32 => ?_)
          obtain ⟨lv33, elv33⟩ : ∃ l, l = aj_set1 lv 2 (.int x32) := ⟨_, rfl⟩
          rw [← elv33]
          have hlv33_0 : aj_lv lv33 0 = some (.ref 96) := fx_e1 elv33 hlv_0 (by decide) (Or.inl (by decide))
          have hlv33_1 : aj_lv lv33 1 = some (.ref p1) := fx_e1 elv33 hlv_1 (by decide) (Or.inr rfl)
          have hlv33_2 : aj_lv lv33 2 = some (.int x32) := by rw [elv33]; exact ak_set1_eq _ _ _
          show fx_W _ _ _ 115 lv33 [] _ _
          refine fx_n (pc' := 2) (lv' := lv33) (st' := []) aj_d126 rfl (Nat.le_succ _) (fun _ => rfl) ?_
          exact (ih.1) lv33 (x32) X  hlv33_0 hlv33_1 hlv33_2
        · skip
          refine fx_qi (c := (y3).toInt < 6) (fx_f_ge q31) ?_
          show fx_W _ _ _ 88 lv [] _ _
          refine fx_i2 aj_d126 rfl (Nat.le_succ _) (fun _ => rfl) hlv_1 ?_
          refine fx_i0 aj_d126 rfl (Nat.le_succ _) (fun _ => rfl) hlv_2 ?_
          refine fx_i0 aj_d126 rfl (Nat.le_succ _) (fun _ => rfl) hlv_3 ?_
          refine fx_i2 aj_d126 rfl (Nat.le_succ _) (fun _ => rfl) hlv_0 ?_
          refine fx_gF aj_d126 rfl (Nat.le_succ _) rfl rfl fx_in_1_6 (t := 100) rfl (fun hA34 => ?_)
          refine fx_i0 aj_d126 rfl (Nat.le_succ _) (fun _ => rfl) hlv_3 ?_
          refine fx_ld aj_d126 (Or.inr (Or.inr rfl)) rfl (Nat.le_succ _) (fun g350 g351 => ?_)
          show fx_W _ _ _ 97 lv [.int (X.1 100 (y3).toInt.toNat), .int y3, .int y2, .ref p1] _ _
          refine fx_qa (c := 0 ≤ (y3).toInt ∧ (y3).toInt < ((6 : Nat) : Int)) ⟨g350, fx_lnk g351 hA34⟩ ?_
          refine fx_i2 aj_d126 rfl (Nat.le_succ _) (fun _ => rfl) hlv_0 ?_
          refine fx_gF aj_d126 rfl (Nat.le_succ _) rfl rfl fx_in_1_5 (t := 99) rfl (fun hA36 => ?_)
          refine fx_i0 aj_d126 rfl (Nat.le_succ _) (fun _ => rfl) hlv_3 ?_
          refine fx_ld aj_d126 (Or.inl rfl) rfl (Nat.le_succ _) (fun g370 g371 => ?_)
          show fx_W _ _ _ 103 lv [.int (X.1 99 (y3).toInt.toNat), .int (X.1 100 (y3).toInt.toNat), .int y3, .int y2, .ref p1] _ _
          refine fx_qa (c := 0 ≤ (y3).toInt ∧ (y3).toInt < ((6 : Nat) : Int)) ⟨g370, fx_lnk g371 hA36⟩ ?_
          refine fx_cv aj_d126 rfl (Nat.le_succ _) rfl [_, _, _, _] rfl rfl (gx_105_ok p1 y2 y3 (X.1 100 (y3).toInt.toNat) (X.1 99 (y3).toInt.toNat)) ?_
          rintro _ X38 ⟨w39, rfl, hR38⟩ hok38 hle38
          refine fx_qc hR38 ?_
          show fx_W _ _ _ 106 lv [] _ _
          refine fx_incq aj_d126 rfl (Nat.le_succ _) hlv_3 (by decide) (fun x40 ex40 => ?_)
          obtain ⟨lv41, elv41⟩ : ∃ l, l = aj_set1 lv 3 (.int x40) := ⟨_, rfl⟩
          rw [← elv41]
          have hlv41_0 : aj_lv lv41 0 = some (.ref 96) := fx_e1 elv41 hlv_0 (by decide) (Or.inl (by decide))
          have hlv41_1 : aj_lv lv41 1 = some (.ref p1) := fx_e1 elv41 hlv_1 (by decide) (Or.inl (by decide))
          have hlv41_2 : aj_lv lv41 2 = some (.int y2) := fx_e1 elv41 hlv_2 (by decide) (Or.inr rfl)
          have hlv41_3 : aj_lv lv41 3 = some (.int x40) := by rw [elv41]; exact ak_set1_eq _ _ _
          show fx_W _ _ _ 109 lv41 [] _ _
          refine fx_n (pc' := 71) (lv' := lv41) (st' := []) aj_d126 rfl (Nat.le_succ _) (fun _ => rfl) ?_
          exact (ih.2.2) lv41 (y2) (x40) X38  hlv41_0 hlv41_1 hlv41_2 hlv41_3
theorem gx_126_ok {tb : aj_T} (p1 : Nat) {X : fx_X} : fx_K tb 126 [.ref 96, .ref p1] X (fx_Q fx_qN (fun v X' => gx_126 p1 X v X')) := by
  refine fx_m aj_m126_at rfl (fun N => ?_)
  refine fx_mono (Q := fx_Q fx_qN (fun v X' => ∃ n : Nat, gxE_126 p1 (gxF_126 p1 n) X v X')) (fun r X' h => h) ?_
  unfold gxE_126
  show fx_W _ _ _ 0 [(0, .ref 96), (1, .ref p1)] [] _ _
  obtain ⟨lv1, elv1⟩ : ∃ l : aj_V, l = [(0, .ref 96), (1, .ref p1)] := ⟨_, rfl⟩
  rw [← elv1]
  have hlv1_0 : aj_lv lv1 0 = some (.ref 96) := by rw [elv1]; rfl
  have hlv1_1 : aj_lv lv1 1 = some (.ref p1) := by rw [elv1]; rfl
  refine fx_n (pc' := 1) (lv' := lv1) (st' := [.int (Int32.ofInt 0)]) aj_d126 rfl (Nat.le_succ _) (fun _ => rfl) ?_
  refine fx_s0 (j := 2) aj_d126 rfl (Nat.le_succ _) (by decide) (fun _ => rfl) ?_
  obtain ⟨lv2, elv2⟩ : ∃ l, l = aj_set1 lv1 2 (.int (Int32.ofInt 0)) := ⟨_, rfl⟩
  rw [← elv2]
  have hlv2_0 : aj_lv lv2 0 = some (.ref 96) := fx_e1 elv2 hlv1_0 (by decide) (Or.inl (by decide))
  have hlv2_1 : aj_lv lv2 1 = some (.ref p1) := fx_e1 elv2 hlv1_1 (by decide) (Or.inr rfl)
  have hlv2_2 : aj_lv lv2 2 = some (.int (Int32.ofInt 0)) := by rw [elv2]; exact ak_set1_eq _ _ _
  show fx_W _ _ _ 2 lv2 [] _ _
  exact ((gxL_126 p1 N).1) lv2 ((Int32.ofInt 0)) X  hlv2_0 hlv2_1 hlv2_2
def gxT_127_1_18 (p2 : Nat) (p3 : Nat) (P : Nat → List Int32 → List Int64 → List Nat → fx_X → Int32 → fx_X → Prop) (y4 : Int32) (X : fx_X) (v : Int32) (X' : fx_X) : Prop :=
  False
def gxE_127_1 (p2 : Nat) (p3 : Nat) (P : Nat → List Int32 → List Int64 → List Nat → fx_X → Int32 → fx_X → Prop) (X : fx_X) (v : Int32) (X' : fx_X) : Prop :=
  ∃ (w3 : Unit) (X2 : fx_X), gx_116 p3 (if ((Int8.ofInt 6).toInt32) < ((X.1 96 1) + (Int32.ofInt 1)) then ((Int8.ofInt 6).toInt32) else ((X.1 96 1) + (Int32.ofInt 1))) X w3 X2 ∧ P 18 [(Int32.ofInt 0)] [] [] X2 v X'
noncomputable def gxF_127_1 (p2 : Nat) (p3 : Nat) (n : Nat) : Nat → List Int32 → List Int64 → List Nat → fx_X → Int32 → fx_X → Prop := Nat.rec (motive := fun _ => Nat → List Int32 → List Int64 → List Nat → fx_X → Int32 → fx_X → Prop) (fun _ _ _ _ _ _ _ => False) (fun _ P l is ls rs X v X' => (l = 18 ∧ ∃ (y4 : Int32), is = [y4] ∧ ls = [] ∧ rs = [] ∧ gxT_127_1_18 p2 p3 P y4 X v X')) n
theorem gxI_127_1_18 {p2 : Nat} {p3 : Nat} {n : Nat} {y4 : Int32} {X : fx_X} {v : Int32} {X' : fx_X} (h : gxT_127_1_18 p2 p3 (gxF_127_1 p2 p3 n) y4 X v X') : gxF_127_1 p2 p3 (n + 1) 18 [y4] [] [] X v X' := ⟨rfl, y4, rfl, rfl, rfl, h⟩
theorem gxO_127_1_18 {p2 : Nat} {p3 : Nat} {n : Nat} {y4 : Int32} {X : fx_X} {v : Int32} {X' : fx_X} (h : gxF_127_1 p2 p3 (n + 1) 18 [y4] [] [] X v X') : gxT_127_1_18 p2 p3 (gxF_127_1 p2 p3 n) y4 X v X' := by
  rcases h with ⟨-, _, e1, e2, e3, h⟩
  · cases e1; cases e2; cases e3; exact h
def gx_127_1 (p2 : Nat) (p3 : Nat) (X : fx_X) (v : Int32) (X' : fx_X) : Prop := ∃ n : Nat, gxE_127_1 p2 p3 (gxF_127_1 p2 p3 n) X v X'
theorem gxL_127_1 {tb : aj_T} (p2 : Nat) (p3 : Nat) : ∀ N : Nat, (∀ (lv : aj_V) (y4 : Int32) (X : fx_X), aj_lv lv 0 = some (.ref 96) → aj_lv lv 1 = some (.null) → aj_lv lv 2 = some (.ref p2) → aj_lv lv 3 = some (.ref p3) → aj_lv lv 4 = some (.int y4) → fx_W tb aj_m127 N 18 lv [] X (fx_Q fx_qI (fun v X' => ∃ n : Nat, gxF_127_1 p2 p3 n 18 [y4] [] [] X v X'))) := by
  intro N
  induction N with
  | zero => exact (by intros; exact fx_z)
  | succ N ih =>
    skip
    · intro lv y4 X hlv_0 hlv_1 hlv_2 hlv_3 hlv_4
      refine fx_mono (Q := fx_Q fx_qI (fun v X' => ∃ n : Nat, gxT_127_1_18 p2 p3 (gxF_127_1 p2 p3 n) y4 X v X')) (fun r X' ⟨v, e, n, z⟩ => ⟨v, e, n + 1, gxI_127_1_18 z⟩) ?_
      unfold gxT_127_1_18
      refine fx_i0 aj_d127 rfl (Nat.le_refl _) (fun _ => rfl) hlv_4 ?_
      refine fx_i3 aj_d127 rfl (Nat.le_succ _) (fun _ => rfl) hlv_1 ?_
      exact fx_d aj_d127 rfl (fun _ => rfl)
theorem gx_127_1_ok {tb : aj_T} (p2 : Nat) (p3 : Nat) {X : fx_X} : fx_K tb 127 [.ref 96, .null, .ref p2, .ref p3] X (fx_Q fx_qI (fun v X' => gx_127_1 p2 p3 X v X')) := by
  refine fx_m aj_m127_at rfl (fun N => ?_)
  refine fx_mono (Q := fx_Q fx_qI (fun v X' => ∃ n : Nat, gxE_127_1 p2 p3 (gxF_127_1 p2 p3 n) X v X')) (fun r X' h => h) ?_
  unfold gxE_127_1
  show fx_W _ _ _ 0 [(0, .ref 96), (1, .null), (2, .ref p2), (3, .ref p3)] [] _ _
  obtain ⟨lv1, elv1⟩ : ∃ l : aj_V, l = [(0, .ref 96), (1, .null), (2, .ref p2), (3, .ref p3)] := ⟨_, rfl⟩
  rw [← elv1]
  have hlv1_0 : aj_lv lv1 0 = some (.ref 96) := by rw [elv1]; rfl
  have hlv1_1 : aj_lv lv1 1 = some (.null) := by rw [elv1]; rfl
  have hlv1_2 : aj_lv lv1 2 = some (.ref p2) := by rw [elv1]; rfl
  have hlv1_3 : aj_lv lv1 3 = some (.ref p3) := by rw [elv1]; rfl
  refine fx_i2 aj_d127 rfl (Nat.le_succ _) (fun _ => rfl) hlv1_3 ?_
  refine fx_i2 aj_d127 rfl (Nat.le_succ _) (fun _ => rfl) hlv1_0 ?_
  refine fx_gI aj_d127 rfl (Nat.le_succ _) rfl rfl (Or.inl rfl) ?_
  refine fx_n (pc' := 6) (lv' := lv1) (st' := [.int (Int32.ofInt 1), .int (X.1 96 1), .ref p3]) aj_d127 rfl (Nat.le_succ _) (fun _ => rfl) ?_
  refine fx_n (pc' := 7) (lv' := lv1) (st' := [.int ((X.1 96 1) + (Int32.ofInt 1)), .ref p3]) aj_d127 rfl (Nat.le_succ _) (fun _ => rfl) ?_
  refine fx_n (pc' := 9) (lv' := lv1) (st' := [.int ((Int8.ofInt 6).toInt32), .int ((X.1 96 1) + (Int32.ofInt 1)), .ref p3]) aj_d127 rfl (Nat.le_succ _) (fun _ => rfl) ?_
  refine fx_mn aj_d127 rfl (Nat.le_succ _) rfl ?_
  show fx_W _ _ _ 12 lv1 [.int (if ((Int8.ofInt 6).toInt32) < ((X.1 96 1) + (Int32.ofInt 1)) then ((Int8.ofInt 6).toInt32) else ((X.1 96 1) + (Int32.ofInt 1))), .ref p3] _ _
  refine fx_cv aj_d127 rfl (Nat.le_succ _) rfl [_] rfl rfl (gx_116_ok p3 (if ((Int8.ofInt 6).toInt32) < ((X.1 96 1) + (Int32.ofInt 1)) then ((Int8.ofInt 6).toInt32) else ((X.1 96 1) + (Int32.ofInt 1)))) ?_
  rintro _ X2 ⟨w3, rfl, hR2⟩ hok2 hle2
  refine fx_qc hR2 ?_
  show fx_W _ _ _ 15 lv1 [] _ _
  refine fx_n (pc' := 16) (lv' := lv1) (st' := [.int (Int32.ofInt 0)]) aj_d127 rfl (Nat.le_succ _) (fun _ => rfl) ?_
  refine fx_s0 (j := 4) aj_d127 rfl (Nat.le_succ _) (by decide) (fun _ => rfl) ?_
  obtain ⟨lv4, elv4⟩ : ∃ l, l = aj_set1 lv1 4 (.int (Int32.ofInt 0)) := ⟨_, rfl⟩
  rw [← elv4]
  have hlv4_0 : aj_lv lv4 0 = some (.ref 96) := fx_e1 elv4 hlv1_0 (by decide) (Or.inl (by decide))
  have hlv4_1 : aj_lv lv4 1 = some (.null) := fx_e1 elv4 hlv1_1 (by decide) (Or.inl (by decide))
  have hlv4_2 : aj_lv lv4 2 = some (.ref p2) := fx_e1 elv4 hlv1_2 (by decide) (Or.inl (by decide))
  have hlv4_3 : aj_lv lv4 3 = some (.ref p3) := fx_e1 elv4 hlv1_3 (by decide) (Or.inr rfl)
  have hlv4_4 : aj_lv lv4 4 = some (.int (Int32.ofInt 0)) := by rw [elv4]; exact ak_set1_eq _ _ _
  show fx_W _ _ _ 18 lv4 [] _ _
  exact ((gxL_127_1 p2 p3 N)) lv4 ((Int32.ofInt 0)) X2  hlv4_0 hlv4_1 hlv4_2 hlv4_3 hlv4_4
def gxT_139_3 (p0 : Nat) (p1 : Int32) (p2 : Int32) (p3 : Int32) (P : Nat → List Int32 → List Int64 → List Nat → fx_X → Unit → fx_X → Prop) (y4 : Int32) (X : fx_X) (v : Unit) (X' : fx_X) : Prop :=
  (if (y4).toInt < ((X.1 p0 3)).toInt then (∃ (w6 : Int32) (X5 : fx_X), gx_104 p0 p1 y4 X w6 X5 ∧ ∃ (w9 : Int32) (X8 : fx_X), gx_103 p0 p1 y4 X5 w9 X8 ∧ ∃ (w12 : Int32) (X11 : fx_X), gx_103 p0 p2 y4 X8 w12 X11 ∧ ∃ (w14 : Int32) (X13 : fx_X), gx_104 p0 p2 y4 X11 w14 X13 ∧ ∃ (w16 : Unit) (X15 : fx_X), gx_105 p0 p1 y4 w12 w14 X13 w16 X15 ∧ ∃ (w18 : Unit) (X17 : fx_X), gx_105 p0 p2 y4 w9 w6 X15 w18 X17 ∧ ∃ x19 : Int32, x19 = y4 + Int32.ofInt 1 ∧ P 3 [x19] [] [] X17 v X') else (P 71 [(Int32.ofInt 0)] [] [] X v X'))
def gxT_139_71 (p0 : Nat) (p1 : Int32) (p2 : Int32) (p3 : Int32) (P : Nat → List Int32 → List Int64 → List Nat → fx_X → Unit → fx_X → Prop) (y4 : Int32) (X : fx_X) (v : Unit) (X' : fx_X) : Prop :=
  (if (y4).toInt < (p3).toInt then ((if (y4).toInt < 1024 then ((0 ≤ (y4).toInt ∧ (y4).toInt < ((1024 : Nat) : Int)) ∧ (0 ≤ (y4).toInt ∧ (y4).toInt < ((1024 : Nat) : Int)) ∧ ∃ x28 : Int32, x28 = ((((X.1 (p0 + 3) (y4).toInt.toNat) >>> (p1 &&& 31)) ^^^ ((X.1 (p0 + 3) (y4).toInt.toNat) >>> (p2 &&& 31))) &&& (Int32.ofInt 1)) ∧ (0 ≤ (y4).toInt ∧ (y4).toInt < ((1024 : Nat) : Int)) ∧ (0 ≤ (y4).toInt ∧ (y4).toInt < ((1024 : Nat) : Int)) ∧ ∃ X33 : fx_X, X33 = (fx_wI X (p0 + 3) (y4).toInt.toNat ((X.1 (p0 + 3) (y4).toInt.toNat) ^^^ ((x28 <<< (p1 &&& 31)) ||| (x28 <<< (p2 &&& 31))))) ∧ ∃ x34 : Int32, x34 = y4 + Int32.ofInt 1 ∧ P 71 [x34] [] [] X33 v X') else (X' = X))) else (X' = X))
def gxE_139 (p0 : Nat) (p1 : Int32) (p2 : Int32) (p3 : Int32) (P : Nat → List Int32 → List Int64 → List Nat → fx_X → Unit → fx_X → Prop) (X : fx_X) (v : Unit) (X' : fx_X) : Prop :=
  P 3 [(Int32.ofInt 0)] [] [] X v X'
noncomputable def gxF_139 (p0 : Nat) (p1 : Int32) (p2 : Int32) (p3 : Int32) (n : Nat) : Nat → List Int32 → List Int64 → List Nat → fx_X → Unit → fx_X → Prop := Nat.rec (motive := fun _ => Nat → List Int32 → List Int64 → List Nat → fx_X → Unit → fx_X → Prop) (fun _ _ _ _ _ _ _ => False) (fun _ P l is ls rs X v X' => (l = 3 ∧ ∃ (y4 : Int32), is = [y4] ∧ ls = [] ∧ rs = [] ∧ gxT_139_3 p0 p1 p2 p3 P y4 X v X') ∨ (l = 71 ∧ ∃ (y4 : Int32), is = [y4] ∧ ls = [] ∧ rs = [] ∧ gxT_139_71 p0 p1 p2 p3 P y4 X v X')) n
theorem gxI_139_3 {p0 : Nat} {p1 : Int32} {p2 : Int32} {p3 : Int32} {n : Nat} {y4 : Int32} {X : fx_X} {v : Unit} {X' : fx_X} (h : gxT_139_3 p0 p1 p2 p3 (gxF_139 p0 p1 p2 p3 n) y4 X v X') : gxF_139 p0 p1 p2 p3 (n + 1) 3 [y4] [] [] X v X' := Or.inl ⟨rfl, y4, rfl, rfl, rfl, h⟩
theorem gxO_139_3 {p0 : Nat} {p1 : Int32} {p2 : Int32} {p3 : Int32} {n : Nat} {y4 : Int32} {X : fx_X} {v : Unit} {X' : fx_X} (h : gxF_139 p0 p1 p2 p3 (n + 1) 3 [y4] [] [] X v X') : gxT_139_3 p0 p1 p2 p3 (gxF_139 p0 p1 p2 p3 n) y4 X v X' := by
  rcases h with ⟨-, _, e1, e2, e3, h⟩ | ⟨e, -⟩
  · cases e1; cases e2; cases e3; exact h
  · exact absurd e (by decide)
theorem gxI_139_71 {p0 : Nat} {p1 : Int32} {p2 : Int32} {p3 : Int32} {n : Nat} {y4 : Int32} {X : fx_X} {v : Unit} {X' : fx_X} (h : gxT_139_71 p0 p1 p2 p3 (gxF_139 p0 p1 p2 p3 n) y4 X v X') : gxF_139 p0 p1 p2 p3 (n + 1) 71 [y4] [] [] X v X' := Or.inr (⟨rfl, y4, rfl, rfl, rfl, h⟩)
theorem gxO_139_71 {p0 : Nat} {p1 : Int32} {p2 : Int32} {p3 : Int32} {n : Nat} {y4 : Int32} {X : fx_X} {v : Unit} {X' : fx_X} (h : gxF_139 p0 p1 p2 p3 (n + 1) 71 [y4] [] [] X v X') : gxT_139_71 p0 p1 p2 p3 (gxF_139 p0 p1 p2 p3 n) y4 X v X' := by
  rcases h with ⟨e, -⟩ | ⟨-, _, e1, e2, e3, h⟩
  · exact absurd e (by decide)
  · cases e1; cases e2; cases e3; exact h
def gx_139 (p0 : Nat) (p1 : Int32) (p2 : Int32) (p3 : Int32) (X : fx_X) (v : Unit) (X' : fx_X) : Prop := ∃ n : Nat, gxE_139 p0 p1 p2 p3 (gxF_139 p0 p1 p2 p3 n) X v X'
theorem gxL_139 {tb : aj_T} (p0 : Nat) (p1 : Int32) (p2 : Int32) (p3 : Int32) : ∀ N : Nat, (∀ (lv : aj_V) (y4 : Int32) (X : fx_X), aj_lv lv 0 = some (.ref p0) → aj_lv lv 1 = some (.int p1) → aj_lv lv 2 = some (.int p2) → aj_lv lv 3 = some (.int p3) → aj_lv lv 4 = some (.int y4) → fx_W tb aj_m139 N 3 lv [] X (fx_Q fx_qN (fun v X' => ∃ n : Nat, gxF_139 p0 p1 p2 p3 n 3 [y4] [] [] X v X'))) ∧ (∀ (lv : aj_V) (y4 : Int32) (X : fx_X), aj_lv lv 0 = some (.ref p0) → aj_lv lv 1 = some (.int p1) → aj_lv lv 2 = some (.int p2) → aj_lv lv 3 = some (.int p3) → aj_lv lv 4 = some (.int y4) → fx_W tb aj_m139 N 71 lv [] X (fx_Q fx_qN (fun v X' => ∃ n : Nat, gxF_139 p0 p1 p2 p3 n 71 [y4] [] [] X v X'))) := by
  intro N
  induction N with
  | zero => exact ⟨(by intros; exact fx_z), (by intros; exact fx_z)⟩
  | succ N ih =>
    refine ⟨?_, ?_⟩
    · intro lv y4 X hlv_0 hlv_1 hlv_2 hlv_3 hlv_4
      refine fx_mono (Q := fx_Q fx_qN (fun v X' => ∃ n : Nat, gxT_139_3 p0 p1 p2 p3 (gxF_139 p0 p1 p2 p3 n) y4 X v X')) (fun r X' ⟨v, e, n, z⟩ => ⟨v, e, n + 1, gxI_139_3 z⟩) ?_
      unfold gxT_139_3
      refine fx_i0 aj_d139 rfl (Nat.le_refl _) (fun _ => rfl) hlv_4 ?_
      refine fx_i2 aj_d139 rfl (Nat.le_succ _) (fun _ => rfl) hlv_0 ?_
      refine fx_gI aj_d139 rfl (Nat.le_succ _) rfl rfl (Or.inl rfl) ?_
      refine fx_b (tgt := 68) aj_d139 rfl (Nat.le_succ _) rfl (fun q3 => ?_) (fun q3 => ?_)
      · skip
        refine fx_qe (c := (y4).toInt < ((X.1 p0 3)).toInt) (fx_t_ge q3) ?_
        show fx_W _ _ _ 68 lv [] _ _
        refine fx_n (pc' := 69) (lv' := lv) (st' := [.int (Int32.ofInt 0)]) aj_d139 rfl (Nat.le_succ _) (fun _ => rfl) ?_
        refine fx_s0 (j := 4) aj_d139 rfl (Nat.le_succ _) (by decide) (fun _ => rfl) ?_
        obtain ⟨lv4, elv4⟩ : ∃ l, l = aj_set1 lv 4 (.int (Int32.ofInt 0)) := ⟨_, rfl⟩
        rw [← elv4]
        have hlv4_0 : aj_lv lv4 0 = some (.ref p0) := fx_e1 elv4 hlv_0 (by decide) (Or.inl (by decide))
        have hlv4_1 : aj_lv lv4 1 = some (.int p1) := fx_e1 elv4 hlv_1 (by decide) (Or.inl (by decide))
        have hlv4_2 : aj_lv lv4 2 = some (.int p2) := fx_e1 elv4 hlv_2 (by decide) (Or.inl (by decide))
        have hlv4_3 : aj_lv lv4 3 = some (.int p3) := fx_e1 elv4 hlv_3 (by decide) (Or.inr rfl)
        have hlv4_4 : aj_lv lv4 4 = some (.int (Int32.ofInt 0)) := by rw [elv4]; exact ak_set1_eq _ _ _
        show fx_W _ _ _ 71 lv4 [] _ _
        exact (ih.2) lv4 ((Int32.ofInt 0)) X  hlv4_0 hlv4_1 hlv4_2 hlv4_3 hlv4_4
      · skip
        refine fx_qi (c := (y4).toInt < ((X.1 p0 3)).toInt) (fx_f_ge q3) ?_
        show fx_W _ _ _ 12 lv [] _ _
        refine fx_i2 aj_d139 rfl (Nat.le_succ _) (fun _ => rfl) hlv_0 ?_
        refine fx_i0 aj_d139 rfl (Nat.le_succ _) (fun _ => rfl) hlv_1 ?_
        refine fx_i0 aj_d139 rfl (Nat.le_succ _) (fun _ => rfl) hlv_4 ?_
        refine fx_cv aj_d139 rfl (Nat.le_succ _) rfl [_, _] rfl rfl (gx_104_ok p0 p1 y4) ?_
        rintro _ X5 ⟨w6, rfl, hR5⟩ hok5 hle5
        refine fx_qc hR5 ?_
        show fx_W _ _ _ 19 lv [.int w6] _ _
        refine fx_s0 (j := 5) aj_d139 rfl (Nat.le_succ _) (by decide) (fun _ => rfl) ?_
        obtain ⟨lv7, elv7⟩ : ∃ l, l = aj_set1 lv 5 (.int w6) := ⟨_, rfl⟩
        rw [← elv7]
        have hlv7_0 : aj_lv lv7 0 = some (.ref p0) := fx_e1 elv7 hlv_0 (by decide) (Or.inl (by decide))
        have hlv7_1 : aj_lv lv7 1 = some (.int p1) := fx_e1 elv7 hlv_1 (by decide) (Or.inl (by decide))
        have hlv7_2 : aj_lv lv7 2 = some (.int p2) := fx_e1 elv7 hlv_2 (by decide) (Or.inl (by decide))
        have hlv7_3 : aj_lv lv7 3 = some (.int p3) := fx_e1 elv7 hlv_3 (by decide) (Or.inl (by decide))
        have hlv7_4 : aj_lv lv7 4 = some (.int y4) := fx_e1 elv7 hlv_4 (by decide) (Or.inr rfl)
        have hlv7_5 : aj_lv lv7 5 = some (.int w6) := by rw [elv7]; exact ak_set1_eq _ _ _
        show fx_W _ _ _ 21 lv7 [] _ _
        refine fx_i2 aj_d139 rfl (Nat.le_succ _) (fun _ => rfl) hlv7_0 ?_
        refine fx_i0 aj_d139 rfl (Nat.le_succ _) (fun _ => rfl) hlv7_1 ?_
        refine fx_i0 aj_d139 rfl (Nat.le_succ _) (fun _ => rfl) hlv7_4 ?_
        refine fx_cv aj_d139 rfl (Nat.le_succ _) rfl [_, _] rfl rfl (gx_103_ok p0 p1 y4) ?_
        rintro _ X8 ⟨w9, rfl, hR8⟩ hok8 hle8
        refine fx_qc hR8 ?_
        show fx_W _ _ _ 28 lv7 [.int w9] _ _
        refine fx_s0 (j := 6) aj_d139 rfl (Nat.le_succ _) (by decide) (fun _ => rfl) ?_
        obtain ⟨lv10, elv10⟩ : ∃ l, l = aj_set1 lv7 6 (.int w9) := ⟨_, rfl⟩
        rw [← elv10]
        have hlv10_0 : aj_lv lv10 0 = some (.ref p0) := fx_e1 elv10 hlv7_0 (by decide) (Or.inl (by decide))
        have hlv10_1 : aj_lv lv10 1 = some (.int p1) := fx_e1 elv10 hlv7_1 (by decide) (Or.inl (by decide))
        have hlv10_2 : aj_lv lv10 2 = some (.int p2) := fx_e1 elv10 hlv7_2 (by decide) (Or.inl (by decide))
        have hlv10_3 : aj_lv lv10 3 = some (.int p3) := fx_e1 elv10 hlv7_3 (by decide) (Or.inl (by decide))
        have hlv10_4 : aj_lv lv10 4 = some (.int y4) := fx_e1 elv10 hlv7_4 (by decide) (Or.inl (by decide))
        have hlv10_5 : aj_lv lv10 5 = some (.int w6) := fx_e1 elv10 hlv7_5 (by decide) (Or.inr rfl)
        have hlv10_6 : aj_lv lv10 6 = some (.int w9) := by rw [elv10]; exact ak_set1_eq _ _ _
        show fx_W _ _ _ 30 lv10 [] _ _
        refine fx_i2 aj_d139 rfl (Nat.le_succ _) (fun _ => rfl) hlv10_0 ?_
        refine fx_i0 aj_d139 rfl (Nat.le_succ _) (fun _ => rfl) hlv10_1 ?_
        refine fx_i0 aj_d139 rfl (Nat.le_succ _) (fun _ => rfl) hlv10_4 ?_
        refine fx_i2 aj_d139 rfl (Nat.le_succ _) (fun _ => rfl) hlv10_0 ?_
        refine fx_i0 aj_d139 rfl (Nat.le_succ _) (fun _ => rfl) hlv10_2 ?_
        refine fx_i0 aj_d139 rfl (Nat.le_succ _) (fun _ => rfl) hlv10_4 ?_
        refine fx_cv aj_d139 rfl (Nat.le_succ _) rfl [_, _] rfl rfl (gx_103_ok p0 p2 y4) ?_
        rintro _ X11 ⟨w12, rfl, hR11⟩ hok11 hle11
        refine fx_qc hR11 ?_
        show fx_W _ _ _ 41 lv10 [.int w12, .int y4, .int p1, .ref p0] _ _
        refine fx_i2 aj_d139 rfl (Nat.le_succ _) (fun _ => rfl) hlv10_0 ?_
        refine fx_i0 aj_d139 rfl (Nat.le_succ _) (fun _ => rfl) hlv10_2 ?_
        refine fx_i0 aj_d139 rfl (Nat.le_succ _) (fun _ => rfl) hlv10_4 ?_
        refine fx_cv aj_d139 rfl (Nat.le_succ _) rfl [_, _] rfl rfl (gx_104_ok p0 p2 y4) ?_
        rintro _ X13 ⟨w14, rfl, hR13⟩ hok13 hle13
        refine fx_qc hR13 ?_
        show fx_W _ _ _ 48 lv10 [.int w14, .int w12, .int y4, .int p1, .ref p0] _ _
        refine fx_cv aj_d139 rfl (Nat.le_succ _) rfl [_, _, _, _] rfl rfl (gx_105_ok p0 p1 y4 w12 w14) ?_
        rintro _ X15 ⟨w16, rfl, hR15⟩ hok15 hle15
        refine fx_qc hR15 ?_
        show fx_W _ _ _ 51 lv10 [] _ _
        refine fx_i2 aj_d139 rfl (Nat.le_succ _) (fun _ => rfl) hlv10_0 ?_
        refine fx_i0 aj_d139 rfl (Nat.le_succ _) (fun _ => rfl) hlv10_2 ?_
        refine fx_i0 aj_d139 rfl (Nat.le_succ _) (fun _ => rfl) hlv10_4 ?_
        refine fx_i0 aj_d139 rfl (Nat.le_succ _) (fun _ => rfl) hlv10_6 ?_
        refine fx_i0 aj_d139 rfl (Nat.le_succ _) (fun _ => rfl) hlv10_5 ?_
        refine fx_cv aj_d139 rfl (Nat.le_succ _) rfl [_, _, _, _] rfl rfl (gx_105_ok p0 p2 y4 w9 w6) ?_
        rintro _ X17 ⟨w18, rfl, hR17⟩ hok17 hle17
        refine fx_qc hR17 ?_
        show fx_W _ _ _ 62 lv10 [] _ _
        refine fx_incq aj_d139 rfl (Nat.le_succ _) hlv10_4 (by decide) (fun x19 ex19 => ?_)
        obtain ⟨lv20, elv20⟩ : ∃ l, l = aj_set1 lv10 4 (.int x19) := ⟨_, rfl⟩
        rw [← elv20]
        have hlv20_0 : aj_lv lv20 0 = some (.ref p0) := fx_e1 elv20 hlv10_0 (by decide) (Or.inl (by decide))
        have hlv20_1 : aj_lv lv20 1 = some (.int p1) := fx_e1 elv20 hlv10_1 (by decide) (Or.inl (by decide))
        have hlv20_2 : aj_lv lv20 2 = some (.int p2) := fx_e1 elv20 hlv10_2 (by decide) (Or.inl (by decide))
        have hlv20_3 : aj_lv lv20 3 = some (.int p3) := fx_e1 elv20 hlv10_3 (by decide) (Or.inr rfl)
        have hlv20_4 : aj_lv lv20 4 = some (.int x19) := by rw [elv20]; exact ak_set1_eq _ _ _
        show fx_W _ _ _ 65 lv20 [] _ _
        refine fx_n (pc' := 3) (lv' := lv20) (st' := []) aj_d139 rfl (Nat.le_succ _) (fun _ => rfl) ?_
        exact (ih.1) lv20 (x19) X17  hlv20_0 hlv20_1 hlv20_2 hlv20_3 hlv20_4
    · intro lv y4 X hlv_0 hlv_1 hlv_2 hlv_3 hlv_4
      refine fx_mono (Q := fx_Q fx_qN (fun v X' => ∃ n : Nat, gxT_139_71 p0 p1 p2 p3 (gxF_139 p0 p1 p2 p3 n) y4 X v X')) (fun r X' ⟨v, e, n, z⟩ => ⟨v, e, n + 1, gxI_139_71 z⟩) ?_
      unfold gxT_139_71
      refine fx_i0 aj_d139 rfl (Nat.le_refl _) (fun _ => rfl) hlv_4 ?_
      refine fx_i0 aj_d139 rfl (Nat.le_succ _) (fun _ => rfl) hlv_3 ?_
      refine fx_b (tgt := 135) aj_d139 rfl (Nat.le_succ _) rfl (fun q21 => ?_) (fun q21 => ?_)
      · skip
        refine fx_qe (c := (y4).toInt < (p3).toInt) (fx_t_ge q21) ?_
        show fx_W _ _ _ 135 lv [] _ _
        exact fx_rn aj_d139 rfl ⟨(), rfl, 0, rfl⟩
      · skip
        refine fx_qi (c := (y4).toInt < (p3).toInt) (fx_f_ge q21) ?_
        show fx_W _ _ _ 77 lv [] _ _
        refine fx_i0 aj_d139 rfl (Nat.le_succ _) (fun _ => rfl) hlv_4 ?_
        refine fx_i2 aj_d139 rfl (Nat.le_succ _) (fun _ => rfl) hlv_0 ?_
        refine fx_gF aj_d139 rfl (Nat.le_succ _) rfl rfl fx_in_6_2 (t := (p0 + 3)) rfl (fun hA22 => ?_)
        refine fx_al aj_d139 rfl (Nat.le_succ _) ?_
        rw [(hA22 : X.2.2.2.1 (p0 + 3) = (0, 1024))]
        show fx_W _ _ _ 84 lv [.int (Int32.ofNat 1024), .int y4] _ _
        refine fx_b (tgt := 135) aj_d139 rfl (Nat.le_succ _) rfl (fun q23 => ?_) (fun q23 => ?_)
        · skip
          refine fx_qe (c := (y4).toInt < 1024) (fx_t_ge q23) ?_
          show fx_W _ _ _ 135 lv [] _ _
          exact fx_rn aj_d139 rfl ⟨(), rfl, 0, rfl⟩
        · skip
          refine fx_qi (c := (y4).toInt < 1024) (fx_f_ge q23) ?_
          show fx_W _ _ _ 87 lv [] _ _
          refine fx_i2 aj_d139 rfl (Nat.le_succ _) (fun _ => rfl) hlv_0 ?_
          refine fx_gF aj_d139 rfl (Nat.le_succ _) rfl rfl fx_in_6_2 (t := (p0 + 3)) rfl (fun hA24 => ?_)
          refine fx_i0 aj_d139 rfl (Nat.le_succ _) (fun _ => rfl) hlv_4 ?_
          refine fx_ld aj_d139 (Or.inl rfl) rfl (Nat.le_succ _) (fun g250 g251 => ?_)
          show fx_W _ _ _ 94 lv [.int (X.1 (p0 + 3) (y4).toInt.toNat)] _ _
          refine fx_qa (c := 0 ≤ (y4).toInt ∧ (y4).toInt < ((1024 : Nat) : Int)) ⟨g250, fx_lnk g251 hA24⟩ ?_
          refine fx_i0 aj_d139 rfl (Nat.le_succ _) (fun _ => rfl) hlv_1 ?_
          refine fx_n (pc' := 96) (lv' := lv) (st' := [.int ((X.1 (p0 + 3) (y4).toInt.toNat) >>> (p1 &&& 31))]) aj_d139 rfl (Nat.le_succ _) (fun _ => rfl) ?_
          refine fx_i2 aj_d139 rfl (Nat.le_succ _) (fun _ => rfl) hlv_0 ?_
          refine fx_gF aj_d139 rfl (Nat.le_succ _) rfl rfl fx_in_6_2 (t := (p0 + 3)) rfl (fun hA26 => ?_)
          refine fx_i0 aj_d139 rfl (Nat.le_succ _) (fun _ => rfl) hlv_4 ?_
          refine fx_ld aj_d139 (Or.inl rfl) rfl (Nat.le_succ _) (fun g270 g271 => ?_)
          show fx_W _ _ _ 103 lv [.int (X.1 (p0 + 3) (y4).toInt.toNat), .int ((X.1 (p0 + 3) (y4).toInt.toNat) >>> (p1 &&& 31))] _ _
          refine fx_qa (c := 0 ≤ (y4).toInt ∧ (y4).toInt < ((1024 : Nat) : Int)) ⟨g270, fx_lnk g271 hA26⟩ ?_
          refine fx_i0 aj_d139 rfl (Nat.le_succ _) (fun _ => rfl) hlv_2 ?_
          refine fx_n (pc' := 105) (lv' := lv) (st' := [.int ((X.1 (p0 + 3) (y4).toInt.toNat) >>> (p2 &&& 31)), .int ((X.1 (p0 + 3) (y4).toInt.toNat) >>> (p1 &&& 31))]) aj_d139 rfl (Nat.le_succ _) (fun _ => rfl) ?_
          refine fx_n (pc' := 106) (lv' := lv) (st' := [.int (((X.1 (p0 + 3) (y4).toInt.toNat) >>> (p1 &&& 31)) ^^^ ((X.1 (p0 + 3) (y4).toInt.toNat) >>> (p2 &&& 31)))]) aj_d139 rfl (Nat.le_succ _) (fun _ => rfl) ?_
          refine fx_n (pc' := 107) (lv' := lv) (st' := [.int (Int32.ofInt 1), .int (((X.1 (p0 + 3) (y4).toInt.toNat) >>> (p1 &&& 31)) ^^^ ((X.1 (p0 + 3) (y4).toInt.toNat) >>> (p2 &&& 31)))]) aj_d139 rfl (Nat.le_succ _) (fun _ => rfl) ?_
          refine fx_n (pc' := 108) (lv' := lv) (st' := [.int ((((X.1 (p0 + 3) (y4).toInt.toNat) >>> (p1 &&& 31)) ^^^ ((X.1 (p0 + 3) (y4).toInt.toNat) >>> (p2 &&& 31))) &&& (Int32.ofInt 1))]) aj_d139 rfl (Nat.le_succ _) (fun _ => rfl) ?_
          refine fx_qxI (fun x28 ex28 => ?_)
          refine fx_s0 (j := 5) aj_d139 rfl (Nat.le_succ _) (by decide) (fun _ => rfl) ?_
          obtain ⟨lv29, elv29⟩ : ∃ l, l = aj_set1 lv 5 (.int x28) := ⟨_, rfl⟩
          rw [← elv29]
          have hlv29_0 : aj_lv lv29 0 = some (.ref p0) := fx_e1 elv29 hlv_0 (by decide) (Or.inl (by decide))
          have hlv29_1 : aj_lv lv29 1 = some (.int p1) := fx_e1 elv29 hlv_1 (by decide) (Or.inl (by decide))
          have hlv29_2 : aj_lv lv29 2 = some (.int p2) := fx_e1 elv29 hlv_2 (by decide) (Or.inl (by decide))
          have hlv29_3 : aj_lv lv29 3 = some (.int p3) := fx_e1 elv29 hlv_3 (by decide) (Or.inl (by decide))
          have hlv29_4 : aj_lv lv29 4 = some (.int y4) := fx_e1 elv29 hlv_4 (by decide) (Or.inr rfl)
          have hlv29_5 : aj_lv lv29 5 = some (.int x28) := by rw [elv29]; exact ak_set1_eq _ _ _
          show fx_W _ _ _ 110 lv29 [] _ _
          refine fx_i2 aj_d139 rfl (Nat.le_succ _) (fun _ => rfl) hlv29_0 ?_
          refine fx_gF aj_d139 rfl (Nat.le_succ _) rfl rfl fx_in_6_2 (t := (p0 + 3)) rfl (fun hA30 => ?_)
          refine fx_i0 aj_d139 rfl (Nat.le_succ _) (fun _ => rfl) hlv29_4 ?_
          refine fx_n (pc' := 117) (lv' := lv29) (st' := [.int y4, .ref (p0 + 3), .int y4, .ref (p0 + 3)]) aj_d139 rfl (Nat.le_succ _) (fun _ => rfl) ?_
          refine fx_ld aj_d139 (Or.inl rfl) rfl (Nat.le_succ _) (fun g310 g311 => ?_)
          show fx_W _ _ _ 118 lv29 [.int (X.1 (p0 + 3) (y4).toInt.toNat), .int y4, .ref (p0 + 3)] _ _
          refine fx_qa (c := 0 ≤ (y4).toInt ∧ (y4).toInt < ((1024 : Nat) : Int)) ⟨g310, fx_lnk g311 hA30⟩ ?_
          refine fx_i0 aj_d139 rfl (Nat.le_succ _) (fun _ => rfl) hlv29_5 ?_
          refine fx_i0 aj_d139 rfl (Nat.le_succ _) (fun _ => rfl) hlv29_1 ?_
          refine fx_n (pc' := 122) (lv' := lv29) (st' := [.int (x28 <<< (p1 &&& 31)), .int (X.1 (p0 + 3) (y4).toInt.toNat), .int y4, .ref (p0 + 3)]) aj_d139 rfl (Nat.le_succ _) (fun _ => rfl) ?_
          refine fx_i0 aj_d139 rfl (Nat.le_succ _) (fun _ => rfl) hlv29_5 ?_
          refine fx_i0 aj_d139 rfl (Nat.le_succ _) (fun _ => rfl) hlv29_2 ?_
          refine fx_n (pc' := 126) (lv' := lv29) (st' := [.int (x28 <<< (p2 &&& 31)), .int (x28 <<< (p1 &&& 31)), .int (X.1 (p0 + 3) (y4).toInt.toNat), .int y4, .ref (p0 + 3)]) aj_d139 rfl (Nat.le_succ _) (fun _ => rfl) ?_
          refine fx_n (pc' := 127) (lv' := lv29) (st' := [.int ((x28 <<< (p1 &&& 31)) ||| (x28 <<< (p2 &&& 31))), .int (X.1 (p0 + 3) (y4).toInt.toNat), .int y4, .ref (p0 + 3)]) aj_d139 rfl (Nat.le_succ _) (fun _ => rfl) ?_
          refine fx_n (pc' := 128) (lv' := lv29) (st' := [.int ((X.1 (p0 + 3) (y4).toInt.toNat) ^^^ ((x28 <<< (p1 &&& 31)) ||| (x28 <<< (p2 &&& 31)))), .int y4, .ref (p0 + 3)]) aj_d139 rfl (Nat.le_succ _) (fun _ => rfl) ?_
          refine fx_st aj_d139 (Or.inl ⟨rfl, rfl⟩) rfl (Nat.le_succ _) (fun g320 g321 => ?_)
          show fx_W _ _ _ _ _ _ (fx_wI X (p0 + 3) (y4).toInt.toNat ((X.1 (p0 + 3) (y4).toInt.toNat) ^^^ ((x28 <<< (p1 &&& 31)) ||| (x28 <<< (p2 &&& 31))))) _
          refine fx_qa (c := 0 ≤ (y4).toInt ∧ (y4).toInt < ((1024 : Nat) : Int)) ⟨g320, fx_lnk g321 hA30⟩ ?_
          refine fx_qX (fun X33 eX33 => ?_)
          show fx_W _ _ _ 129 lv29 [] _ _
          refine fx_incq aj_d139 rfl (Nat.le_succ _) hlv29_4 (by decide) (fun x34 ex34 => ?_)
          obtain ⟨lv35, elv35⟩ : ∃ l, l = aj_set1 lv29 4 (.int x34) := ⟨_, rfl⟩
          rw [← elv35]
          have hlv35_0 : aj_lv lv35 0 = some (.ref p0) := fx_e1 elv35 hlv29_0 (by decide) (Or.inl (by decide))
          have hlv35_1 : aj_lv lv35 1 = some (.int p1) := fx_e1 elv35 hlv29_1 (by decide) (Or.inl (by decide))
          have hlv35_2 : aj_lv lv35 2 = some (.int p2) := fx_e1 elv35 hlv29_2 (by decide) (Or.inl (by decide))
          have hlv35_3 : aj_lv lv35 3 = some (.int p3) := fx_e1 elv35 hlv29_3 (by decide) (Or.inr rfl)
          have hlv35_4 : aj_lv lv35 4 = some (.int x34) := by rw [elv35]; exact ak_set1_eq _ _ _
          show fx_W _ _ _ 132 lv35 [] _ _
          refine fx_n (pc' := 71) (lv' := lv35) (st' := []) aj_d139 rfl (Nat.le_succ _) (fun _ => rfl) ?_
          exact (ih.2) lv35 (x34) X33  hlv35_0 hlv35_1 hlv35_2 hlv35_3 hlv35_4
theorem gx_139_ok {tb : aj_T} (p0 : Nat) (p1 : Int32) (p2 : Int32) (p3 : Int32) {X : fx_X} : fx_K tb 139 [.ref p0, .int p1, .int p2, .int p3] X (fx_Q fx_qN (fun v X' => gx_139 p0 p1 p2 p3 X v X')) := by
  refine fx_m aj_m139_at rfl (fun N => ?_)
  refine fx_mono (Q := fx_Q fx_qN (fun v X' => ∃ n : Nat, gxE_139 p0 p1 p2 p3 (gxF_139 p0 p1 p2 p3 n) X v X')) (fun r X' h => h) ?_
  unfold gxE_139
  show fx_W _ _ _ 0 [(0, .ref p0), (1, .int p1), (2, .int p2), (3, .int p3)] [] _ _
  obtain ⟨lv1, elv1⟩ : ∃ l : aj_V, l = [(0, .ref p0), (1, .int p1), (2, .int p2), (3, .int p3)] := ⟨_, rfl⟩
  rw [← elv1]
  have hlv1_0 : aj_lv lv1 0 = some (.ref p0) := by rw [elv1]; rfl
  have hlv1_1 : aj_lv lv1 1 = some (.int p1) := by rw [elv1]; rfl
  have hlv1_2 : aj_lv lv1 2 = some (.int p2) := by rw [elv1]; rfl
  have hlv1_3 : aj_lv lv1 3 = some (.int p3) := by rw [elv1]; rfl
  refine fx_n (pc' := 1) (lv' := lv1) (st' := [.int (Int32.ofInt 0)]) aj_d139 rfl (Nat.le_succ _) (fun _ => rfl) ?_
  refine fx_s0 (j := 4) aj_d139 rfl (Nat.le_succ _) (by decide) (fun _ => rfl) ?_
  obtain ⟨lv2, elv2⟩ : ∃ l, l = aj_set1 lv1 4 (.int (Int32.ofInt 0)) := ⟨_, rfl⟩
  rw [← elv2]
  have hlv2_0 : aj_lv lv2 0 = some (.ref p0) := fx_e1 elv2 hlv1_0 (by decide) (Or.inl (by decide))
  have hlv2_1 : aj_lv lv2 1 = some (.int p1) := fx_e1 elv2 hlv1_1 (by decide) (Or.inl (by decide))
  have hlv2_2 : aj_lv lv2 2 = some (.int p2) := fx_e1 elv2 hlv1_2 (by decide) (Or.inl (by decide))
  have hlv2_3 : aj_lv lv2 3 = some (.int p3) := fx_e1 elv2 hlv1_3 (by decide) (Or.inr rfl)
  have hlv2_4 : aj_lv lv2 4 = some (.int (Int32.ofInt 0)) := by rw [elv2]; exact ak_set1_eq _ _ _
  show fx_W _ _ _ 3 lv2 [] _ _
  exact ((gxL_139 p0 p1 p2 p3 N).1) lv2 ((Int32.ofInt 0)) X  hlv2_0 hlv2_1 hlv2_2 hlv2_3 hlv2_4
def gxT_130_3 (p0 : Nat) (p1 : Nat) (p2 : Int32) (p3 : Int32) (p4 : Nat) (p5 : Int32) (p6 : Int32) (P : Nat → List Int32 → List Int64 → List Nat → fx_X → Int32 → fx_X → Prop) (y7 : Int32) (X : fx_X) (v : Int32) (X' : fx_X) : Prop :=
  (if (y7).toInt < ((X.1 p0 3)).toInt then (∃ (w5 : Int32) (X4 : fx_X), gx_114_2 p0 p1 p2 y7 p3 X w5 X4 ∧ ∃ (w8 : Int32) (X7 : fx_X), gx_114_2 p4 p1 p5 y7 p6 X4 w8 X7 ∧ (if (w5).toInt = (w8).toInt then (∃ x11 : Int32, x11 = y7 + Int32.ofInt 1 ∧ P 3 [x11] [] [] X7 v X') else ((if (w5).toInt < (w8).toInt then (v = (Int32.ofInt (-1)) ∧ X' = X7) else (v = (Int32.ofInt 1) ∧ X' = X7))))) else (v = (Int32.ofInt 0) ∧ X' = X))
def gxE_130 (p0 : Nat) (p1 : Nat) (p2 : Int32) (p3 : Int32) (p4 : Nat) (p5 : Int32) (p6 : Int32) (P : Nat → List Int32 → List Int64 → List Nat → fx_X → Int32 → fx_X → Prop) (X : fx_X) (v : Int32) (X' : fx_X) : Prop :=
  P 3 [(Int32.ofInt 0)] [] [] X v X'
noncomputable def gxF_130 (p0 : Nat) (p1 : Nat) (p2 : Int32) (p3 : Int32) (p4 : Nat) (p5 : Int32) (p6 : Int32) (n : Nat) : Nat → List Int32 → List Int64 → List Nat → fx_X → Int32 → fx_X → Prop := Nat.rec (motive := fun _ => Nat → List Int32 → List Int64 → List Nat → fx_X → Int32 → fx_X → Prop) (fun _ _ _ _ _ _ _ => False) (fun _ P l is ls rs X v X' => (l = 3 ∧ ∃ (y7 : Int32), is = [y7] ∧ ls = [] ∧ rs = [] ∧ gxT_130_3 p0 p1 p2 p3 p4 p5 p6 P y7 X v X')) n
theorem gxI_130_3 {p0 : Nat} {p1 : Nat} {p2 : Int32} {p3 : Int32} {p4 : Nat} {p5 : Int32} {p6 : Int32} {n : Nat} {y7 : Int32} {X : fx_X} {v : Int32} {X' : fx_X} (h : gxT_130_3 p0 p1 p2 p3 p4 p5 p6 (gxF_130 p0 p1 p2 p3 p4 p5 p6 n) y7 X v X') : gxF_130 p0 p1 p2 p3 p4 p5 p6 (n + 1) 3 [y7] [] [] X v X' := ⟨rfl, y7, rfl, rfl, rfl, h⟩
theorem gxO_130_3 {p0 : Nat} {p1 : Nat} {p2 : Int32} {p3 : Int32} {p4 : Nat} {p5 : Int32} {p6 : Int32} {n : Nat} {y7 : Int32} {X : fx_X} {v : Int32} {X' : fx_X} (h : gxF_130 p0 p1 p2 p3 p4 p5 p6 (n + 1) 3 [y7] [] [] X v X') : gxT_130_3 p0 p1 p2 p3 p4 p5 p6 (gxF_130 p0 p1 p2 p3 p4 p5 p6 n) y7 X v X' := by
  rcases h with ⟨-, _, e1, e2, e3, h⟩
  · cases e1; cases e2; cases e3; exact h
def gx_130 (p0 : Nat) (p1 : Nat) (p2 : Int32) (p3 : Int32) (p4 : Nat) (p5 : Int32) (p6 : Int32) (X : fx_X) (v : Int32) (X' : fx_X) : Prop := ∃ n : Nat, gxE_130 p0 p1 p2 p3 p4 p5 p6 (gxF_130 p0 p1 p2 p3 p4 p5 p6 n) X v X'
theorem gxL_130 {tb : aj_T} (p0 : Nat) (p1 : Nat) (p2 : Int32) (p3 : Int32) (p4 : Nat) (p5 : Int32) (p6 : Int32) : ∀ N : Nat, (∀ (lv : aj_V) (y7 : Int32) (X : fx_X), aj_lv lv 0 = some (.ref p0) → aj_lv lv 1 = some (.ref p1) → aj_lv lv 2 = some (.int p2) → aj_lv lv 3 = some (.int p3) → aj_lv lv 4 = some (.ref p4) → aj_lv lv 5 = some (.int p5) → aj_lv lv 6 = some (.int p6) → aj_lv lv 7 = some (.int y7) → fx_W tb aj_m130 N 3 lv [] X (fx_Q fx_qI (fun v X' => ∃ n : Nat, gxF_130 p0 p1 p2 p3 p4 p5 p6 n 3 [y7] [] [] X v X'))) := by
  intro N
  induction N with
  | zero => exact (by intros; exact fx_z)
  | succ N ih =>
    skip
    · intro lv y7 X hlv_0 hlv_1 hlv_2 hlv_3 hlv_4 hlv_5 hlv_6 hlv_7
      refine fx_mono (Q := fx_Q fx_qI (fun v X' => ∃ n : Nat, gxT_130_3 p0 p1 p2 p3 p4 p5 p6 (gxF_130 p0 p1 p2 p3 p4 p5 p6 n) y7 X v X')) (fun r X' ⟨v, e, n, z⟩ => ⟨v, e, n + 1, gxI_130_3 z⟩) ?_
      unfold gxT_130_3
      refine fx_i0 aj_d130 rfl (Nat.le_refl _) (fun _ => rfl) hlv_7 ?_
      refine fx_i2 aj_d130 rfl (Nat.le_succ _) (fun _ => rfl) hlv_0 ?_
      refine fx_gI aj_d130 rfl (Nat.le_succ _) rfl rfl (Or.inl rfl) ?_
      refine fx_b (tgt := 63) aj_d130 rfl (Nat.le_succ _) rfl (fun q3 => ?_) (fun q3 => ?_)
      · skip
        refine fx_qe (c := (y7).toInt < ((X.1 p0 3)).toInt) (fx_t_ge q3) ?_
        show fx_W _ _ _ 63 lv [] _ _
        refine fx_n (pc' := 64) (lv' := lv) (st' := [.int (Int32.ofInt 0)]) aj_d130 rfl (Nat.le_succ _) (fun _ => rfl) ?_
        exact fx_ri aj_d130 rfl ⟨_, rfl, 0, rfl, rfl⟩
      · skip
        refine fx_qi (c := (y7).toInt < ((X.1 p0 3)).toInt) (fx_f_ge q3) ?_
        show fx_W _ _ _ 12 lv [] _ _
        refine fx_i2 aj_d130 rfl (Nat.le_succ _) (fun _ => rfl) hlv_0 ?_
        refine fx_i2 aj_d130 rfl (Nat.le_succ _) (fun _ => rfl) hlv_1 ?_
        refine fx_i0 aj_d130 rfl (Nat.le_succ _) (fun _ => rfl) hlv_2 ?_
        refine fx_i0 aj_d130 rfl (Nat.le_succ _) (fun _ => rfl) hlv_7 ?_
        refine fx_i0 aj_d130 rfl (Nat.le_succ _) (fun _ => rfl) hlv_3 ?_
        refine fx_cv aj_d130 rfl (Nat.le_succ _) rfl [_, _, _, _] rfl rfl (gx_114_2_ok p0 p1 p2 y7 p3) ?_
        rintro _ X4 ⟨w5, rfl, hR4⟩ hok4 hle4
        refine fx_qc hR4 ?_
        show fx_W _ _ _ 21 lv [.int w5] _ _
        refine fx_s0 (j := 8) aj_d130 rfl (Nat.le_succ _) (by decide) (fun _ => rfl) ?_
        obtain ⟨lv6, elv6⟩ : ∃ l, l = aj_set1 lv 8 (.int w5) := ⟨_, rfl⟩
        rw [← elv6]
        have hlv6_0 : aj_lv lv6 0 = some (.ref p0) := fx_e1 elv6 hlv_0 (by decide) (Or.inl (by decide))
        have hlv6_1 : aj_lv lv6 1 = some (.ref p1) := fx_e1 elv6 hlv_1 (by decide) (Or.inl (by decide))
        have hlv6_2 : aj_lv lv6 2 = some (.int p2) := fx_e1 elv6 hlv_2 (by decide) (Or.inl (by decide))
        have hlv6_3 : aj_lv lv6 3 = some (.int p3) := fx_e1 elv6 hlv_3 (by decide) (Or.inl (by decide))
        have hlv6_4 : aj_lv lv6 4 = some (.ref p4) := fx_e1 elv6 hlv_4 (by decide) (Or.inl (by decide))
        have hlv6_5 : aj_lv lv6 5 = some (.int p5) := fx_e1 elv6 hlv_5 (by decide) (Or.inl (by decide))
        have hlv6_6 : aj_lv lv6 6 = some (.int p6) := fx_e1 elv6 hlv_6 (by decide) (Or.inl (by decide))
        have hlv6_7 : aj_lv lv6 7 = some (.int y7) := fx_e1 elv6 hlv_7 (by decide) (Or.inr rfl)
        have hlv6_8 : aj_lv lv6 8 = some (.int w5) := by rw [elv6]; exact ak_set1_eq _ _ _
        show fx_W _ _ _ 23 lv6 [] _ _
        refine fx_i2 aj_d130 rfl (Nat.le_succ _) (fun _ => rfl) hlv6_4 ?_
        refine fx_i2 aj_d130 rfl (Nat.le_succ _) (fun _ => rfl) hlv6_1 ?_
        refine fx_i0 aj_d130 rfl (Nat.le_succ _) (fun _ => rfl) hlv6_5 ?_
        refine fx_i0 aj_d130 rfl (Nat.le_succ _) (fun _ => rfl) hlv6_7 ?_
        refine fx_i0 aj_d130 rfl (Nat.le_succ _) (fun _ => rfl) hlv6_6 ?_
        refine fx_cv aj_d130 rfl (Nat.le_succ _) rfl [_, _, _, _] rfl rfl (gx_114_2_ok p4 p1 p5 y7 p6) ?_
        rintro _ X7 ⟨w8, rfl, hR7⟩ hok7 hle7
        refine fx_qc hR7 ?_
        show fx_W _ _ _ 35 lv6 [.int w8] _ _
        refine fx_s0 (j := 9) aj_d130 rfl (Nat.le_succ _) (by decide) (fun _ => rfl) ?_
        obtain ⟨lv9, elv9⟩ : ∃ l, l = aj_set1 lv6 9 (.int w8) := ⟨_, rfl⟩
        rw [← elv9]
        have hlv9_0 : aj_lv lv9 0 = some (.ref p0) := fx_e1 elv9 hlv6_0 (by decide) (Or.inl (by decide))
        have hlv9_1 : aj_lv lv9 1 = some (.ref p1) := fx_e1 elv9 hlv6_1 (by decide) (Or.inl (by decide))
        have hlv9_2 : aj_lv lv9 2 = some (.int p2) := fx_e1 elv9 hlv6_2 (by decide) (Or.inl (by decide))
        have hlv9_3 : aj_lv lv9 3 = some (.int p3) := fx_e1 elv9 hlv6_3 (by decide) (Or.inl (by decide))
        have hlv9_4 : aj_lv lv9 4 = some (.ref p4) := fx_e1 elv9 hlv6_4 (by decide) (Or.inl (by decide))
        have hlv9_5 : aj_lv lv9 5 = some (.int p5) := fx_e1 elv9 hlv6_5 (by decide) (Or.inl (by decide))
        have hlv9_6 : aj_lv lv9 6 = some (.int p6) := fx_e1 elv9 hlv6_6 (by decide) (Or.inl (by decide))
        have hlv9_7 : aj_lv lv9 7 = some (.int y7) := fx_e1 elv9 hlv6_7 (by decide) (Or.inl (by decide))
        have hlv9_8 : aj_lv lv9 8 = some (.int w5) := fx_e1 elv9 hlv6_8 (by decide) (Or.inr rfl)
        have hlv9_9 : aj_lv lv9 9 = some (.int w8) := by rw [elv9]; exact ak_set1_eq _ _ _
        show fx_W _ _ _ 37 lv9 [] _ _
        refine fx_i0 aj_d130 rfl (Nat.le_succ _) (fun _ => rfl) hlv9_8 ?_
        refine fx_i0 aj_d130 rfl (Nat.le_succ _) (fun _ => rfl) hlv9_9 ?_
        refine fx_b (tgt := 57) aj_d130 rfl (Nat.le_succ _) rfl (fun q10 => ?_) (fun q10 => ?_)
        · skip
          refine fx_qi (c := (w5).toInt = (w8).toInt) (fx_t_eq q10) ?_
          show fx_W _ _ _ 57 lv9 [] _ _
          refine fx_incq aj_d130 rfl (Nat.le_succ _) hlv9_7 (by decide) (fun x11 ex11 => ?_)
          obtain ⟨lv12, elv12⟩ : ∃ l, l = aj_set1 lv9 7 (.int x11) := ⟨_, rfl⟩
          rw [← elv12]
          have hlv12_0 : aj_lv lv12 0 = some (.ref p0) := fx_e1 elv12 hlv9_0 (by decide) (Or.inl (by decide))
          have hlv12_1 : aj_lv lv12 1 = some (.ref p1) := fx_e1 elv12 hlv9_1 (by decide) (Or.inl (by decide))
          have hlv12_2 : aj_lv lv12 2 = some (.int p2) := fx_e1 elv12 hlv9_2 (by decide) (Or.inl (by decide))
          have hlv12_3 : aj_lv lv12 3 = some (.int p3) := fx_e1 elv12 hlv9_3 (by decide) (Or.inl (by decide))
          have hlv12_4 : aj_lv lv12 4 = some (.ref p4) := fx_e1 elv12 hlv9_4 (by decide) (Or.inl (by decide))
          have hlv12_5 : aj_lv lv12 5 = some (.int p5) := fx_e1 elv12 hlv9_5 (by decide) (Or.inl (by decide))
          have hlv12_6 : aj_lv lv12 6 = some (.int p6) := fx_e1 elv12 hlv9_6 (by decide) (Or.inr rfl)
          have hlv12_7 : aj_lv lv12 7 = some (.int x11) := by rw [elv12]; exact ak_set1_eq _ _ _
          show fx_W _ _ _ 60 lv12 [] _ _
          refine fx_n (pc' := 3) (lv' := lv12) (st' := []) aj_d130 rfl (Nat.le_succ _) (fun _ => rfl) ?_
          exact (ih) lv12 (x11) X7  hlv12_0 hlv12_1 hlv12_2 hlv12_3 hlv12_4 hlv12_5 hlv12_6 hlv12_7
        · skip
          refine fx_qe (c := (w5).toInt = (w8).toInt) (fx_f_eq q10) ?_
          show fx_W _ _ _ 44 lv9 [] _ _
          refine fx_i0 aj_d130 rfl (Nat.le_succ _) (fun _ => rfl) hlv9_8 ?_
          refine fx_i0 aj_d130 rfl (Nat.le_succ _) (fun _ => rfl) hlv9_9 ?_
          refine fx_b (tgt := 55) aj_d130 rfl (Nat.le_succ _) rfl (fun q13 => ?_) (fun q13 => ?_)
          · skip
            refine fx_qe (c := (w5).toInt < (w8).toInt) (fx_t_ge q13) ?_
            show fx_W _ _ _ 55 lv9 [] _ _
            refine fx_n (pc' := 56) (lv' := lv9) (st' := [.int (Int32.ofInt 1)]) aj_d130 rfl (Nat.le_succ _) (fun _ => rfl) ?_
            exact fx_ri aj_d130 rfl ⟨_, rfl, 0, rfl, rfl⟩
          · skip
            refine fx_qi (c := (w5).toInt < (w8).toInt) (fx_f_ge q13) ?_
            show fx_W _ _ _ 51 lv9 [] _ _
            refine fx_n (pc' := 52) (lv' := lv9) (st' := [.int (Int32.ofInt (-1))]) aj_d130 rfl (Nat.le_succ _) (fun _ => rfl) ?_
            refine fx_n (pc' := 56) (lv' := lv9) (st' := [.int (Int32.ofInt (-1))]) aj_d130 rfl (Nat.le_succ _) (fun _ => rfl) ?_
            exact fx_ri aj_d130 rfl ⟨_, rfl, 0, rfl, rfl⟩
theorem gx_130_ok {tb : aj_T} (p0 : Nat) (p1 : Nat) (p2 : Int32) (p3 : Int32) (p4 : Nat) (p5 : Int32) (p6 : Int32) {X : fx_X} : fx_K tb 130 [.ref p0, .ref p1, .int p2, .int p3, .ref p4, .int p5, .int p6] X (fx_Q fx_qI (fun v X' => gx_130 p0 p1 p2 p3 p4 p5 p6 X v X')) := by
  refine fx_m aj_m130_at rfl (fun N => ?_)
  refine fx_mono (Q := fx_Q fx_qI (fun v X' => ∃ n : Nat, gxE_130 p0 p1 p2 p3 p4 p5 p6 (gxF_130 p0 p1 p2 p3 p4 p5 p6 n) X v X')) (fun r X' h => h) ?_
  unfold gxE_130
  show fx_W _ _ _ 0 [(0, .ref p0), (1, .ref p1), (2, .int p2), (3, .int p3), (4, .ref p4), (5, .int p5), (6, .int p6)] [] _ _
  obtain ⟨lv1, elv1⟩ : ∃ l : aj_V, l = [(0, .ref p0), (1, .ref p1), (2, .int p2), (3, .int p3), (4, .ref p4), (5, .int p5), (6, .int p6)] := ⟨_, rfl⟩
  rw [← elv1]
  have hlv1_0 : aj_lv lv1 0 = some (.ref p0) := by rw [elv1]; rfl
  have hlv1_1 : aj_lv lv1 1 = some (.ref p1) := by rw [elv1]; rfl
  have hlv1_2 : aj_lv lv1 2 = some (.int p2) := by rw [elv1]; rfl
  have hlv1_3 : aj_lv lv1 3 = some (.int p3) := by rw [elv1]; rfl
  have hlv1_4 : aj_lv lv1 4 = some (.ref p4) := by rw [elv1]; rfl
  have hlv1_5 : aj_lv lv1 5 = some (.int p5) := by rw [elv1]; rfl
  have hlv1_6 : aj_lv lv1 6 = some (.int p6) := by rw [elv1]; rfl
  refine fx_n (pc' := 1) (lv' := lv1) (st' := [.int (Int32.ofInt 0)]) aj_d130 rfl (Nat.le_succ _) (fun _ => rfl) ?_
  refine fx_s0 (j := 7) aj_d130 rfl (Nat.le_succ _) (by decide) (fun _ => rfl) ?_
  obtain ⟨lv2, elv2⟩ : ∃ l, l = aj_set1 lv1 7 (.int (Int32.ofInt 0)) := ⟨_, rfl⟩
  rw [← elv2]
  have hlv2_0 : aj_lv lv2 0 = some (.ref p0) := fx_e1 elv2 hlv1_0 (by decide) (Or.inl (by decide))
  have hlv2_1 : aj_lv lv2 1 = some (.ref p1) := fx_e1 elv2 hlv1_1 (by decide) (Or.inl (by decide))
  have hlv2_2 : aj_lv lv2 2 = some (.int p2) := fx_e1 elv2 hlv1_2 (by decide) (Or.inl (by decide))
  have hlv2_3 : aj_lv lv2 3 = some (.int p3) := fx_e1 elv2 hlv1_3 (by decide) (Or.inl (by decide))
  have hlv2_4 : aj_lv lv2 4 = some (.ref p4) := fx_e1 elv2 hlv1_4 (by decide) (Or.inl (by decide))
  have hlv2_5 : aj_lv lv2 5 = some (.int p5) := fx_e1 elv2 hlv1_5 (by decide) (Or.inl (by decide))
  have hlv2_6 : aj_lv lv2 6 = some (.int p6) := fx_e1 elv2 hlv1_6 (by decide) (Or.inr rfl)
  have hlv2_7 : aj_lv lv2 7 = some (.int (Int32.ofInt 0)) := by rw [elv2]; exact ak_set1_eq _ _ _
  show fx_W _ _ _ 3 lv2 [] _ _
  exact ((gxL_130 p0 p1 p2 p3 p4 p5 p6 N)) lv2 ((Int32.ofInt 0)) X  hlv2_0 hlv2_1 hlv2_2 hlv2_3 hlv2_4 hlv2_5 hlv2_6 hlv2_7
def gxT_138_2 (p0 : Nat) (p1 : Nat) (P : Nat → List Int32 → List Int64 → List Nat → fx_X → Unit → fx_X → Prop) (y2 : Int32) (X : fx_X) (v : Unit) (X' : fx_X) : Prop :=
  (if (y2).toInt < ((X.1 p1 4)).toInt then (∃ x5 : Int32, x5 = (y2 + (Int32.ofInt 1)) ∧ P 17 [y2, y2, x5] [] [] X v X') else (X' = X))
def gxT_138_17 (p0 : Nat) (p1 : Nat) (P : Nat → List Int32 → List Int64 → List Nat → fx_X → Unit → fx_X → Prop) (y2 : Int32) (y3 : Int32) (y4 : Int32) (X : fx_X) (v : Unit) (X' : fx_X) : Prop :=
  (if (y4).toInt < ((X.1 p1 4)).toInt then (∃ (w16 : Int32) (X15 : fx_X), gx_130 p1 p0 y4 (Int32.ofInt 0) p1 y3 (Int32.ofInt 0) X w16 X15 ∧ (if (w16).toInt < 0 then (∃ x21 : Int32, x21 = y4 + Int32.ofInt 1 ∧ P 17 [y2, y4, x21] [] [] X15 v X') else (∃ x18 : Int32, x18 = y4 + Int32.ofInt 1 ∧ P 17 [y2, y3, x18] [] [] X15 v X'))) else ((if (y3).toInt = (y2).toInt then (∃ x9 : Int32, x9 = y2 + Int32.ofInt 1 ∧ P 2 [x9] [] [] X v X') else (∃ (w12 : Unit) (X11 : fx_X), gx_139 p1 y2 y3 (X.1 p0 13) X w12 X11 ∧ ∃ x13 : Int32, x13 = y2 + Int32.ofInt 1 ∧ P 2 [x13] [] [] X11 v X'))))
def gxE_138 (p0 : Nat) (p1 : Nat) (P : Nat → List Int32 → List Int64 → List Nat → fx_X → Unit → fx_X → Prop) (X : fx_X) (v : Unit) (X' : fx_X) : Prop :=
  P 2 [(Int32.ofInt 0)] [] [] X v X'
noncomputable def gxF_138 (p0 : Nat) (p1 : Nat) (n : Nat) : Nat → List Int32 → List Int64 → List Nat → fx_X → Unit → fx_X → Prop := Nat.rec (motive := fun _ => Nat → List Int32 → List Int64 → List Nat → fx_X → Unit → fx_X → Prop) (fun _ _ _ _ _ _ _ => False) (fun _ P l is ls rs X v X' => (l = 2 ∧ ∃ (y2 : Int32), is = [y2] ∧ ls = [] ∧ rs = [] ∧ gxT_138_2 p0 p1 P y2 X v X') ∨ (l = 17 ∧ ∃ (y2 : Int32) (y3 : Int32) (y4 : Int32), is = [y2, y3, y4] ∧ ls = [] ∧ rs = [] ∧ gxT_138_17 p0 p1 P y2 y3 y4 X v X')) n
theorem gxI_138_2 {p0 : Nat} {p1 : Nat} {n : Nat} {y2 : Int32} {X : fx_X} {v : Unit} {X' : fx_X} (h : gxT_138_2 p0 p1 (gxF_138 p0 p1 n) y2 X v X') : gxF_138 p0 p1 (n + 1) 2 [y2] [] [] X v X' := Or.inl ⟨rfl, y2, rfl, rfl, rfl, h⟩
theorem gxO_138_2 {p0 : Nat} {p1 : Nat} {n : Nat} {y2 : Int32} {X : fx_X} {v : Unit} {X' : fx_X} (h : gxF_138 p0 p1 (n + 1) 2 [y2] [] [] X v X') : gxT_138_2 p0 p1 (gxF_138 p0 p1 n) y2 X v X' := by
  rcases h with ⟨-, _, e1, e2, e3, h⟩ | ⟨e, -⟩
  · cases e1; cases e2; cases e3; exact h
  · exact absurd e (by decide)
theorem gxI_138_17 {p0 : Nat} {p1 : Nat} {n : Nat} {y2 : Int32} {y3 : Int32} {y4 : Int32} {X : fx_X} {v : Unit} {X' : fx_X} (h : gxT_138_17 p0 p1 (gxF_138 p0 p1 n) y2 y3 y4 X v X') : gxF_138 p0 p1 (n + 1) 17 [y2, y3, y4] [] [] X v X' := Or.inr (⟨rfl, y2, y3, y4, rfl, rfl, rfl, h⟩)
theorem gxO_138_17 {p0 : Nat} {p1 : Nat} {n : Nat} {y2 : Int32} {y3 : Int32} {y4 : Int32} {X : fx_X} {v : Unit} {X' : fx_X} (h : gxF_138 p0 p1 (n + 1) 17 [y2, y3, y4] [] [] X v X') : gxT_138_17 p0 p1 (gxF_138 p0 p1 n) y2 y3 y4 X v X' := by
  rcases h with ⟨e, -⟩ | ⟨-, _, _, _, e1, e2, e3, h⟩
  · exact absurd e (by decide)
  · cases e1; cases e2; cases e3; exact h
def gx_138 (p0 : Nat) (p1 : Nat) (X : fx_X) (v : Unit) (X' : fx_X) : Prop := ∃ n : Nat, gxE_138 p0 p1 (gxF_138 p0 p1 n) X v X'
theorem gxL_138 {tb : aj_T} (p0 : Nat) (p1 : Nat) : ∀ N : Nat, (∀ (lv : aj_V) (y2 : Int32) (X : fx_X), aj_lv lv 0 = some (.ref p0) → aj_lv lv 1 = some (.ref p1) → aj_lv lv 2 = some (.int y2) → fx_W tb aj_m138 N 2 lv [] X (fx_Q fx_qN (fun v X' => ∃ n : Nat, gxF_138 p0 p1 n 2 [y2] [] [] X v X'))) ∧ (∀ (lv : aj_V) (y2 : Int32) (y3 : Int32) (y4 : Int32) (X : fx_X), aj_lv lv 0 = some (.ref p0) → aj_lv lv 1 = some (.ref p1) → aj_lv lv 2 = some (.int y2) → aj_lv lv 3 = some (.int y3) → aj_lv lv 4 = some (.int y4) → fx_W tb aj_m138 N 17 lv [] X (fx_Q fx_qN (fun v X' => ∃ n : Nat, gxF_138 p0 p1 n 17 [y2, y3, y4] [] [] X v X'))) := by
  intro N
  induction N with
  | zero => exact ⟨(by intros; exact fx_z), (by intros; exact fx_z)⟩
  | succ N ih =>
    refine ⟨?_, ?_⟩
    · intro lv y2 X hlv_0 hlv_1 hlv_2
      refine fx_mono (Q := fx_Q fx_qN (fun v X' => ∃ n : Nat, gxT_138_2 p0 p1 (gxF_138 p0 p1 n) y2 X v X')) (fun r X' ⟨v, e, n, z⟩ => ⟨v, e, n + 1, gxI_138_2 z⟩) ?_
      unfold gxT_138_2
      refine fx_i0 aj_d138 rfl (Nat.le_refl _) (fun _ => rfl) hlv_2 ?_
      refine fx_i2 aj_d138 rfl (Nat.le_succ _) (fun _ => rfl) hlv_1 ?_
      refine fx_gI aj_d138 rfl (Nat.le_succ _) rfl rfl (Or.inl rfl) ?_
      refine fx_b (tgt := 70) aj_d138 rfl (Nat.le_succ _) rfl (fun q3 => ?_) (fun q3 => ?_)
      · skip
        refine fx_qe (c := (y2).toInt < ((X.1 p1 4)).toInt) (fx_t_ge q3) ?_
        show fx_W _ _ _ 70 lv [] _ _
        exact fx_rn aj_d138 rfl ⟨(), rfl, 0, rfl⟩
      · skip
        refine fx_qi (c := (y2).toInt < ((X.1 p1 4)).toInt) (fx_f_ge q3) ?_
        show fx_W _ _ _ 10 lv [] _ _
        refine fx_i0 aj_d138 rfl (Nat.le_succ _) (fun _ => rfl) hlv_2 ?_
        refine fx_s0 (j := 3) aj_d138 rfl (Nat.le_succ _) (by decide) (fun _ => rfl) ?_
        obtain ⟨lv4, elv4⟩ : ∃ l, l = aj_set1 lv 3 (.int y2) := ⟨_, rfl⟩
        rw [← elv4]
        have hlv4_0 : aj_lv lv4 0 = some (.ref p0) := fx_e1 elv4 hlv_0 (by decide) (Or.inl (by decide))
        have hlv4_1 : aj_lv lv4 1 = some (.ref p1) := fx_e1 elv4 hlv_1 (by decide) (Or.inl (by decide))
        have hlv4_2 : aj_lv lv4 2 = some (.int y2) := fx_e1 elv4 hlv_2 (by decide) (Or.inr rfl)
        have hlv4_3 : aj_lv lv4 3 = some (.int y2) := by rw [elv4]; exact ak_set1_eq _ _ _
        show fx_W _ _ _ 12 lv4 [] _ _
        refine fx_i0 aj_d138 rfl (Nat.le_succ _) (fun _ => rfl) hlv4_2 ?_
        refine fx_n (pc' := 14) (lv' := lv4) (st' := [.int (Int32.ofInt 1), .int y2]) aj_d138 rfl (Nat.le_succ _) (fun _ => rfl) ?_
        refine fx_n (pc' := 15) (lv' := lv4) (st' := [.int (y2 + (Int32.ofInt 1))]) aj_d138 rfl (Nat.le_succ _) (fun _ => rfl) ?_
        refine fx_qxI (fun x5 ex5 => ?_)
        refine fx_s0 (j := 4) aj_d138 rfl (Nat.le_succ _) (by decide) (fun _ => rfl) ?_
        obtain ⟨lv6, elv6⟩ : ∃ l, l = aj_set1 lv4 4 (.int x5) := ⟨_, rfl⟩
        rw [← elv6]
        have hlv6_0 : aj_lv lv6 0 = some (.ref p0) := fx_e1 elv6 hlv4_0 (by decide) (Or.inl (by decide))
        have hlv6_1 : aj_lv lv6 1 = some (.ref p1) := fx_e1 elv6 hlv4_1 (by decide) (Or.inl (by decide))
        have hlv6_2 : aj_lv lv6 2 = some (.int y2) := fx_e1 elv6 hlv4_2 (by decide) (Or.inl (by decide))
        have hlv6_3 : aj_lv lv6 3 = some (.int y2) := fx_e1 elv6 hlv4_3 (by decide) (Or.inr rfl)
        have hlv6_4 : aj_lv lv6 4 = some (.int x5) := by rw [elv6]; exact ak_set1_eq _ _ _
        show fx_W _ _ _ 17 lv6 [] _ _
        exact (ih.2) lv6 (y2) (y2) (x5) X  hlv6_0 hlv6_1 hlv6_2 hlv6_3 hlv6_4
    · intro lv y2 y3 y4 X hlv_0 hlv_1 hlv_2 hlv_3 hlv_4
      refine fx_mono (Q := fx_Q fx_qN (fun v X' => ∃ n : Nat, gxT_138_17 p0 p1 (gxF_138 p0 p1 n) y2 y3 y4 X v X')) (fun r X' ⟨v, e, n, z⟩ => ⟨v, e, n + 1, gxI_138_17 z⟩) ?_
      unfold gxT_138_17
      refine fx_i0 aj_d138 rfl (Nat.le_refl _) (fun _ => rfl) hlv_4 ?_
      refine fx_i2 aj_d138 rfl (Nat.le_succ _) (fun _ => rfl) hlv_1 ?_
      refine fx_gI aj_d138 rfl (Nat.le_succ _) rfl rfl (Or.inl rfl) ?_
      refine fx_b (tgt := 49) aj_d138 rfl (Nat.le_succ _) rfl (fun q7 => ?_) (fun q7 => ?_)
      · skip
        refine fx_qe (c := (y4).toInt < ((X.1 p1 4)).toInt) (fx_t_ge q7) ?_
        show fx_W _ _ _ 49 lv [] _ _
        refine fx_i0 aj_d138 rfl (Nat.le_succ _) (fun _ => rfl) hlv_3 ?_
        refine fx_i0 aj_d138 rfl (Nat.le_succ _) (fun _ => rfl) hlv_2 ?_
        refine fx_b (tgt := 64) aj_d138 rfl (Nat.le_succ _) rfl (fun q8 => ?_) (fun q8 => ?_)
        · skip
          refine fx_qi (c := (y3).toInt = (y2).toInt) (fx_t_eq q8) ?_
          show fx_W _ _ _ 64 lv [] _ _
          refine fx_incq aj_d138 rfl (Nat.le_succ _) hlv_2 (by decide) (fun x9 ex9 => ?_)
          obtain ⟨lv10, elv10⟩ : ∃ l, l = aj_set1 lv 2 (.int x9) := ⟨_, rfl⟩
          rw [← elv10]
          have hlv10_0 : aj_lv lv10 0 = some (.ref p0) := fx_e1 elv10 hlv_0 (by decide) (Or.inl (by decide))
          have hlv10_1 : aj_lv lv10 1 = some (.ref p1) := fx_e1 elv10 hlv_1 (by decide) (Or.inr rfl)
          have hlv10_2 : aj_lv lv10 2 = some (.int x9) := by rw [elv10]; exact ak_set1_eq _ _ _
          show fx_W _ _ _ 67 lv10 [] _ _
          refine fx_n (pc' := 2) (lv' := lv10) (st' := []) aj_d138 rfl (Nat.le_succ _) (fun _ => rfl) ?_
          exact (ih.1) lv10 (x9) X  hlv10_0 hlv10_1 hlv10_2
        · skip
          refine fx_qe (c := (y3).toInt = (y2).toInt) (fx_f_eq q8) ?_
          show fx_W _ _ _ 54 lv [] _ _
          refine fx_i2 aj_d138 rfl (Nat.le_succ _) (fun _ => rfl) hlv_1 ?_
          refine fx_i0 aj_d138 rfl (Nat.le_succ _) (fun _ => rfl) hlv_2 ?_
          refine fx_i0 aj_d138 rfl (Nat.le_succ _) (fun _ => rfl) hlv_3 ?_
          refine fx_i2 aj_d138 rfl (Nat.le_succ _) (fun _ => rfl) hlv_0 ?_
          refine fx_gI aj_d138 rfl (Nat.le_succ _) rfl rfl (Or.inl rfl) ?_
          refine fx_cv aj_d138 rfl (Nat.le_succ _) rfl [_, _, _] rfl rfl (gx_139_ok p1 y2 y3 (X.1 p0 13)) ?_
          rintro _ X11 ⟨w12, rfl, hR11⟩ hok11 hle11
          refine fx_qc hR11 ?_
          show fx_W _ _ _ 64 lv [] _ _
          refine fx_incq aj_d138 rfl (Nat.le_succ _) hlv_2 (by decide) (fun x13 ex13 => ?_)
          obtain ⟨lv14, elv14⟩ : ∃ l, l = aj_set1 lv 2 (.int x13) := ⟨_, rfl⟩
          rw [← elv14]
          have hlv14_0 : aj_lv lv14 0 = some (.ref p0) := fx_e1 elv14 hlv_0 (by decide) (Or.inl (by decide))
          have hlv14_1 : aj_lv lv14 1 = some (.ref p1) := fx_e1 elv14 hlv_1 (by decide) (Or.inr rfl)
          have hlv14_2 : aj_lv lv14 2 = some (.int x13) := by rw [elv14]; exact ak_set1_eq _ _ _
          show fx_W _ _ _ 67 lv14 [] _ _
          refine fx_n (pc' := 2) (lv' := lv14) (st' := []) aj_d138 rfl (Nat.le_succ _) (fun _ => rfl) ?_
          exact (ih.1) lv14 (x13) X11  hlv14_0 hlv14_1 hlv14_2
      · skip
        refine fx_qi (c := (y4).toInt < ((X.1 p1 4)).toInt) (fx_f_ge q7) ?_
        show fx_W _ _ _ 26 lv [] _ _
        refine fx_i2 aj_d138 rfl (Nat.le_succ _) (fun _ => rfl) hlv_1 ?_
        refine fx_i2 aj_d138 rfl (Nat.le_succ _) (fun _ => rfl) hlv_0 ?_
        refine fx_i0 aj_d138 rfl (Nat.le_succ _) (fun _ => rfl) hlv_4 ?_
        refine fx_n (pc' := 31) (lv' := lv) (st' := [.int (Int32.ofInt 0), .int y4, .ref p0, .ref p1]) aj_d138 rfl (Nat.le_succ _) (fun _ => rfl) ?_
        refine fx_i2 aj_d138 rfl (Nat.le_succ _) (fun _ => rfl) hlv_1 ?_
        refine fx_i0 aj_d138 rfl (Nat.le_succ _) (fun _ => rfl) hlv_3 ?_
        refine fx_n (pc' := 34) (lv' := lv) (st' := [.int (Int32.ofInt 0), .int y3, .ref p1, .int (Int32.ofInt 0), .int y4, .ref p0, .ref p1]) aj_d138 rfl (Nat.le_succ _) (fun _ => rfl) ?_
        refine fx_cv aj_d138 rfl (Nat.le_succ _) rfl [_, _, _, _, _, _] rfl rfl (gx_130_ok p1 p0 y4 (Int32.ofInt 0) p1 y3 (Int32.ofInt 0)) ?_
        rintro _ X15 ⟨w16, rfl, hR15⟩ hok15 hle15
        refine fx_qc hR15 ?_
        show fx_W _ _ _ 37 lv [.int w16] _ _
        refine fx_b0 (tgt := 43) aj_d138 rfl (Nat.le_succ _) rfl (fun q17 => ?_) (fun q17 => ?_)
        · skip
          refine fx_qe (c := (w16).toInt < 0) (fx_t_ge q17) ?_
          show fx_W _ _ _ 43 lv [] _ _
          refine fx_incq aj_d138 rfl (Nat.le_succ _) hlv_4 (by decide) (fun x18 ex18 => ?_)
          obtain ⟨lv19, elv19⟩ : ∃ l, l = aj_set1 lv 4 (.int x18) := ⟨_, rfl⟩
          rw [← elv19]
          have hlv19_0 : aj_lv lv19 0 = some (.ref p0) := fx_e1 elv19 hlv_0 (by decide) (Or.inl (by decide))
          have hlv19_1 : aj_lv lv19 1 = some (.ref p1) := fx_e1 elv19 hlv_1 (by decide) (Or.inl (by decide))
          have hlv19_2 : aj_lv lv19 2 = some (.int y2) := fx_e1 elv19 hlv_2 (by decide) (Or.inl (by decide))
          have hlv19_3 : aj_lv lv19 3 = some (.int y3) := fx_e1 elv19 hlv_3 (by decide) (Or.inr rfl)
          have hlv19_4 : aj_lv lv19 4 = some (.int x18) := by rw [elv19]; exact ak_set1_eq _ _ _
          show fx_W _ _ _ 46 lv19 [] _ _
          refine fx_n (pc' := 17) (lv' := lv19) (st' := []) aj_d138 rfl (Nat.le_succ _) (fun _ => rfl) ?_
          exact (ih.2) lv19 (y2) (y3) (x18) X15  hlv19_0 hlv19_1 hlv19_2 hlv19_3 hlv19_4
        · skip
          refine fx_qi (c := (w16).toInt < 0) (fx_f_ge q17) ?_
          show fx_W _ _ _ 40 lv [] _ _
          refine fx_i0 aj_d138 rfl (Nat.le_succ _) (fun _ => rfl) hlv_4 ?_
          refine fx_s0 (j := 3) aj_d138 rfl (Nat.le_succ _) (by decide) (fun _ => rfl) ?_
          obtain ⟨lv20, elv20⟩ : ∃ l, l = aj_set1 lv 3 (.int y4) := ⟨_, rfl⟩
          rw [← elv20]
          have hlv20_0 : aj_lv lv20 0 = some (.ref p0) := fx_e1 elv20 hlv_0 (by decide) (Or.inl (by decide))
          have hlv20_1 : aj_lv lv20 1 = some (.ref p1) := fx_e1 elv20 hlv_1 (by decide) (Or.inl (by decide))
          have hlv20_2 : aj_lv lv20 2 = some (.int y2) := fx_e1 elv20 hlv_2 (by decide) (Or.inr rfl)
          have hlv20_4 : aj_lv lv20 4 = some (.int y4) := fx_e1 elv20 hlv_4 (by decide) (Or.inl (by decide))
          have hlv20_3 : aj_lv lv20 3 = some (.int y4) := by rw [elv20]; exact ak_set1_eq _ _ _
          show fx_W _ _ _ 43 lv20 [] _ _
          refine fx_incq aj_d138 rfl (Nat.le_succ _) hlv20_4 (by decide) (fun x21 ex21 => ?_)
          obtain ⟨lv22, elv22⟩ : ∃ l, l = aj_set1 lv20 4 (.int x21) := ⟨_, rfl⟩
          rw [← elv22]
          have hlv22_0 : aj_lv lv22 0 = some (.ref p0) := fx_e1 elv22 hlv20_0 (by decide) (Or.inl (by decide))
          have hlv22_1 : aj_lv lv22 1 = some (.ref p1) := fx_e1 elv22 hlv20_1 (by decide) (Or.inl (by decide))
          have hlv22_2 : aj_lv lv22 2 = some (.int y2) := fx_e1 elv22 hlv20_2 (by decide) (Or.inl (by decide))
          have hlv22_3 : aj_lv lv22 3 = some (.int y4) := fx_e1 elv22 hlv20_3 (by decide) (Or.inr rfl)
          have hlv22_4 : aj_lv lv22 4 = some (.int x21) := by rw [elv22]; exact ak_set1_eq _ _ _
          show fx_W _ _ _ 46 lv22 [] _ _
          refine fx_n (pc' := 17) (lv' := lv22) (st' := []) aj_d138 rfl (Nat.le_succ _) (fun _ => rfl) ?_
          exact (ih.2) lv22 (y2) (y4) (x21) X15  hlv22_0 hlv22_1 hlv22_2 hlv22_3 hlv22_4
theorem gx_138_ok {tb : aj_T} (p0 : Nat) (p1 : Nat) {X : fx_X} : fx_K tb 138 [.ref p0, .ref p1] X (fx_Q fx_qN (fun v X' => gx_138 p0 p1 X v X')) := by
  refine fx_m aj_m138_at rfl (fun N => ?_)
  refine fx_mono (Q := fx_Q fx_qN (fun v X' => ∃ n : Nat, gxE_138 p0 p1 (gxF_138 p0 p1 n) X v X')) (fun r X' h => h) ?_
  unfold gxE_138
  show fx_W _ _ _ 0 [(0, .ref p0), (1, .ref p1)] [] _ _
  obtain ⟨lv1, elv1⟩ : ∃ l : aj_V, l = [(0, .ref p0), (1, .ref p1)] := ⟨_, rfl⟩
  rw [← elv1]
  have hlv1_0 : aj_lv lv1 0 = some (.ref p0) := by rw [elv1]; rfl
  have hlv1_1 : aj_lv lv1 1 = some (.ref p1) := by rw [elv1]; rfl
  refine fx_n (pc' := 1) (lv' := lv1) (st' := [.int (Int32.ofInt 0)]) aj_d138 rfl (Nat.le_succ _) (fun _ => rfl) ?_
  refine fx_s0 (j := 2) aj_d138 rfl (Nat.le_succ _) (by decide) (fun _ => rfl) ?_
  obtain ⟨lv2, elv2⟩ : ∃ l, l = aj_set1 lv1 2 (.int (Int32.ofInt 0)) := ⟨_, rfl⟩
  rw [← elv2]
  have hlv2_0 : aj_lv lv2 0 = some (.ref p0) := fx_e1 elv2 hlv1_0 (by decide) (Or.inl (by decide))
  have hlv2_1 : aj_lv lv2 1 = some (.ref p1) := fx_e1 elv2 hlv1_1 (by decide) (Or.inr rfl)
  have hlv2_2 : aj_lv lv2 2 = some (.int (Int32.ofInt 0)) := by rw [elv2]; exact ak_set1_eq _ _ _
  show fx_W _ _ _ 2 lv2 [] _ _
  exact ((gxL_138 p0 p1 N).1) lv2 ((Int32.ofInt 0)) X  hlv2_0 hlv2_1 hlv2_2
def gxT_129_6 (p0 : Nat) (p1 : Nat) (p2 : Int32) (p3 : Nat) (P : Nat → List Int32 → List Int64 → List Nat → fx_X → Int32 → fx_X → Prop) (y4 : Int32) (y5 : Int32) (X : fx_X) (v : Int32) (X' : fx_X) : Prop :=
  (if (y5).toInt < ((X.1 p0 4)).toInt then (∃ (w6 : Int32) (X5 : fx_X), gx_108 p0 y5 p2 X w6 X5 ∧ (if (w6).toInt = 0 then (∃ x8 : Int32, x8 = y5 + Int32.ofInt 1 ∧ P 6 [y4, x8] [] [] X5 v X') else ((if (y4).toInt < 30 then (P 42 [y4, y5, y4, (Int32.ofInt 1)] [] [] X5 v X') else (∃ x13 : Int32, x13 = y5 + Int32.ofInt 1 ∧ P 6 [y4, x13] [] [] X5 v X'))))) else (v = y4 ∧ X' = X))
def gxT_129_42 (p0 : Nat) (p1 : Nat) (p2 : Int32) (p3 : Nat) (P : Nat → List Int32 → List Int64 → List Nat → fx_X → Int32 → fx_X → Prop) (y4 : Int32) (y5 : Int32) (y6 : Int32) (y7 : Int32) (X : fx_X) (v : Int32) (X' : fx_X) : Prop :=
  (if 0 < (y6).toInt then ((0 ≤ ((y6 - (Int32.ofInt 1))).toInt ∧ ((y6 - (Int32.ofInt 1))).toInt < ((30 : Nat) : Int)) ∧ ∃ (w24 : Int32) (X23 : fx_X), gx_130 p0 p1 y5 p2 p0 (X.1 p3 ((y6 - (Int32.ofInt 1))).toInt.toNat) p2 X w24 X23 ∧ (if (w24).toInt < 0 then (∃ x27 : Int32, x27 = y6 + Int32.ofInt (-1) ∧ P 42 [y4, y5, x27, w24] [] [] X23 v X') else ((if 0 < (y6).toInt then ((if (w24).toInt = 0 then (∃ x33 : Int32, x33 = y5 + Int32.ofInt 1 ∧ P 6 [y4, x33] [] [] X23 v X') else (P 96 [y4, y5, y6, y4] [] [] X23 v X'))) else (P 96 [y4, y5, y6, y4] [] [] X23 v X'))))) else ((if 0 < (y6).toInt then ((if (y7).toInt = 0 then (∃ x20 : Int32, x20 = y5 + Int32.ofInt 1 ∧ P 6 [y4, x20] [] [] X v X') else (P 96 [y4, y5, y6, y4] [] [] X v X'))) else (P 96 [y4, y5, y6, y4] [] [] X v X'))))
def gxT_129_96 (p0 : Nat) (p1 : Nat) (p2 : Int32) (p3 : Nat) (P : Nat → List Int32 → List Int64 → List Nat → fx_X → Int32 → fx_X → Prop) (y4 : Int32) (y5 : Int32) (y6 : Int32) (y8 : Int32) (X : fx_X) (v : Int32) (X' : fx_X) : Prop :=
  (if (y6).toInt < (y8).toInt then ((0 ≤ ((y8 - (Int32.ofInt 1))).toInt ∧ ((y8 - (Int32.ofInt 1))).toInt < ((30 : Nat) : Int)) ∧ (0 ≤ (y8).toInt ∧ (y8).toInt < ((30 : Nat) : Int)) ∧ ∃ X44 : fx_X, X44 = (fx_wI X p3 (y8).toInt.toNat (X.1 p3 ((y8 - (Int32.ofInt 1))).toInt.toNat)) ∧ ∃ x45 : Int32, x45 = y8 + Int32.ofInt (-1) ∧ P 96 [y4, y5, y6, x45] [] [] X44 v X') else ((0 ≤ (y6).toInt ∧ (y6).toInt < ((30 : Nat) : Int)) ∧ ∃ X37 : fx_X, X37 = (fx_wI X p3 (y6).toInt.toNat y5) ∧ ∃ x38 : Int32, x38 = y4 + Int32.ofInt 1 ∧ ∃ x40 : Int32, x40 = y5 + Int32.ofInt 1 ∧ P 6 [x38, x40] [] [] X37 v X'))
def gxE_129 (p0 : Nat) (p1 : Nat) (p2 : Int32) (p3 : Nat) (P : Nat → List Int32 → List Int64 → List Nat → fx_X → Int32 → fx_X → Prop) (X : fx_X) (v : Int32) (X' : fx_X) : Prop :=
  P 6 [(Int32.ofInt 0), (Int32.ofInt 0)] [] [] X v X'
noncomputable def gxF_129 (p0 : Nat) (p1 : Nat) (p2 : Int32) (p3 : Nat) (n : Nat) : Nat → List Int32 → List Int64 → List Nat → fx_X → Int32 → fx_X → Prop := Nat.rec (motive := fun _ => Nat → List Int32 → List Int64 → List Nat → fx_X → Int32 → fx_X → Prop) (fun _ _ _ _ _ _ _ => False) (fun _ P l is ls rs X v X' => (l = 6 ∧ ∃ (y4 : Int32) (y5 : Int32), is = [y4, y5] ∧ ls = [] ∧ rs = [] ∧ gxT_129_6 p0 p1 p2 p3 P y4 y5 X v X') ∨ (l = 42 ∧ ∃ (y4 : Int32) (y5 : Int32) (y6 : Int32) (y7 : Int32), is = [y4, y5, y6, y7] ∧ ls = [] ∧ rs = [] ∧ gxT_129_42 p0 p1 p2 p3 P y4 y5 y6 y7 X v X') ∨ (l = 96 ∧ ∃ (y4 : Int32) (y5 : Int32) (y6 : Int32) (y8 : Int32), is = [y4, y5, y6, y8] ∧ ls = [] ∧ rs = [] ∧ gxT_129_96 p0 p1 p2 p3 P y4 y5 y6 y8 X v X')) n
theorem gxI_129_6 {p0 : Nat} {p1 : Nat} {p2 : Int32} {p3 : Nat} {n : Nat} {y4 : Int32} {y5 : Int32} {X : fx_X} {v : Int32} {X' : fx_X} (h : gxT_129_6 p0 p1 p2 p3 (gxF_129 p0 p1 p2 p3 n) y4 y5 X v X') : gxF_129 p0 p1 p2 p3 (n + 1) 6 [y4, y5] [] [] X v X' := Or.inl ⟨rfl, y4, y5, rfl, rfl, rfl, h⟩
theorem gxO_129_6 {p0 : Nat} {p1 : Nat} {p2 : Int32} {p3 : Nat} {n : Nat} {y4 : Int32} {y5 : Int32} {X : fx_X} {v : Int32} {X' : fx_X} (h : gxF_129 p0 p1 p2 p3 (n + 1) 6 [y4, y5] [] [] X v X') : gxT_129_6 p0 p1 p2 p3 (gxF_129 p0 p1 p2 p3 n) y4 y5 X v X' := by
  rcases h with ⟨-, _, _, e1, e2, e3, h⟩ | ⟨e, -⟩ | ⟨e, -⟩
  · cases e1; cases e2; cases e3; exact h
  · exact absurd e (by decide)
  · exact absurd e (by decide)
theorem gxI_129_42 {p0 : Nat} {p1 : Nat} {p2 : Int32} {p3 : Nat} {n : Nat} {y4 : Int32} {y5 : Int32} {y6 : Int32} {y7 : Int32} {X : fx_X} {v : Int32} {X' : fx_X} (h : gxT_129_42 p0 p1 p2 p3 (gxF_129 p0 p1 p2 p3 n) y4 y5 y6 y7 X v X') : gxF_129 p0 p1 p2 p3 (n + 1) 42 [y4, y5, y6, y7] [] [] X v X' := Or.inr (Or.inl ⟨rfl, y4, y5, y6, y7, rfl, rfl, rfl, h⟩)
theorem gxO_129_42 {p0 : Nat} {p1 : Nat} {p2 : Int32} {p3 : Nat} {n : Nat} {y4 : Int32} {y5 : Int32} {y6 : Int32} {y7 : Int32} {X : fx_X} {v : Int32} {X' : fx_X} (h : gxF_129 p0 p1 p2 p3 (n + 1) 42 [y4, y5, y6, y7] [] [] X v X') : gxT_129_42 p0 p1 p2 p3 (gxF_129 p0 p1 p2 p3 n) y4 y5 y6 y7 X v X' := by
  rcases h with ⟨e, -⟩ | ⟨-, _, _, _, _, e1, e2, e3, h⟩ | ⟨e, -⟩
  · exact absurd e (by decide)
  · cases e1; cases e2; cases e3; exact h
  · exact absurd e (by decide)
theorem gxI_129_96 {p0 : Nat} {p1 : Nat} {p2 : Int32} {p3 : Nat} {n : Nat} {y4 : Int32} {y5 : Int32} {y6 : Int32} {y8 : Int32} {X : fx_X} {v : Int32} {X' : fx_X} (h : gxT_129_96 p0 p1 p2 p3 (gxF_129 p0 p1 p2 p3 n) y4 y5 y6 y8 X v X') : gxF_129 p0 p1 p2 p3 (n + 1) 96 [y4, y5, y6, y8] [] [] X v X' := Or.inr (Or.inr (⟨rfl, y4, y5, y6, y8, rfl, rfl, rfl, h⟩))
theorem gxO_129_96 {p0 : Nat} {p1 : Nat} {p2 : Int32} {p3 : Nat} {n : Nat} {y4 : Int32} {y5 : Int32} {y6 : Int32} {y8 : Int32} {X : fx_X} {v : Int32} {X' : fx_X} (h : gxF_129 p0 p1 p2 p3 (n + 1) 96 [y4, y5, y6, y8] [] [] X v X') : gxT_129_96 p0 p1 p2 p3 (gxF_129 p0 p1 p2 p3 n) y4 y5 y6 y8 X v X' := by
  rcases h with ⟨e, -⟩ | ⟨e, -⟩ | ⟨-, _, _, _, _, e1, e2, e3, h⟩
  · exact absurd e (by decide)
  · exact absurd e (by decide)
  · cases e1; cases e2; cases e3; exact h
def gx_129 (p0 : Nat) (p1 : Nat) (p2 : Int32) (p3 : Nat) (X : fx_X) (v : Int32) (X' : fx_X) : Prop := ∃ n : Nat, gxE_129 p0 p1 p2 p3 (gxF_129 p0 p1 p2 p3 n) X v X'
theorem gxL_129 {tb : aj_T} (p0 : Nat) (p1 : Nat) (p2 : Int32) (p3 : Nat) : ∀ N : Nat, (∀ (lv : aj_V) (y4 : Int32) (y5 : Int32) (X : fx_X), X.2.2.2.1 p3 = (0, 30) → aj_lv lv 0 = some (.ref p0) → aj_lv lv 1 = some (.ref p1) → aj_lv lv 2 = some (.int p2) → aj_lv lv 3 = some (.ref p3) → aj_lv lv 4 = some (.int y4) → aj_lv lv 5 = some (.int y5) → fx_W tb aj_m129 N 6 lv [] X (fx_Q fx_qI (fun v X' => ∃ n : Nat, gxF_129 p0 p1 p2 p3 n 6 [y4, y5] [] [] X v X'))) ∧ (∀ (lv : aj_V) (y4 : Int32) (y5 : Int32) (y6 : Int32) (y7 : Int32) (X : fx_X), X.2.2.2.1 p3 = (0, 30) → aj_lv lv 0 = some (.ref p0) → aj_lv lv 1 = some (.ref p1) → aj_lv lv 2 = some (.int p2) → aj_lv lv 3 = some (.ref p3) → aj_lv lv 4 = some (.int y4) → aj_lv lv 5 = some (.int y5) → aj_lv lv 6 = some (.int y6) → aj_lv lv 7 = some (.int y7) → fx_W tb aj_m129 N 42 lv [] X (fx_Q fx_qI (fun v X' => ∃ n : Nat, gxF_129 p0 p1 p2 p3 n 42 [y4, y5, y6, y7] [] [] X v X'))) ∧ (∀ (lv : aj_V) (y4 : Int32) (y5 : Int32) (y6 : Int32) (y8 : Int32) (X : fx_X), X.2.2.2.1 p3 = (0, 30) → aj_lv lv 0 = some (.ref p0) → aj_lv lv 1 = some (.ref p1) → aj_lv lv 2 = some (.int p2) → aj_lv lv 3 = some (.ref p3) → aj_lv lv 4 = some (.int y4) → aj_lv lv 5 = some (.int y5) → aj_lv lv 6 = some (.int y6) → aj_lv lv 8 = some (.int y8) → fx_W tb aj_m129 N 96 lv [] X (fx_Q fx_qI (fun v X' => ∃ n : Nat, gxF_129 p0 p1 p2 p3 n 96 [y4, y5, y6, y8] [] [] X v X'))) := by
  intro N
  induction N with
  | zero => exact ⟨(by intros; exact fx_z), (by intros; exact fx_z), (by intros; exact fx_z)⟩
  | succ N ih =>
    refine ⟨?_, ?_, ?_⟩
    · intro lv y4 y5 X hA3 hlv_0 hlv_1 hlv_2 hlv_3 hlv_4 hlv_5
      refine fx_mono (Q := fx_Q fx_qI (fun v X' => ∃ n : Nat, gxT_129_6 p0 p1 p2 p3 (gxF_129 p0 p1 p2 p3 n) y4 y5 X v X')) (fun r X' ⟨v, e, n, z⟩ => ⟨v, e, n + 1, gxI_129_6 z⟩) ?_
      unfold gxT_129_6
      refine fx_i0 aj_d129 rfl (Nat.le_refl _) (fun _ => rfl) hlv_5 ?_
      refine fx_i2 aj_d129 rfl (Nat.le_succ _) (fun _ => rfl) hlv_0 ?_
      refine fx_gI aj_d129 rfl (Nat.le_succ _) rfl rfl (Or.inl rfl) ?_
      refine fx_b (tgt := 134) aj_d129 rfl (Nat.le_succ _) rfl (fun q4 => ?_) (fun q4 => ?_)
      · skip
        refine fx_qe (c := (y5).toInt < ((X.1 p0 4)).toInt) (fx_t_ge q4) ?_
        show fx_W _ _ _ 134 lv [] _ _
        refine fx_i0 aj_d129 rfl (Nat.le_succ _) (fun _ => rfl) hlv_4 ?_
        exact fx_ri aj_d129 rfl ⟨_, rfl, 0, rfl, rfl⟩
      · skip
        refine fx_qi (c := (y5).toInt < ((X.1 p0 4)).toInt) (fx_f_ge q4) ?_
        show fx_W _ _ _ 15 lv [] _ _
        refine fx_i2 aj_d129 rfl (Nat.le_succ _) (fun _ => rfl) hlv_0 ?_
        refine fx_i0 aj_d129 rfl (Nat.le_succ _) (fun _ => rfl) hlv_5 ?_
        refine fx_i0 aj_d129 rfl (Nat.le_succ _) (fun _ => rfl) hlv_2 ?_
        refine fx_cv aj_d129 rfl (Nat.le_succ _) rfl [_, _] rfl rfl (gx_108_ok p0 y5 p2) ?_
        rintro _ X5 ⟨w6, rfl, hR5⟩ hok5 hle5
        refine fx_qc hR5 ?_
        show fx_W _ _ _ 22 lv [.int w6] _ _
        refine fx_b0 (tgt := 128) aj_d129 rfl (Nat.le_succ _) rfl (fun q7 => ?_) (fun q7 => ?_)
        · skip
          refine fx_qi (c := (w6).toInt = 0) (fx_t_eq q7) ?_
          show fx_W _ _ _ 128 lv [] _ _
          refine fx_incq aj_d129 rfl (Nat.le_succ _) hlv_5 (by decide) (fun x8 ex8 => ?_)
          obtain ⟨lv9, elv9⟩ : ∃ l, l = aj_set1 lv 5 (.int x8) := ⟨_, rfl⟩
          rw [← elv9]
          have hlv9_0 : aj_lv lv9 0 = some (.ref p0) := fx_e1 elv9 hlv_0 (by decide) (Or.inl (by decide))
          have hlv9_1 : aj_lv lv9 1 = some (.ref p1) := fx_e1 elv9 hlv_1 (by decide) (Or.inl (by decide))
          have hlv9_2 : aj_lv lv9 2 = some (.int p2) := fx_e1 elv9 hlv_2 (by decide) (Or.inl (by decide))
          have hlv9_3 : aj_lv lv9 3 = some (.ref p3) := fx_e1 elv9 hlv_3 (by decide) (Or.inl (by decide))
          have hlv9_4 : aj_lv lv9 4 = some (.int y4) := fx_e1 elv9 hlv_4 (by decide) (Or.inr rfl)
          have hlv9_5 : aj_lv lv9 5 = some (.int x8) := by rw [elv9]; exact ak_set1_eq _ _ _
          show fx_W _ _ _ 131 lv9 [] _ _
          refine fx_n (pc' := 6) (lv' := lv9) (st' := []) aj_d129 rfl (Nat.le_succ _) (fun _ => rfl) ?_
          exact (ih.1) lv9 (y4) (x8) X5 ((hle5.2 _ (by rw [hA3]; decide)).trans hA3) hlv9_0 hlv9_1 hlv9_2 hlv9_3 hlv9_4 hlv9_5
        · skip
          refine fx_qe (c := (w6).toInt = 0) (fx_f_eq q7) ?_
          show fx_W _ _ _ 25 lv [] _ _
          refine fx_i0 aj_d129 rfl (Nat.le_succ _) (fun _ => rfl) hlv_4 ?_
          refine fx_i2 aj_d129 rfl (Nat.le_succ _) (fun _ => rfl) hlv_3 ?_
          refine fx_al aj_d129 rfl (Nat.le_succ _) ?_
          rw [(((hle5.2 _ (by rw [hA3]; decide)).trans hA3) : X5.2.2.2.1 p3 = (0, 30))]
          show fx_W _ _ _ 29 lv [.int (Int32.ofNat 30), .int y4] _ _
          refine fx_b (tgt := 35) aj_d129 rfl (Nat.le_succ _) rfl (fun q10 => ?_) (fun q10 => ?_)
          · skip
            refine fx_qi (c := (y4).toInt < 30) (fx_t_lt q10) ?_
            show fx_W _ _ _ 35 lv [] _ _
            refine fx_i0 aj_d129 rfl (Nat.le_succ _) (fun _ => rfl) hlv_4 ?_
            refine fx_s0 (j := 6) aj_d129 rfl (Nat.le_succ _) (by decide) (fun _ => rfl) ?_
            obtain ⟨lv11, elv11⟩ : ∃ l, l = aj_set1 lv 6 (.int y4) := ⟨_, rfl⟩
            rw [← elv11]
            have hlv11_0 : aj_lv lv11 0 = some (.ref p0) := fx_e1 elv11 hlv_0 (by decide) (Or.inl (by decide))
            have hlv11_1 : aj_lv lv11 1 = some (.ref p1) := fx_e1 elv11 hlv_1 (by decide) (Or.inl (by decide))
            have hlv11_2 : aj_lv lv11 2 = some (.int p2) := fx_e1 elv11 hlv_2 (by decide) (Or.inl (by decide))
            have hlv11_3 : aj_lv lv11 3 = some (.ref p3) := fx_e1 elv11 hlv_3 (by decide) (Or.inl (by decide))
            have hlv11_4 : aj_lv lv11 4 = some (.int y4) := fx_e1 elv11 hlv_4 (by decide) (Or.inl (by decide))
            have hlv11_5 : aj_lv lv11 5 = some (.int y5) := fx_e1 elv11 hlv_5 (by decide) (Or.inr rfl)
            have hlv11_6 : aj_lv lv11 6 = some (.int y4) := by rw [elv11]; exact ak_set1_eq _ _ _
            show fx_W _ _ _ 39 lv11 [] _ _
            refine fx_n (pc' := 40) (lv' := lv11) (st' := [.int (Int32.ofInt 1)]) aj_d129 rfl (Nat.le_succ _) (fun _ => rfl) ?_
            refine fx_s0 (j := 7) aj_d129 rfl (Nat.le_succ _) (by decide) (fun _ => rfl) ?_
            obtain ⟨lv12, elv12⟩ : ∃ l, l = aj_set1 lv11 7 (.int (Int32.ofInt 1)) := ⟨_, rfl⟩
            rw [← elv12]
            have hlv12_0 : aj_lv lv12 0 = some (.ref p0) := fx_e1 elv12 hlv11_0 (by decide) (Or.inl (by decide))
            have hlv12_1 : aj_lv lv12 1 = some (.ref p1) := fx_e1 elv12 hlv11_1 (by decide) (Or.inl (by decide))
            have hlv12_2 : aj_lv lv12 2 = some (.int p2) := fx_e1 elv12 hlv11_2 (by decide) (Or.inl (by decide))
            have hlv12_3 : aj_lv lv12 3 = some (.ref p3) := fx_e1 elv12 hlv11_3 (by decide) (Or.inl (by decide))
            have hlv12_4 : aj_lv lv12 4 = some (.int y4) := fx_e1 elv12 hlv11_4 (by decide) (Or.inl (by decide))
            have hlv12_5 : aj_lv lv12 5 = some (.int y5) := fx_e1 elv12 hlv11_5 (by decide) (Or.inl (by decide))
            have hlv12_6 : aj_lv lv12 6 = some (.int y4) := fx_e1 elv12 hlv11_6 (by decide) (Or.inr rfl)
            have hlv12_7 : aj_lv lv12 7 = some (.int (Int32.ofInt 1)) := by rw [elv12]; exact ak_set1_eq _ _ _
            show fx_W _ _ _ 42 lv12 [] _ _
            exact (ih.2.1) lv12 (y4) (y5) (y4) ((Int32.ofInt 1)) X5 ((hle5.2 _ (by rw [hA3]; decide)).trans hA3) hlv12_0 hlv12_1 hlv12_2 hlv12_3 hlv12_4 hlv12_5 hlv12_6 hlv12_7
          · skip
            refine fx_qe (c := (y4).toInt < 30) (fx_f_lt q10) ?_
            show fx_W _ _ _ 32 lv [] _ _
            refine fx_n (pc' := 128) (lv' := lv) (st' := []) aj_d129 rfl (Nat.le_succ _) (fun _ => rfl) ?_
            refine fx_incq aj_d129 rfl (Nat.le_succ _) hlv_5 (by decide) (fun x13 ex13 => ?_)
            obtain ⟨lv14, elv14⟩ : ∃ l, l = aj_set1 lv 5 (.int x13) := ⟨_, rfl⟩
            rw [← elv14]
            have hlv14_0 : aj_lv lv14 0 = some (.ref p0) := fx_e1 elv14 hlv_0 (by decide) (Or.inl (by decide))
            have hlv14_1 : aj_lv lv14 1 = some (.ref p1) := fx_e1 elv14 hlv_1 (by decide) (Or.inl (by decide))
            have hlv14_2 : aj_lv lv14 2 = some (.int p2) := fx_e1 elv14 hlv_2 (by decide) (Or.inl (by decide))
            have hlv14_3 : aj_lv lv14 3 = some (.ref p3) := fx_e1 elv14 hlv_3 (by decide) (Or.inl (by decide))
            have hlv14_4 : aj_lv lv14 4 = some (.int y4) := fx_e1 elv14 hlv_4 (by decide) (Or.inr rfl)
            have hlv14_5 : aj_lv lv14 5 = some (.int x13) := by rw [elv14]; exact ak_set1_eq _ _ _
            show fx_W _ _ _ 131 lv14 [] _ _
            refine fx_n (pc' := 6) (lv' := lv14) (st' := []) aj_d129 rfl (Nat.le_succ _) (fun _ => rfl) ?_
            exact (ih.1) lv14 (y4) (x13) X5 ((hle5.2 _ (by rw [hA3]; decide)).trans hA3) hlv14_0 hlv14_1 hlv14_2 hlv14_3 hlv14_4 hlv14_5
    · intro lv y4 y5 y6 y7 X hA3 hlv_0 hlv_1 hlv_2 hlv_3 hlv_4 hlv_5 hlv_6 hlv_7
      refine fx_mono (Q := fx_Q fx_qI (fun v X' => ∃ n : Nat, gxT_129_42 p0 p1 p2 p3 (gxF_129 p0 p1 p2 p3 n) y4 y5 y6 y7 X v X')) (fun r X' ⟨v, e, n, z⟩ => ⟨v, e, n + 1, gxI_129_42 z⟩) ?_
      unfold gxT_129_42
      refine fx_i0 aj_d129 rfl (Nat.le_refl _) (fun _ => rfl) hlv_6 ?_
      refine fx_b0 (tgt := 79) aj_d129 rfl (Nat.le_succ _) rfl (fun q15 => ?_) (fun q15 => ?_)
      · skip
        refine fx_qe (c := 0 < (y6).toInt) (fx_t_le q15) ?_
        show fx_W _ _ _ 79 lv [] _ _
        refine fx_i0 aj_d129 rfl (Nat.le_succ _) (fun _ => rfl) hlv_6 ?_
        refine fx_b0 (tgt := 92) aj_d129 rfl (Nat.le_succ _) rfl (fun q16 => ?_) (fun q16 => ?_)
        · skip
          refine fx_qe (c := 0 < (y6).toInt) (fx_t_le q16) ?_
          show fx_W _ _ _ 92 lv [] _ _
          refine fx_i0 aj_d129 rfl (Nat.le_succ _) (fun _ => rfl) hlv_4 ?_
          refine fx_s0 (j := 8) aj_d129 rfl (Nat.le_succ _) (by decide) (fun _ => rfl) ?_
          obtain ⟨lv17, elv17⟩ : ∃ l, l = aj_set1 lv 8 (.int y4) := ⟨_, rfl⟩
          rw [← elv17]
          have hlv17_0 : aj_lv lv17 0 = some (.ref p0) := fx_e1 elv17 hlv_0 (by decide) (Or.inl (by decide))
          have hlv17_1 : aj_lv lv17 1 = some (.ref p1) := fx_e1 elv17 hlv_1 (by decide) (Or.inl (by decide))
          have hlv17_2 : aj_lv lv17 2 = some (.int p2) := fx_e1 elv17 hlv_2 (by decide) (Or.inl (by decide))
          have hlv17_3 : aj_lv lv17 3 = some (.ref p3) := fx_e1 elv17 hlv_3 (by decide) (Or.inl (by decide))
          have hlv17_4 : aj_lv lv17 4 = some (.int y4) := fx_e1 elv17 hlv_4 (by decide) (Or.inl (by decide))
          have hlv17_5 : aj_lv lv17 5 = some (.int y5) := fx_e1 elv17 hlv_5 (by decide) (Or.inl (by decide))
          have hlv17_6 : aj_lv lv17 6 = some (.int y6) := fx_e1 elv17 hlv_6 (by decide) (Or.inl (by decide))
          have hlv17_8 : aj_lv lv17 8 = some (.int y4) := by rw [elv17]; exact ak_set1_eq _ _ _
          show fx_W _ _ _ 96 lv17 [] _ _
          exact (ih.2.2) lv17 (y4) (y5) (y6) (y4) X hA3 hlv17_0 hlv17_1 hlv17_2 hlv17_3 hlv17_4 hlv17_5 hlv17_6 hlv17_8
        · skip
          refine fx_qi (c := 0 < (y6).toInt) (fx_f_le q16) ?_
          show fx_W _ _ _ 84 lv [] _ _
          refine fx_i0 aj_d129 rfl (Nat.le_succ _) (fun _ => rfl) hlv_7 ?_
          refine fx_b0 (tgt := 92) aj_d129 rfl (Nat.le_succ _) rfl (fun q18 => ?_) (fun q18 => ?_)
          · skip
            refine fx_qe (c := (y7).toInt = 0) (fx_t_ne q18) ?_
            show fx_W _ _ _ 92 lv [] _ _
            refine fx_i0 aj_d129 rfl (Nat.le_succ _) (fun _ => rfl) hlv_4 ?_
            refine fx_s0 (j := 8) aj_d129 rfl (Nat.le_succ _) (by decide) (fun _ => rfl) ?_
            obtain ⟨lv19, elv19⟩ : ∃ l, l = aj_set1 lv 8 (.int y4) := ⟨_, rfl⟩
            rw [← elv19]
            have hlv19_0 : aj_lv lv19 0 = some (.ref p0) := fx_e1 elv19 hlv_0 (by decide) (Or.inl (by decide))
            have hlv19_1 : aj_lv lv19 1 = some (.ref p1) := fx_e1 elv19 hlv_1 (by decide) (Or.inl (by decide))
            have hlv19_2 : aj_lv lv19 2 = some (.int p2) := fx_e1 elv19 hlv_2 (by decide) (Or.inl (by decide))
            have hlv19_3 : aj_lv lv19 3 = some (.ref p3) := fx_e1 elv19 hlv_3 (by decide) (Or.inl (by decide))
            have hlv19_4 : aj_lv lv19 4 = some (.int y4) := fx_e1 elv19 hlv_4 (by decide) (Or.inl (by decide))
            have hlv19_5 : aj_lv lv19 5 = some (.int y5) := fx_e1 elv19 hlv_5 (by decide) (Or.inl (by decide))
            have hlv19_6 : aj_lv lv19 6 = some (.int y6) := fx_e1 elv19 hlv_6 (by decide) (Or.inl (by decide))
            have hlv19_8 : aj_lv lv19 8 = some (.int y4) := by rw [elv19]; exact ak_set1_eq _ _ _
            show fx_W _ _ _ 96 lv19 [] _ _
            exact (ih.2.2) lv19 (y4) (y5) (y6) (y4) X hA3 hlv19_0 hlv19_1 hlv19_2 hlv19_3 hlv19_4 hlv19_5 hlv19_6 hlv19_8
          · skip
            refine fx_qi (c := (y7).toInt = 0) (fx_f_ne q18) ?_
            show fx_W _ _ _ 89 lv [] _ _
            refine fx_n (pc' := 128) (lv' := lv) (st' := []) aj_d129 rfl (Nat.le_succ _) (fun _ => rfl) ?_
            refine fx_incq aj_d129 rfl (Nat.le_succ _) hlv_5 (by decide) (fun x20 ex20 => ?_)
            obtain ⟨lv21, elv21⟩ : ∃ l, l = aj_set1 lv 5 (.int x20) := ⟨_, rfl⟩
            rw [← elv21]
            have hlv21_0 : aj_lv lv21 0 = some (.ref p0) := fx_e1 elv21 hlv_0 (by decide) (Or.inl (by decide))
            have hlv21_1 : aj_lv lv21 1 = some (.ref p1) := fx_e1 elv21 hlv_1 (by decide) (Or.inl (by decide))
            have hlv21_2 : aj_lv lv21 2 = some (.int p2) := fx_e1 elv21 hlv_2 (by decide) (Or.inl (by decide))
            have hlv21_3 : aj_lv lv21 3 = some (.ref p3) := fx_e1 elv21 hlv_3 (by decide) (Or.inl (by decide))
            have hlv21_4 : aj_lv lv21 4 = some (.int y4) := fx_e1 elv21 hlv_4 (by decide) (Or.inr rfl)
            have hlv21_5 : aj_lv lv21 5 = some (.int x20) := by rw [elv21]; exact ak_set1_eq _ _ _
            show fx_W _ _ _ 131 lv21 [] _ _
            refine fx_n (pc' := 6) (lv' := lv21) (st' := []) aj_d129 rfl (Nat.le_succ _) (fun _ => rfl) ?_
            exact (ih.1) lv21 (y4) (x20) X hA3 hlv21_0 hlv21_1 hlv21_2 hlv21_3 hlv21_4 hlv21_5
      · skip
        refine fx_qi (c := 0 < (y6).toInt) (fx_f_le q15) ?_
        show fx_W _ _ _ 47 lv [] _ _
        refine fx_i2 aj_d129 rfl (Nat.le_succ _) (fun _ => rfl) hlv_0 ?_
        refine fx_i2 aj_d129 rfl (Nat.le_succ _) (fun _ => rfl) hlv_1 ?_
        refine fx_i0 aj_d129 rfl (Nat.le_succ _) (fun _ => rfl) hlv_5 ?_
        refine fx_i0 aj_d129 rfl (Nat.le_succ _) (fun _ => rfl) hlv_2 ?_
        refine fx_i2 aj_d129 rfl (Nat.le_succ _) (fun _ => rfl) hlv_0 ?_
        refine fx_i2 aj_d129 rfl (Nat.le_succ _) (fun _ => rfl) hlv_3 ?_
        refine fx_i0 aj_d129 rfl (Nat.le_succ _) (fun _ => rfl) hlv_6 ?_
        refine fx_n (pc' := 57) (lv' := lv) (st' := [.int (Int32.ofInt 1), .int y6, .ref p3, .ref p0, .int p2, .int y5, .ref p1, .ref p0]) aj_d129 rfl (Nat.le_succ _) (fun _ => rfl) ?_
        refine fx_n (pc' := 58) (lv' := lv) (st' := [.int (y6 - (Int32.ofInt 1)), .ref p3, .ref p0, .int p2, .int y5, .ref p1, .ref p0]) aj_d129 rfl (Nat.le_succ _) (fun _ => rfl) ?_
        refine fx_ld aj_d129 (Or.inl rfl) rfl (Nat.le_succ _) (fun g220 g221 => ?_)
        show fx_W _ _ _ 59 lv [.int (X.1 p3 ((y6 - (Int32.ofInt 1))).toInt.toNat), .ref p0, .int p2, .int y5, .ref p1, .ref p0] _ _
        refine fx_qa (c := 0 ≤ ((y6 - (Int32.ofInt 1))).toInt ∧ ((y6 - (Int32.ofInt 1))).toInt < ((30 : Nat) : Int)) ⟨g220, fx_lnk g221 hA3⟩ ?_
        refine fx_i0 aj_d129 rfl (Nat.le_succ _) (fun _ => rfl) hlv_2 ?_
        refine fx_cv aj_d129 rfl (Nat.le_succ _) rfl [_, _, _, _, _, _] rfl rfl (gx_130_ok p0 p1 y5 p2 p0 (X.1 p3 ((y6 - (Int32.ofInt 1))).toInt.toNat) p2) ?_
        rintro _ X23 ⟨w24, rfl, hR23⟩ hok23 hle23
        refine fx_qc hR23 ?_
        show fx_W _ _ _ 63 lv [.int w24] _ _
        refine fx_s0 (j := 7) aj_d129 rfl (Nat.le_succ _) (by decide) (fun _ => rfl) ?_
        obtain ⟨lv25, elv25⟩ : ∃ l, l = aj_set1 lv 7 (.int w24) := ⟨_, rfl⟩
        rw [← elv25]
        have hlv25_0 : aj_lv lv25 0 = some (.ref p0) := fx_e1 elv25 hlv_0 (by decide) (Or.inl (by decide))
        have hlv25_1 : aj_lv lv25 1 = some (.ref p1) := fx_e1 elv25 hlv_1 (by decide) (Or.inl (by decide))
        have hlv25_2 : aj_lv lv25 2 = some (.int p2) := fx_e1 elv25 hlv_2 (by decide) (Or.inl (by decide))
        have hlv25_3 : aj_lv lv25 3 = some (.ref p3) := fx_e1 elv25 hlv_3 (by decide) (Or.inl (by decide))
        have hlv25_4 : aj_lv lv25 4 = some (.int y4) := fx_e1 elv25 hlv_4 (by decide) (Or.inl (by decide))
        have hlv25_5 : aj_lv lv25 5 = some (.int y5) := fx_e1 elv25 hlv_5 (by decide) (Or.inl (by decide))
        have hlv25_6 : aj_lv lv25 6 = some (.int y6) := fx_e1 elv25 hlv_6 (by decide) (Or.inr rfl)
        have hlv25_7 : aj_lv lv25 7 = some (.int w24) := by rw [elv25]; exact ak_set1_eq _ _ _
        show fx_W _ _ _ 65 lv25 [] _ _
        refine fx_i0 aj_d129 rfl (Nat.le_succ _) (fun _ => rfl) hlv25_7 ?_
        refine fx_b0 (tgt := 73) aj_d129 rfl (Nat.le_succ _) rfl (fun q26 => ?_) (fun q26 => ?_)
        · skip
          refine fx_qi (c := (w24).toInt < 0) (fx_t_lt q26) ?_
          show fx_W _ _ _ 73 lv25 [] _ _
          refine fx_incq aj_d129 rfl (Nat.le_succ _) hlv25_6 (by decide) (fun x27 ex27 => ?_)
          obtain ⟨lv28, elv28⟩ : ∃ l, l = aj_set1 lv25 6 (.int x27) := ⟨_, rfl⟩
          rw [← elv28]
          have hlv28_0 : aj_lv lv28 0 = some (.ref p0) := fx_e1 elv28 hlv25_0 (by decide) (Or.inl (by decide))
          have hlv28_1 : aj_lv lv28 1 = some (.ref p1) := fx_e1 elv28 hlv25_1 (by decide) (Or.inl (by decide))
          have hlv28_2 : aj_lv lv28 2 = some (.int p2) := fx_e1 elv28 hlv25_2 (by decide) (Or.inl (by decide))
          have hlv28_3 : aj_lv lv28 3 = some (.ref p3) := fx_e1 elv28 hlv25_3 (by decide) (Or.inl (by decide))
          have hlv28_4 : aj_lv lv28 4 = some (.int y4) := fx_e1 elv28 hlv25_4 (by decide) (Or.inl (by decide))
          have hlv28_5 : aj_lv lv28 5 = some (.int y5) := fx_e1 elv28 hlv25_5 (by decide) (Or.inr rfl)
          have hlv28_7 : aj_lv lv28 7 = some (.int w24) := fx_e1 elv28 hlv25_7 (by decide) (Or.inl (by decide))
          have hlv28_6 : aj_lv lv28 6 = some (.int x27) := by rw [elv28]; exact ak_set1_eq _ _ _
          show fx_W _ _ _ 76 lv28 [] _ _
          refine fx_n (pc' := 42) (lv' := lv28) (st' := []) aj_d129 rfl (Nat.le_succ _) (fun _ => rfl) ?_
          exact (ih.2.1) lv28 (y4) (y5) (x27) (w24) X23 ((hle23.2 _ (by rw [hA3]; decide)).trans hA3) hlv28_0 hlv28_1 hlv28_2 hlv28_3 hlv28_4 hlv28_5 hlv28_6 hlv28_7
        · skip
          refine fx_qe (c := (w24).toInt < 0) (fx_f_lt q26) ?_
          show fx_W _ _ _ 70 lv25 [] _ _
          refine fx_n (pc' := 79) (lv' := lv25) (st' := []) aj_d129 rfl (Nat.le_succ _) (fun _ => rfl) ?_
          refine fx_i0 aj_d129 rfl (Nat.le_succ _) (fun _ => rfl) hlv25_6 ?_
          refine fx_b0 (tgt := 92) aj_d129 rfl (Nat.le_succ _) rfl (fun q29 => ?_) (fun q29 => ?_)
          · skip
            refine fx_qe (c := 0 < (y6).toInt) (fx_t_le q29) ?_
            show fx_W _ _ _ 92 lv25 [] _ _
            refine fx_i0 aj_d129 rfl (Nat.le_succ _) (fun _ => rfl) hlv25_4 ?_
            refine fx_s0 (j := 8) aj_d129 rfl (Nat.le_succ _) (by decide) (fun _ => rfl) ?_
            obtain ⟨lv30, elv30⟩ : ∃ l, l = aj_set1 lv25 8 (.int y4) := ⟨_, rfl⟩
            rw [← elv30]
            have hlv30_0 : aj_lv lv30 0 = some (.ref p0) := fx_e1 elv30 hlv25_0 (by decide) (Or.inl (by decide))
            have hlv30_1 : aj_lv lv30 1 = some (.ref p1) := fx_e1 elv30 hlv25_1 (by decide) (Or.inl (by decide))
            have hlv30_2 : aj_lv lv30 2 = some (.int p2) := fx_e1 elv30 hlv25_2 (by decide) (Or.inl (by decide))
            have hlv30_3 : aj_lv lv30 3 = some (.ref p3) := fx_e1 elv30 hlv25_3 (by decide) (Or.inl (by decide))
            have hlv30_4 : aj_lv lv30 4 = some (.int y4) := fx_e1 elv30 hlv25_4 (by decide) (Or.inl (by decide))
            have hlv30_5 : aj_lv lv30 5 = some (.int y5) := fx_e1 elv30 hlv25_5 (by decide) (Or.inl (by decide))
            have hlv30_6 : aj_lv lv30 6 = some (.int y6) := fx_e1 elv30 hlv25_6 (by decide) (Or.inl (by decide))
            have hlv30_8 : aj_lv lv30 8 = some (.int y4) := by rw [elv30]; exact ak_set1_eq _ _ _
            show fx_W _ _ _ 96 lv30 [] _ _
            exact (ih.2.2) lv30 (y4) (y5) (y6) (y4) X23 ((hle23.2 _ (by rw [hA3]; decide)).trans hA3) hlv30_0 hlv30_1 hlv30_2 hlv30_3 hlv30_4 hlv30_5 hlv30_6 hlv30_8
          · skip
            refine fx_qi (c := 0 < (y6).toInt) (fx_f_le q29) ?_
            show fx_W _ _ _ 84 lv25 [] _ _
            refine fx_i0 aj_d129 rfl (Nat.le_succ _) (fun _ => rfl) hlv25_7 ?_
            refine fx_b0 (tgt := 92) aj_d129 rfl (Nat.le_succ _) rfl (fun q31 => ?_) (fun q31 => ?_)
            · skip
              refine fx_qe (c := (w24).toInt = 0) (fx_t_ne q31) ?_
              show fx_W _ _ _ 92 lv25 [] _ _
              refine fx_i0 aj_d129 rfl (Nat.le_succ _) (fun _ => rfl) hlv25_4 ?_
              refine fx_s0 (j := 8) aj_d129 rfl (Nat.le_succ _) (by decide) (fun _ => rfl) ?_
              obtain ⟨lv32, elv32⟩ : ∃ l, l = aj_set1 lv25 8 (.int y4) := ⟨_, rfl⟩
              rw [← elv32]
              have hlv32_0 : aj_lv lv32 0 = some (.ref p0) := fx_e1 elv32 hlv25_0 (by decide) (Or.inl (by decide))
              have hlv32_1 : aj_lv lv32 1 = some (.ref p1) := fx_e1 elv32 hlv25_1 (by decide) (Or.inl (by decide))
              have hlv32_2 : aj_lv lv32 2 = some (.int p2) := fx_e1 elv32 hlv25_2 (by decide) (Or.inl (by decide))
              have hlv32_3 : aj_lv lv32 3 = some (.ref p3) := fx_e1 elv32 hlv25_3 (by decide) (Or.inl (by decide))
              have hlv32_4 : aj_lv lv32 4 = some (.int y4) := fx_e1 elv32 hlv25_4 (by decide) (Or.inl (by decide))
              have hlv32_5 : aj_lv lv32 5 = some (.int y5) := fx_e1 elv32 hlv25_5 (by decide) (Or.inl (by decide))
              have hlv32_6 : aj_lv lv32 6 = some (.int y6) := fx_e1 elv32 hlv25_6 (by decide) (Or.inl (by decide))
              have hlv32_8 : aj_lv lv32 8 = some (.int y4) := by rw [elv32]; exact ak_set1_eq _ _ _
              show fx_W _ _ _ 96 lv32 [] _ _
              exact (ih.2.2) lv32 (y4) (y5) (y6) (y4) X23 ((hle23.2 _ (by rw [hA3]; decide)).trans hA3) hlv32_0 hlv32_1 hlv32_2 hlv32_3 hlv32_4 hlv32_5 hlv32_6 hlv32_8
            · skip
              refine fx_qi (c := (w24).toInt = 0) (fx_f_ne q31) ?_
              show fx_W _ _ _ 89 lv25 [] _ _
              refine fx_n (pc' := 128) (lv' := lv25) (st' := []) aj_d129 rfl (Nat.le_succ _) (fun _ => rfl) ?_
              refine fx_incq aj_d129 rfl (Nat.le_succ _) hlv25_5 (by decide) (fun x33 ex33 => ?_)
              obtain ⟨lv34, elv34⟩ : ∃ l, l = aj_set1 lv25 5 (.int x33) := ⟨_, rfl⟩
              rw [← elv34]
              have hlv34_0 : aj_lv lv34 0 = some (.ref p0) := fx_e1 elv34 hlv25_0 (by decide) (Or.inl (by decide))
              have hlv34_1 : aj_lv lv34 1 = some (.ref p1) := fx_e1 elv34 hlv25_1 (by decide) (Or.inl (by decide))
              have hlv34_2 : aj_lv lv34 2 = some (.int p2) := fx_e1 elv34 hlv25_2 (by decide) (Or.inl (by decide))
              have hlv34_3 : aj_lv lv34 3 = some (.ref p3) := fx_e1 elv34 hlv25_3 (by decide) (Or.inl (by decide))
              have hlv34_4 : aj_lv lv34 4 = some (.int y4) := fx_e1 elv34 hlv25_4 (by decide) (Or.inr rfl)
              have hlv34_5 : aj_lv lv34 5 = some (.int x33) := by rw [elv34]; exact ak_set1_eq _ _ _
              show fx_W _ _ _ 131 lv34 [] _ _
              refine fx_n (pc' := 6) (lv' := lv34) (st' := []) aj_d129 rfl (Nat.le_succ _) (fun _ => rfl) ?_
              exact (ih.1) lv34 (y4) (x33) X23 ((hle23.2 _ (by rw [hA3]; decide)).trans hA3) hlv34_0 hlv34_1 hlv34_2 hlv34_3 hlv34_4 hlv34_5
    · intro lv y4 y5 y6 y8 X hA3 hlv_0 hlv_1 hlv_2 hlv_3 hlv_4 hlv_5 hlv_6 hlv_8
      refine fx_mono (Q := fx_Q fx_qI (fun v X' => ∃ n : Nat, gxT_129_96 p0 p1 p2 p3 (gxF_129 p0 p1 p2 p3 n) y4 y5 y6 y8 X v X')) (fun r X' ⟨v, e, n, z⟩ => ⟨v, e, n + 1, gxI_129_96 z⟩) ?_
      unfold gxT_129_96
      refine fx_i0 aj_d129 rfl (Nat.le_refl _) (fun _ => rfl) hlv_8 ?_
      refine fx_i0 aj_d129 rfl (Nat.le_succ _) (fun _ => rfl) hlv_6 ?_
      refine fx_b (tgt := 119) aj_d129 rfl (Nat.le_succ _) rfl (fun q35 => ?_) (fun q35 => ?_)
      · skip
        refine fx_qe (c := (y6).toInt < (y8).toInt) (fx_t_le q35) ?_
        show fx_W _ _ _ 119 lv [] _ _
        refine fx_i2 aj_d129 rfl (Nat.le_succ _) (fun _ => rfl) hlv_3 ?_
        refine fx_i0 aj_d129 rfl (Nat.le_succ _) (fun _ => rfl) hlv_6 ?_
        refine fx_i0 aj_d129 rfl (Nat.le_succ _) (fun _ => rfl) hlv_5 ?_
        refine fx_st aj_d129 (Or.inl ⟨rfl, rfl⟩) rfl (Nat.le_succ _) (fun g360 g361 => ?_)
        show fx_W _ _ _ _ _ _ (fx_wI X p3 (y6).toInt.toNat y5) _
        refine fx_qa (c := 0 ≤ (y6).toInt ∧ (y6).toInt < ((30 : Nat) : Int)) ⟨g360, fx_lnk g361 hA3⟩ ?_
        refine fx_qX (fun X37 eX37 => ?_)
        show fx_W _ _ _ 125 lv [] _ _
        refine fx_incq aj_d129 rfl (Nat.le_succ _) hlv_4 (by decide) (fun x38 ex38 => ?_)
        obtain ⟨lv39, elv39⟩ : ∃ l, l = aj_set1 lv 4 (.int x38) := ⟨_, rfl⟩
        rw [← elv39]
        have hlv39_0 : aj_lv lv39 0 = some (.ref p0) := fx_e1 elv39 hlv_0 (by decide) (Or.inl (by decide))
        have hlv39_1 : aj_lv lv39 1 = some (.ref p1) := fx_e1 elv39 hlv_1 (by decide) (Or.inl (by decide))
        have hlv39_2 : aj_lv lv39 2 = some (.int p2) := fx_e1 elv39 hlv_2 (by decide) (Or.inl (by decide))
        have hlv39_3 : aj_lv lv39 3 = some (.ref p3) := fx_e1 elv39 hlv_3 (by decide) (Or.inr rfl)
        have hlv39_5 : aj_lv lv39 5 = some (.int y5) := fx_e1 elv39 hlv_5 (by decide) (Or.inl (by decide))
        have hlv39_4 : aj_lv lv39 4 = some (.int x38) := by rw [elv39]; exact ak_set1_eq _ _ _
        show fx_W _ _ _ 128 lv39 [] _ _
        refine fx_incq aj_d129 rfl (Nat.le_succ _) hlv39_5 (by decide) (fun x40 ex40 => ?_)
        obtain ⟨lv41, elv41⟩ : ∃ l, l = aj_set1 lv39 5 (.int x40) := ⟨_, rfl⟩
        rw [← elv41]
        have hlv41_0 : aj_lv lv41 0 = some (.ref p0) := fx_e1 elv41 hlv39_0 (by decide) (Or.inl (by decide))
        have hlv41_1 : aj_lv lv41 1 = some (.ref p1) := fx_e1 elv41 hlv39_1 (by decide) (Or.inl (by decide))
        have hlv41_2 : aj_lv lv41 2 = some (.int p2) := fx_e1 elv41 hlv39_2 (by decide) (Or.inl (by decide))
        have hlv41_3 : aj_lv lv41 3 = some (.ref p3) := fx_e1 elv41 hlv39_3 (by decide) (Or.inl (by decide))
        have hlv41_4 : aj_lv lv41 4 = some (.int x38) := fx_e1 elv41 hlv39_4 (by decide) (Or.inr rfl)
        have hlv41_5 : aj_lv lv41 5 = some (.int x40) := by rw [elv41]; exact ak_set1_eq _ _ _
        show fx_W _ _ _ 131 lv41 [] _ _
        refine fx_n (pc' := 6) (lv' := lv41) (st' := []) aj_d129 rfl (Nat.le_succ _) (fun _ => rfl) ?_
        exact (ih.1) lv41 (x38) (x40) X37 (by rw [eX37]; exact hA3) hlv41_0 hlv41_1 hlv41_2 hlv41_3 hlv41_4 hlv41_5
      · skip
        refine fx_qi (c := (y6).toInt < (y8).toInt) (fx_f_le q35) ?_
        show fx_W _ _ _ 103 lv [] _ _
        refine fx_i2 aj_d129 rfl (Nat.le_succ _) (fun _ => rfl) hlv_3 ?_
        refine fx_i0 aj_d129 rfl (Nat.le_succ _) (fun _ => rfl) hlv_8 ?_
        refine fx_i2 aj_d129 rfl (Nat.le_succ _) (fun _ => rfl) hlv_3 ?_
        refine fx_i0 aj_d129 rfl (Nat.le_succ _) (fun _ => rfl) hlv_8 ?_
        refine fx_n (pc' := 110) (lv' := lv) (st' := [.int (Int32.ofInt 1), .int y8, .ref p3, .int y8, .ref p3]) aj_d129 rfl (Nat.le_succ _) (fun _ => rfl) ?_
        refine fx_n (pc' := 111) (lv' := lv) (st' := [.int (y8 - (Int32.ofInt 1)), .ref p3, .int y8, .ref p3]) aj_d129 rfl (Nat.le_succ _) (fun _ => rfl) ?_
        refine fx_ld aj_d129 (Or.inl rfl) rfl (Nat.le_succ _) (fun g420 g421 => ?_)
        show fx_W _ _ _ 112 lv [.int (X.1 p3 ((y8 - (Int32.ofInt 1))).toInt.toNat), .int y8, .ref p3] _ _
        refine fx_qa (c := 0 ≤ ((y8 - (Int32.ofInt 1))).toInt ∧ ((y8 - (Int32.ofInt 1))).toInt < ((30 : Nat) : Int)) ⟨g420, fx_lnk g421 hA3⟩ ?_
        refine fx_st aj_d129 (Or.inl ⟨rfl, rfl⟩) rfl (Nat.le_succ _) (fun g430 g431 => ?_)
        show fx_W _ _ _ _ _ _ (fx_wI X p3 (y8).toInt.toNat (X.1 p3 ((y8 - (Int32.ofInt 1))).toInt.toNat)) _
        refine fx_qa (c := 0 ≤ (y8).toInt ∧ (y8).toInt < ((30 : Nat) : Int)) ⟨g430, fx_lnk g431 hA3⟩ ?_
        refine fx_qX (fun X44 eX44 => ?_)
        show fx_W _ _ _ 113 lv [] _ _
        refine fx_incq aj_d129 rfl (Nat.le_succ _) hlv_8 (by decide) (fun x45 ex45 => ?_)
        obtain ⟨lv46, elv46⟩ : ∃ l, l = aj_set1 lv 8 (.int x45) := ⟨_, rfl⟩
        rw [← elv46]
        have hlv46_0 : aj_lv lv46 0 = some (.ref p0) := fx_e1 elv46 hlv_0 (by decide) (Or.inl (by decide))
        have hlv46_1 : aj_lv lv46 1 = some (.ref p1) := fx_e1 elv46 hlv_1 (by decide) (Or.inl (by decide))
        have hlv46_2 : aj_lv lv46 2 = some (.int p2) := fx_e1 elv46 hlv_2 (by decide) (Or.inl (by decide))
        have hlv46_3 : aj_lv lv46 3 = some (.ref p3) := fx_e1 elv46 hlv_3 (by decide) (Or.inl (by decide))
        have hlv46_4 : aj_lv lv46 4 = some (.int y4) := fx_e1 elv46 hlv_4 (by decide) (Or.inl (by decide))
        have hlv46_5 : aj_lv lv46 5 = some (.int y5) := fx_e1 elv46 hlv_5 (by decide) (Or.inl (by decide))
        have hlv46_6 : aj_lv lv46 6 = some (.int y6) := fx_e1 elv46 hlv_6 (by decide) (Or.inl (by decide))
        have hlv46_8 : aj_lv lv46 8 = some (.int x45) := by rw [elv46]; exact ak_set1_eq _ _ _
        show fx_W _ _ _ 116 lv46 [] _ _
        refine fx_n (pc' := 96) (lv' := lv46) (st' := []) aj_d129 rfl (Nat.le_succ _) (fun _ => rfl) ?_
        exact (ih.2.2) lv46 (y4) (y5) (y6) (x45) X44 (by rw [eX44]; exact hA3) hlv46_0 hlv46_1 hlv46_2 hlv46_3 hlv46_4 hlv46_5 hlv46_6 hlv46_8
theorem gx_129_ok {tb : aj_T} (p0 : Nat) (p1 : Nat) (p2 : Int32) (p3 : Nat) {X : fx_X} (hA3 : X.2.2.2.1 p3 = (0, 30)) : fx_K tb 129 [.ref p0, .ref p1, .int p2, .ref p3] X (fx_Q fx_qI (fun v X' => gx_129 p0 p1 p2 p3 X v X')) := by
  refine fx_m aj_m129_at rfl (fun N => ?_)
  refine fx_mono (Q := fx_Q fx_qI (fun v X' => ∃ n : Nat, gxE_129 p0 p1 p2 p3 (gxF_129 p0 p1 p2 p3 n) X v X')) (fun r X' h => h) ?_
  unfold gxE_129
  show fx_W _ _ _ 0 [(0, .ref p0), (1, .ref p1), (2, .int p2), (3, .ref p3)] [] _ _
  obtain ⟨lv1, elv1⟩ : ∃ l : aj_V, l = [(0, .ref p0), (1, .ref p1), (2, .int p2), (3, .ref p3)] := ⟨_, rfl⟩
  rw [← elv1]
  have hlv1_0 : aj_lv lv1 0 = some (.ref p0) := by rw [elv1]; rfl
  have hlv1_1 : aj_lv lv1 1 = some (.ref p1) := by rw [elv1]; rfl
  have hlv1_2 : aj_lv lv1 2 = some (.int p2) := by rw [elv1]; rfl
  have hlv1_3 : aj_lv lv1 3 = some (.ref p3) := by rw [elv1]; rfl
  refine fx_n (pc' := 1) (lv' := lv1) (st' := [.int (Int32.ofInt 0)]) aj_d129 rfl (Nat.le_succ _) (fun _ => rfl) ?_
  refine fx_s0 (j := 4) aj_d129 rfl (Nat.le_succ _) (by decide) (fun _ => rfl) ?_
  obtain ⟨lv2, elv2⟩ : ∃ l, l = aj_set1 lv1 4 (.int (Int32.ofInt 0)) := ⟨_, rfl⟩
  rw [← elv2]
  have hlv2_0 : aj_lv lv2 0 = some (.ref p0) := fx_e1 elv2 hlv1_0 (by decide) (Or.inl (by decide))
  have hlv2_1 : aj_lv lv2 1 = some (.ref p1) := fx_e1 elv2 hlv1_1 (by decide) (Or.inl (by decide))
  have hlv2_2 : aj_lv lv2 2 = some (.int p2) := fx_e1 elv2 hlv1_2 (by decide) (Or.inl (by decide))
  have hlv2_3 : aj_lv lv2 3 = some (.ref p3) := fx_e1 elv2 hlv1_3 (by decide) (Or.inr rfl)
  have hlv2_4 : aj_lv lv2 4 = some (.int (Int32.ofInt 0)) := by rw [elv2]; exact ak_set1_eq _ _ _
  show fx_W _ _ _ 3 lv2 [] _ _
  refine fx_n (pc' := 4) (lv' := lv2) (st' := [.int (Int32.ofInt 0)]) aj_d129 rfl (Nat.le_succ _) (fun _ => rfl) ?_
  refine fx_s0 (j := 5) aj_d129 rfl (Nat.le_succ _) (by decide) (fun _ => rfl) ?_
  obtain ⟨lv3, elv3⟩ : ∃ l, l = aj_set1 lv2 5 (.int (Int32.ofInt 0)) := ⟨_, rfl⟩
  rw [← elv3]
  have hlv3_0 : aj_lv lv3 0 = some (.ref p0) := fx_e1 elv3 hlv2_0 (by decide) (Or.inl (by decide))
  have hlv3_1 : aj_lv lv3 1 = some (.ref p1) := fx_e1 elv3 hlv2_1 (by decide) (Or.inl (by decide))
  have hlv3_2 : aj_lv lv3 2 = some (.int p2) := fx_e1 elv3 hlv2_2 (by decide) (Or.inl (by decide))
  have hlv3_3 : aj_lv lv3 3 = some (.ref p3) := fx_e1 elv3 hlv2_3 (by decide) (Or.inl (by decide))
  have hlv3_4 : aj_lv lv3 4 = some (.int (Int32.ofInt 0)) := fx_e1 elv3 hlv2_4 (by decide) (Or.inr rfl)
  have hlv3_5 : aj_lv lv3 5 = some (.int (Int32.ofInt 0)) := by rw [elv3]; exact ak_set1_eq _ _ _
  show fx_W _ _ _ 6 lv3 [] _ _
  exact ((gxL_129 p0 p1 p2 p3 N).1) lv3 ((Int32.ofInt 0)) ((Int32.ofInt 0)) X hA3 hlv3_0 hlv3_1 hlv3_2 hlv3_3 hlv3_4 hlv3_5
def gxT_132_33 (p1 : Nat) (p2 : Nat) (p3 : Int32) (p4 : Int32) (p5 : Int32) (P : Nat → List Int32 → List Int64 → List Nat → fx_X → Int32 → fx_X → Prop) (y6 : Int32) (X : fx_X) (v : Int32) (X' : fx_X) : Prop :=
  (if (y6).toInt < ((X.1 96 1)).toInt then ((if (y6).toInt < 6 then ((0 ≤ (p3).toInt ∧ (p3).toInt < ((30 : Nat) : Int)) ∧ (0 ≤ (y6).toInt ∧ (y6).toInt < ((6 : Nat) : Int)) ∧ ∃ (w17 : Int32) (X16 : fx_X), gx_114_2 p2 p1 (X.1 98 (p3).toInt.toNat) (X.1 97 (y6).toInt.toNat) p5 X w17 X16 ∧ (0 ≤ (p4).toInt ∧ (p4).toInt < ((30 : Nat) : Int)) ∧ (0 ≤ (y6).toInt ∧ (y6).toInt < ((6 : Nat) : Int)) ∧ ∃ (w23 : Int32) (X22 : fx_X), gx_114_2 p2 p1 (X16.1 98 (p4).toInt.toNat) (X16.1 97 (y6).toInt.toNat) p5 X16 w23 X22 ∧ (if (w17).toInt = (w23).toInt then (∃ x25 : Int32, x25 = y6 + Int32.ofInt 1 ∧ P 33 [x25] [] [] X22 v X') else (v = (Int32.ofInt 0) ∧ X' = X22))) else (v = (Int32.ofInt 1) ∧ X' = X))) else (v = (Int32.ofInt 1) ∧ X' = X))
def gxE_132 (p1 : Nat) (p2 : Nat) (p3 : Int32) (p4 : Int32) (p5 : Int32) (P : Nat → List Int32 → List Int64 → List Nat → fx_X → Int32 → fx_X → Prop) (X : fx_X) (v : Int32) (X' : fx_X) : Prop :=
  (if (p3).toInt < 0 then (v = (Int32.ofInt 0) ∧ X' = X) else ((if (p3).toInt < 30 then ((if (p4).toInt < 0 then (v = (Int32.ofInt 0) ∧ X' = X) else ((if (p4).toInt < 30 then (P 33 [(Int32.ofInt 0)] [] [] X v X') else (v = (Int32.ofInt 0) ∧ X' = X))))) else (v = (Int32.ofInt 0) ∧ X' = X))))
noncomputable def gxF_132 (p1 : Nat) (p2 : Nat) (p3 : Int32) (p4 : Int32) (p5 : Int32) (n : Nat) : Nat → List Int32 → List Int64 → List Nat → fx_X → Int32 → fx_X → Prop := Nat.rec (motive := fun _ => Nat → List Int32 → List Int64 → List Nat → fx_X → Int32 → fx_X → Prop) (fun _ _ _ _ _ _ _ => False) (fun _ P l is ls rs X v X' => (l = 33 ∧ ∃ (y6 : Int32), is = [y6] ∧ ls = [] ∧ rs = [] ∧ gxT_132_33 p1 p2 p3 p4 p5 P y6 X v X')) n
theorem gxI_132_33 {p1 : Nat} {p2 : Nat} {p3 : Int32} {p4 : Int32} {p5 : Int32} {n : Nat} {y6 : Int32} {X : fx_X} {v : Int32} {X' : fx_X} (h : gxT_132_33 p1 p2 p3 p4 p5 (gxF_132 p1 p2 p3 p4 p5 n) y6 X v X') : gxF_132 p1 p2 p3 p4 p5 (n + 1) 33 [y6] [] [] X v X' := ⟨rfl, y6, rfl, rfl, rfl, h⟩
theorem gxO_132_33 {p1 : Nat} {p2 : Nat} {p3 : Int32} {p4 : Int32} {p5 : Int32} {n : Nat} {y6 : Int32} {X : fx_X} {v : Int32} {X' : fx_X} (h : gxF_132 p1 p2 p3 p4 p5 (n + 1) 33 [y6] [] [] X v X') : gxT_132_33 p1 p2 p3 p4 p5 (gxF_132 p1 p2 p3 p4 p5 n) y6 X v X' := by
  rcases h with ⟨-, _, e1, e2, e3, h⟩
  · cases e1; cases e2; cases e3; exact h
def gx_132 (p1 : Nat) (p2 : Nat) (p3 : Int32) (p4 : Int32) (p5 : Int32) (X : fx_X) (v : Int32) (X' : fx_X) : Prop := ∃ n : Nat, gxE_132 p1 p2 p3 p4 p5 (gxF_132 p1 p2 p3 p4 p5 n) X v X'
theorem gxL_132 {tb : aj_T} (p1 : Nat) (p2 : Nat) (p3 : Int32) (p4 : Int32) (p5 : Int32) : ∀ N : Nat, (∀ (lv : aj_V) (y6 : Int32) (X : fx_X), aj_lv lv 0 = some (.ref 96) → aj_lv lv 1 = some (.ref p1) → aj_lv lv 2 = some (.ref p2) → aj_lv lv 3 = some (.int p3) → aj_lv lv 4 = some (.int p4) → aj_lv lv 5 = some (.int p5) → aj_lv lv 6 = some (.int y6) → fx_W tb aj_m132 N 33 lv [] X (fx_Q fx_qI (fun v X' => ∃ n : Nat, gxF_132 p1 p2 p3 p4 p5 n 33 [y6] [] [] X v X'))) := by
  intro N
  induction N with
  | zero => exact (by intros; exact fx_z)
  | succ N ih =>
    skip
    · intro lv y6 X hlv_0 hlv_1 hlv_2 hlv_3 hlv_4 hlv_5 hlv_6
      refine fx_mono (Q := fx_Q fx_qI (fun v X' => ∃ n : Nat, gxT_132_33 p1 p2 p3 p4 p5 (gxF_132 p1 p2 p3 p4 p5 n) y6 X v X')) (fun r X' ⟨v, e, n, z⟩ => ⟨v, e, n + 1, gxI_132_33 z⟩) ?_
      unfold gxT_132_33
      refine fx_i0 aj_d132 rfl (Nat.le_refl _) (fun _ => rfl) hlv_6 ?_
      refine fx_i2 aj_d132 rfl (Nat.le_succ _) (fun _ => rfl) hlv_0 ?_
      refine fx_gI aj_d132 rfl (Nat.le_succ _) rfl rfl (Or.inl rfl) ?_
      refine fx_b (tgt := 104) aj_d132 rfl (Nat.le_succ _) rfl (fun q9 => ?_) (fun q9 => ?_)
      · skip
        refine fx_qe (c := (y6).toInt < ((X.1 96 1)).toInt) (fx_t_ge q9) ?_
        show fx_W _ _ _ 104 lv [] _ _
        refine fx_n (pc' := 105) (lv' := lv) (st' := [.int (Int32.ofInt 1)]) aj_d132 rfl (Nat.le_succ _) (fun _ => rfl) ?_
        exact fx_ri aj_d132 rfl ⟨_, rfl, 0, rfl, rfl⟩
      · skip
        refine fx_qi (c := (y6).toInt < ((X.1 96 1)).toInt) (fx_f_ge q9) ?_
        show fx_W _ _ _ 42 lv [] _ _
        refine fx_i0 aj_d132 rfl (Nat.le_succ _) (fun _ => rfl) hlv_6 ?_
        refine fx_i2 aj_d132 rfl (Nat.le_succ _) (fun _ => rfl) hlv_0 ?_
        refine fx_gF aj_d132 rfl (Nat.le_succ _) rfl rfl fx_in_1_0 (t := 97) rfl (fun hA10 => ?_)
        refine fx_al aj_d132 rfl (Nat.le_succ _) ?_
        rw [(hA10 : X.2.2.2.1 97 = (0, 6))]
        show fx_W _ _ _ 49 lv [.int (Int32.ofNat 6), .int y6] _ _
        refine fx_b (tgt := 104) aj_d132 rfl (Nat.le_succ _) rfl (fun q11 => ?_) (fun q11 => ?_)
        · skip
          refine fx_qe (c := (y6).toInt < 6) (fx_t_ge q11) ?_
          show fx_W _ _ _ 104 lv [] _ _
          refine fx_n (pc' := 105) (lv' := lv) (st' := [.int (Int32.ofInt 1)]) aj_d132 rfl (Nat.le_succ _) (fun _ => rfl) ?_
          exact fx_ri aj_d132 rfl ⟨_, rfl, 0, rfl, rfl⟩
        · skip
          refine fx_qi (c := (y6).toInt < 6) (fx_f_ge q11) ?_
          show fx_W _ _ _ 52 lv [] _ _
          refine fx_i2 aj_d132 rfl (Nat.le_succ _) (fun _ => rfl) hlv_2 ?_
          refine fx_i2 aj_d132 rfl (Nat.le_succ _) (fun _ => rfl) hlv_1 ?_
          refine fx_i2 aj_d132 rfl (Nat.le_succ _) (fun _ => rfl) hlv_0 ?_
          refine fx_gF aj_d132 rfl (Nat.le_succ _) rfl rfl fx_in_1_4 (t := 98) rfl (fun hA12 => ?_)
          refine fx_i0 aj_d132 rfl (Nat.le_succ _) (fun _ => rfl) hlv_3 ?_
          refine fx_ld aj_d132 (Or.inl rfl) rfl (Nat.le_succ _) (fun g130 g131 => ?_)
          show fx_W _ _ _ 60 lv [.int (X.1 98 (p3).toInt.toNat), .ref p1, .ref p2] _ _
          refine fx_qa (c := 0 ≤ (p3).toInt ∧ (p3).toInt < ((30 : Nat) : Int)) ⟨g130, fx_lnk g131 hA12⟩ ?_
          refine fx_i2 aj_d132 rfl (Nat.le_succ _) (fun _ => rfl) hlv_0 ?_
          refine fx_gF aj_d132 rfl (Nat.le_succ _) rfl rfl fx_in_1_0 (t := 97) rfl (fun hA14 => ?_)
          refine fx_i0 aj_d132 rfl (Nat.le_succ _) (fun _ => rfl) hlv_6 ?_
          refine fx_ld aj_d132 (Or.inl rfl) rfl (Nat.le_succ _) (fun g150 g151 => ?_)
          show fx_W _ _ _ 67 lv [.int (X.1 97 (y6).toInt.toNat), .int (X.1 98 (p3).toInt.toNat), .ref p1, .ref p2] _ _
          refine fx_qa (c := 0 ≤ (y6).toInt ∧ (y6).toInt < ((6 : Nat) : Int)) ⟨g150, fx_lnk g151 hA14⟩ ?_
          refine fx_i0 aj_d132 rfl (Nat.le_succ _) (fun _ => rfl) hlv_5 ?_
          refine fx_cv aj_d132 rfl (Nat.le_succ _) rfl [_, _, _, _] rfl rfl (gx_114_2_ok p2 p1 (X.1 98 (p3).toInt.toNat) (X.1 97 (y6).toInt.toNat) p5) ?_
          rintro _ X16 ⟨w17, rfl, hR16⟩ hok16 hle16
          refine fx_qc hR16 ?_
          show fx_W _ _ _ 72 lv [.int w17] _ _
          refine fx_i2 aj_d132 rfl (Nat.le_succ _) (fun _ => rfl) hlv_2 ?_
          refine fx_i2 aj_d132 rfl (Nat.le_succ _) (fun _ => rfl) hlv_1 ?_
          refine fx_i2 aj_d132 rfl (Nat.le_succ _) (fun _ => rfl) hlv_0 ?_
          refine fx_gF aj_d132 rfl (Nat.le_succ _) rfl rfl fx_in_1_4 (t := 98) rfl (fun hA18 => ?_)
          refine fx_i0 aj_d132 rfl (Nat.le_succ _) (fun _ => rfl) hlv_4 ?_
          refine fx_ld aj_d132 (Or.inl rfl) rfl (Nat.le_succ _) (fun g190 g191 => ?_)
          show fx_W _ _ _ 81 lv [.int (X16.1 98 (p4).toInt.toNat), .ref p1, .ref p2, .int w17] _ _
          refine fx_qa (c := 0 ≤ (p4).toInt ∧ (p4).toInt < ((30 : Nat) : Int)) ⟨g190, fx_lnk g191 hA18⟩ ?_
          refine fx_i2 aj_d132 rfl (Nat.le_succ _) (fun _ => rfl) hlv_0 ?_
          refine fx_gF aj_d132 rfl (Nat.le_succ _) rfl rfl fx_in_1_0 (t := 97) rfl (fun hA20 => ?_)
          refine fx_i0 aj_d132 rfl (Nat.le_succ _) (fun _ => rfl) hlv_6 ?_
          refine fx_ld aj_d132 (Or.inl rfl) rfl (Nat.le_succ _) (fun g210 g211 => ?_)
          show fx_W _ _ _ 88 lv [.int (X16.1 97 (y6).toInt.toNat), .int (X16.1 98 (p4).toInt.toNat), .ref p1, .ref p2, .int w17] _ _
          refine fx_qa (c := 0 ≤ (y6).toInt ∧ (y6).toInt < ((6 : Nat) : Int)) ⟨g210, fx_lnk g211 hA20⟩ ?_
          refine fx_i0 aj_d132 rfl (Nat.le_succ _) (fun _ => rfl) hlv_5 ?_
          refine fx_cv aj_d132 rfl (Nat.le_succ _) rfl [_, _, _, _] rfl rfl (gx_114_2_ok p2 p1 (X16.1 98 (p4).toInt.toNat) (X16.1 97 (y6).toInt.toNat) p5) ?_
          rintro _ X22 ⟨w23, rfl, hR22⟩ hok22 hle22
          refine fx_qc hR22 ?_
          show fx_W _ _ _ 93 lv [.int w23, .int w17] _ _
          refine fx_b (tgt := 98) aj_d132 rfl (Nat.le_succ _) rfl (fun q24 => ?_) (fun q24 => ?_)
          · skip
            refine fx_qi (c := (w17).toInt = (w23).toInt) (fx_t_eq q24) ?_
            show fx_W _ _ _ 98 lv [] _ _
            refine fx_incq aj_d132 rfl (Nat.le_succ _) hlv_6 (by decide) (fun x25 ex25 => ?_)
            obtain ⟨lv26, elv26⟩ : ∃ l, l = aj_set1 lv 6 (.int x25) := ⟨_, rfl⟩
            rw [← elv26]
            have hlv26_0 : aj_lv lv26 0 = some (.ref 96) := fx_e1 elv26 hlv_0 (by decide) (Or.inl (by decide))
            have hlv26_1 : aj_lv lv26 1 = some (.ref p1) := fx_e1 elv26 hlv_1 (by decide) (Or.inl (by decide))
            have hlv26_2 : aj_lv lv26 2 = some (.ref p2) := fx_e1 elv26 hlv_2 (by decide) (Or.inl (by decide))
            have hlv26_3 : aj_lv lv26 3 = some (.int p3) := fx_e1 elv26 hlv_3 (by decide) (Or.inl (by decide))
            have hlv26_4 : aj_lv lv26 4 = some (.int p4) := fx_e1 elv26 hlv_4 (by decide) (Or.inl (by decide))
            have hlv26_5 : aj_lv lv26 5 = some (.int p5) := fx_e1 elv26 hlv_5 (by decide) (Or.inr rfl)
            have hlv26_6 : aj_lv lv26 6 = some (.int x25) := by rw [elv26]; exact ak_set1_eq _ _ _
            show fx_W _ _ _ 101 lv26 [] _ _
            refine fx_n (pc' := 33) (lv' := lv26) (st' := []) aj_d132 rfl (Nat.le_succ _) (fun _ => rfl) ?_
            exact (ih) lv26 (x25) X22  hlv26_0 hlv26_1 hlv26_2 hlv26_3 hlv26_4 hlv26_5 hlv26_6
          · skip
            refine fx_qe (c := (w17).toInt = (w23).toInt) (fx_f_eq q24) ?_
            show fx_W _ _ _ 96 lv [] _ _
            refine fx_n (pc' := 97) (lv' := lv) (st' := [.int (Int32.ofInt 0)]) aj_d132 rfl (Nat.le_succ _) (fun _ => rfl) ?_
            exact fx_ri aj_d132 rfl ⟨_, rfl, 0, rfl, rfl⟩
theorem gx_132_ok {tb : aj_T} (p1 : Nat) (p2 : Nat) (p3 : Int32) (p4 : Int32) (p5 : Int32) {X : fx_X} : fx_K tb 132 [.ref 96, .ref p1, .ref p2, .int p3, .int p4, .int p5] X (fx_Q fx_qI (fun v X' => gx_132 p1 p2 p3 p4 p5 X v X')) := by
  refine fx_m aj_m132_at rfl (fun N => ?_)
  refine fx_mono (Q := fx_Q fx_qI (fun v X' => ∃ n : Nat, gxE_132 p1 p2 p3 p4 p5 (gxF_132 p1 p2 p3 p4 p5 n) X v X')) (fun r X' h => h) ?_
  unfold gxE_132
  show fx_W _ _ _ 0 [(0, .ref 96), (1, .ref p1), (2, .ref p2), (3, .int p3), (4, .int p4), (5, .int p5)] [] _ _
  obtain ⟨lv1, elv1⟩ : ∃ l : aj_V, l = [(0, .ref 96), (1, .ref p1), (2, .ref p2), (3, .int p3), (4, .int p4), (5, .int p5)] := ⟨_, rfl⟩
  rw [← elv1]
  have hlv1_0 : aj_lv lv1 0 = some (.ref 96) := by rw [elv1]; rfl
  have hlv1_1 : aj_lv lv1 1 = some (.ref p1) := by rw [elv1]; rfl
  have hlv1_2 : aj_lv lv1 2 = some (.ref p2) := by rw [elv1]; rfl
  have hlv1_3 : aj_lv lv1 3 = some (.int p3) := by rw [elv1]; rfl
  have hlv1_4 : aj_lv lv1 4 = some (.int p4) := by rw [elv1]; rfl
  have hlv1_5 : aj_lv lv1 5 = some (.int p5) := by rw [elv1]; rfl
  refine fx_i0 aj_d132 rfl (Nat.le_succ _) (fun _ => rfl) hlv1_3 ?_
  refine fx_b0 (tgt := 28) aj_d132 rfl (Nat.le_succ _) rfl (fun q2 => ?_) (fun q2 => ?_)
  · skip
    refine fx_qi (c := (p3).toInt < 0) (fx_t_lt q2) ?_
    show fx_W _ _ _ 28 lv1 [] _ _
    refine fx_n (pc' := 29) (lv' := lv1) (st' := [.int (Int32.ofInt 0)]) aj_d132 rfl (Nat.le_succ _) (fun _ => rfl) ?_
    exact fx_ri aj_d132 rfl ⟨_, rfl, 0, rfl, rfl⟩
  · skip
    refine fx_qe (c := (p3).toInt < 0) (fx_f_lt q2) ?_
    show fx_W _ _ _ 4 lv1 [] _ _
    refine fx_i0 aj_d132 rfl (Nat.le_succ _) (fun _ => rfl) hlv1_3 ?_
    refine fx_i2 aj_d132 rfl (Nat.le_succ _) (fun _ => rfl) hlv1_0 ?_
    refine fx_gF aj_d132 rfl (Nat.le_succ _) rfl rfl fx_in_1_4 (t := 98) rfl (fun hA3 => ?_)
    refine fx_al aj_d132 rfl (Nat.le_succ _) ?_
    rw [(hA3 : X.2.2.2.1 98 = (0, 30))]
    show fx_W _ _ _ 10 lv1 [.int (Int32.ofNat 30), .int p3] _ _
    refine fx_b (tgt := 28) aj_d132 rfl (Nat.le_succ _) rfl (fun q4 => ?_) (fun q4 => ?_)
    · skip
      refine fx_qe (c := (p3).toInt < 30) (fx_t_ge q4) ?_
      show fx_W _ _ _ 28 lv1 [] _ _
      refine fx_n (pc' := 29) (lv' := lv1) (st' := [.int (Int32.ofInt 0)]) aj_d132 rfl (Nat.le_succ _) (fun _ => rfl) ?_
      exact fx_ri aj_d132 rfl ⟨_, rfl, 0, rfl, rfl⟩
    · skip
      refine fx_qi (c := (p3).toInt < 30) (fx_f_ge q4) ?_
      show fx_W _ _ _ 13 lv1 [] _ _
      refine fx_i0 aj_d132 rfl (Nat.le_succ _) (fun _ => rfl) hlv1_4 ?_
      refine fx_b0 (tgt := 28) aj_d132 rfl (Nat.le_succ _) rfl (fun q5 => ?_) (fun q5 => ?_)
      · skip
        refine fx_qi (c := (p4).toInt < 0) (fx_t_lt q5) ?_
        show fx_W _ _ _ 28 lv1 [] _ _
        refine fx_n (pc' := 29) (lv' := lv1) (st' := [.int (Int32.ofInt 0)]) aj_d132 rfl (Nat.le_succ _) (fun _ => rfl) ?_
        exact fx_ri aj_d132 rfl ⟨_, rfl, 0, rfl, rfl⟩
      · skip
        refine fx_qe (c := (p4).toInt < 0) (fx_f_lt q5) ?_
        show fx_W _ _ _ 18 lv1 [] _ _
        refine fx_i0 aj_d132 rfl (Nat.le_succ _) (fun _ => rfl) hlv1_4 ?_
        refine fx_i2 aj_d132 rfl (Nat.le_succ _) (fun _ => rfl) hlv1_0 ?_
        refine fx_gF aj_d132 rfl (Nat.le_succ _) rfl rfl fx_in_1_4 (t := 98) rfl (fun hA6 => ?_)
        refine fx_al aj_d132 rfl (Nat.le_succ _) ?_
        rw [(hA6 : X.2.2.2.1 98 = (0, 30))]
        show fx_W _ _ _ 25 lv1 [.int (Int32.ofNat 30), .int p4] _ _
        refine fx_b (tgt := 30) aj_d132 rfl (Nat.le_succ _) rfl (fun q7 => ?_) (fun q7 => ?_)
        · skip
          refine fx_qi (c := (p4).toInt < 30) (fx_t_lt q7) ?_
          show fx_W _ _ _ 30 lv1 [] _ _
          refine fx_n (pc' := 31) (lv' := lv1) (st' := [.int (Int32.ofInt 0)]) aj_d132 rfl (Nat.le_succ _) (fun _ => rfl) ?_
          refine fx_s0 (j := 6) aj_d132 rfl (Nat.le_succ _) (by decide) (fun _ => rfl) ?_
          obtain ⟨lv8, elv8⟩ : ∃ l, l = aj_set1 lv1 6 (.int (Int32.ofInt 0)) := ⟨_, rfl⟩
          rw [← elv8]
          have hlv8_0 : aj_lv lv8 0 = some (.ref 96) := fx_e1 elv8 hlv1_0 (by decide) (Or.inl (by decide))
          have hlv8_1 : aj_lv lv8 1 = some (.ref p1) := fx_e1 elv8 hlv1_1 (by decide) (Or.inl (by decide))
          have hlv8_2 : aj_lv lv8 2 = some (.ref p2) := fx_e1 elv8 hlv1_2 (by decide) (Or.inl (by decide))
          have hlv8_3 : aj_lv lv8 3 = some (.int p3) := fx_e1 elv8 hlv1_3 (by decide) (Or.inl (by decide))
          have hlv8_4 : aj_lv lv8 4 = some (.int p4) := fx_e1 elv8 hlv1_4 (by decide) (Or.inl (by decide))
          have hlv8_5 : aj_lv lv8 5 = some (.int p5) := fx_e1 elv8 hlv1_5 (by decide) (Or.inr rfl)
          have hlv8_6 : aj_lv lv8 6 = some (.int (Int32.ofInt 0)) := by rw [elv8]; exact ak_set1_eq _ _ _
          show fx_W _ _ _ 33 lv8 [] _ _
          exact ((gxL_132 p1 p2 p3 p4 p5 N)) lv8 ((Int32.ofInt 0)) X  hlv8_0 hlv8_1 hlv8_2 hlv8_3 hlv8_4 hlv8_5 hlv8_6
        · skip
          refine fx_qe (c := (p4).toInt < 30) (fx_f_lt q7) ?_
          show fx_W _ _ _ 28 lv1 [] _ _
          refine fx_n (pc' := 29) (lv' := lv1) (st' := [.int (Int32.ofInt 0)]) aj_d132 rfl (Nat.le_succ _) (fun _ => rfl) ?_
          exact fx_ri aj_d132 rfl ⟨_, rfl, 0, rfl, rfl⟩
def gxT_131_3 (p1 : Nat) (p2 : Nat) (p3 : Int32) (p4 : Int32) (P : Nat → List Int32 → List Int64 → List Nat → fx_X → Int32 → fx_X → Prop) (y5 : Int32) (X : fx_X) (v : Int32) (X' : fx_X) : Prop :=
  (if (y5).toInt < (p3).toInt then ((if (y5).toInt < 30 then (∃ (w7 : Int32) (X6 : fx_X), gx_132 p1 p2 y5 p3 p4 X w7 X6 ∧ (if (w7).toInt = 0 then (∃ x9 : Int32, x9 = y5 + Int32.ofInt 1 ∧ P 3 [x9] [] [] X6 v X') else (v = (Int32.ofInt 0) ∧ X' = X6))) else (v = (Int32.ofInt 1) ∧ X' = X))) else (v = (Int32.ofInt 1) ∧ X' = X))
def gxE_131 (p1 : Nat) (p2 : Nat) (p3 : Int32) (p4 : Int32) (P : Nat → List Int32 → List Int64 → List Nat → fx_X → Int32 → fx_X → Prop) (X : fx_X) (v : Int32) (X' : fx_X) : Prop :=
  P 3 [(Int32.ofInt 0)] [] [] X v X'
noncomputable def gxF_131 (p1 : Nat) (p2 : Nat) (p3 : Int32) (p4 : Int32) (n : Nat) : Nat → List Int32 → List Int64 → List Nat → fx_X → Int32 → fx_X → Prop := Nat.rec (motive := fun _ => Nat → List Int32 → List Int64 → List Nat → fx_X → Int32 → fx_X → Prop) (fun _ _ _ _ _ _ _ => False) (fun _ P l is ls rs X v X' => (l = 3 ∧ ∃ (y5 : Int32), is = [y5] ∧ ls = [] ∧ rs = [] ∧ gxT_131_3 p1 p2 p3 p4 P y5 X v X')) n
theorem gxI_131_3 {p1 : Nat} {p2 : Nat} {p3 : Int32} {p4 : Int32} {n : Nat} {y5 : Int32} {X : fx_X} {v : Int32} {X' : fx_X} (h : gxT_131_3 p1 p2 p3 p4 (gxF_131 p1 p2 p3 p4 n) y5 X v X') : gxF_131 p1 p2 p3 p4 (n + 1) 3 [y5] [] [] X v X' := ⟨rfl, y5, rfl, rfl, rfl, h⟩
theorem gxO_131_3 {p1 : Nat} {p2 : Nat} {p3 : Int32} {p4 : Int32} {n : Nat} {y5 : Int32} {X : fx_X} {v : Int32} {X' : fx_X} (h : gxF_131 p1 p2 p3 p4 (n + 1) 3 [y5] [] [] X v X') : gxT_131_3 p1 p2 p3 p4 (gxF_131 p1 p2 p3 p4 n) y5 X v X' := by
  rcases h with ⟨-, _, e1, e2, e3, h⟩
  · cases e1; cases e2; cases e3; exact h
def gx_131 (p1 : Nat) (p2 : Nat) (p3 : Int32) (p4 : Int32) (X : fx_X) (v : Int32) (X' : fx_X) : Prop := ∃ n : Nat, gxE_131 p1 p2 p3 p4 (gxF_131 p1 p2 p3 p4 n) X v X'
theorem gxL_131 {tb : aj_T} (p1 : Nat) (p2 : Nat) (p3 : Int32) (p4 : Int32) : ∀ N : Nat, (∀ (lv : aj_V) (y5 : Int32) (X : fx_X), aj_lv lv 0 = some (.ref 96) → aj_lv lv 1 = some (.ref p1) → aj_lv lv 2 = some (.ref p2) → aj_lv lv 3 = some (.int p3) → aj_lv lv 4 = some (.int p4) → aj_lv lv 5 = some (.int y5) → fx_W tb aj_m131 N 3 lv [] X (fx_Q fx_qI (fun v X' => ∃ n : Nat, gxF_131 p1 p2 p3 p4 n 3 [y5] [] [] X v X'))) := by
  intro N
  induction N with
  | zero => exact (by intros; exact fx_z)
  | succ N ih =>
    skip
    · intro lv y5 X hlv_0 hlv_1 hlv_2 hlv_3 hlv_4 hlv_5
      refine fx_mono (Q := fx_Q fx_qI (fun v X' => ∃ n : Nat, gxT_131_3 p1 p2 p3 p4 (gxF_131 p1 p2 p3 p4 n) y5 X v X')) (fun r X' ⟨v, e, n, z⟩ => ⟨v, e, n + 1, gxI_131_3 z⟩) ?_
      unfold gxT_131_3
      refine fx_i0 aj_d131 rfl (Nat.le_refl _) (fun _ => rfl) hlv_5 ?_
      refine fx_i0 aj_d131 rfl (Nat.le_succ _) (fun _ => rfl) hlv_3 ?_
      refine fx_b (tgt := 41) aj_d131 rfl (Nat.le_succ _) rfl (fun q3 => ?_) (fun q3 => ?_)
      · skip
        refine fx_qe (c := (y5).toInt < (p3).toInt) (fx_t_ge q3) ?_
        show fx_W _ _ _ 41 lv [] _ _
        refine fx_n (pc' := 42) (lv' := lv) (st' := [.int (Int32.ofInt 1)]) aj_d131 rfl (Nat.le_succ _) (fun _ => rfl) ?_
        exact fx_ri aj_d131 rfl ⟨_, rfl, 0, rfl, rfl⟩
      · skip
        refine fx_qi (c := (y5).toInt < (p3).toInt) (fx_f_ge q3) ?_
        show fx_W _ _ _ 9 lv [] _ _
        refine fx_i0 aj_d131 rfl (Nat.le_succ _) (fun _ => rfl) hlv_5 ?_
        refine fx_i2 aj_d131 rfl (Nat.le_succ _) (fun _ => rfl) hlv_0 ?_
        refine fx_gF aj_d131 rfl (Nat.le_succ _) rfl rfl fx_in_1_4 (t := 98) rfl (fun hA4 => ?_)
        refine fx_al aj_d131 rfl (Nat.le_succ _) ?_
        rw [(hA4 : X.2.2.2.1 98 = (0, 30))]
        show fx_W _ _ _ 16 lv [.int (Int32.ofNat 30), .int y5] _ _
        refine fx_b (tgt := 41) aj_d131 rfl (Nat.le_succ _) rfl (fun q5 => ?_) (fun q5 => ?_)
        · skip
          refine fx_qe (c := (y5).toInt < 30) (fx_t_ge q5) ?_
          show fx_W _ _ _ 41 lv [] _ _
          refine fx_n (pc' := 42) (lv' := lv) (st' := [.int (Int32.ofInt 1)]) aj_d131 rfl (Nat.le_succ _) (fun _ => rfl) ?_
          exact fx_ri aj_d131 rfl ⟨_, rfl, 0, rfl, rfl⟩
        · skip
          refine fx_qi (c := (y5).toInt < 30) (fx_f_ge q5) ?_
          show fx_W _ _ _ 19 lv [] _ _
          refine fx_i2 aj_d131 rfl (Nat.le_succ _) (fun _ => rfl) hlv_0 ?_
          refine fx_i2 aj_d131 rfl (Nat.le_succ _) (fun _ => rfl) hlv_1 ?_
          refine fx_i2 aj_d131 rfl (Nat.le_succ _) (fun _ => rfl) hlv_2 ?_
          refine fx_i0 aj_d131 rfl (Nat.le_succ _) (fun _ => rfl) hlv_5 ?_
          refine fx_i0 aj_d131 rfl (Nat.le_succ _) (fun _ => rfl) hlv_3 ?_
          refine fx_i0 aj_d131 rfl (Nat.le_succ _) (fun _ => rfl) hlv_4 ?_
          refine fx_cv aj_d131 rfl (Nat.le_succ _) rfl [_, _, _, _, _] rfl rfl (gx_132_ok p1 p2 y5 p3 p4) ?_
          rintro _ X6 ⟨w7, rfl, hR6⟩ hok6 hle6
          refine fx_qc hR6 ?_
          show fx_W _ _ _ 30 lv [.int w7] _ _
          refine fx_b0 (tgt := 35) aj_d131 rfl (Nat.le_succ _) rfl (fun q8 => ?_) (fun q8 => ?_)
          · skip
            refine fx_qi (c := (w7).toInt = 0) (fx_t_eq q8) ?_
            show fx_W _ _ _ 35 lv [] _ _
            refine fx_incq aj_d131 rfl (Nat.le_succ _) hlv_5 (by decide) (fun x9 ex9 => ?_)
            obtain ⟨lv10, elv10⟩ : ∃ l, l = aj_set1 lv 5 (.int x9) := ⟨_, rfl⟩
            rw [← elv10]
            have hlv10_0 : aj_lv lv10 0 = some (.ref 96) := fx_e1 elv10 hlv_0 (by decide) (Or.inl (by decide))
            have hlv10_1 : aj_lv lv10 1 = some (.ref p1) := fx_e1 elv10 hlv_1 (by decide) (Or.inl (by decide))
            have hlv10_2 : aj_lv lv10 2 = some (.ref p2) := fx_e1 elv10 hlv_2 (by decide) (Or.inl (by decide))
            have hlv10_3 : aj_lv lv10 3 = some (.int p3) := fx_e1 elv10 hlv_3 (by decide) (Or.inl (by decide))
            have hlv10_4 : aj_lv lv10 4 = some (.int p4) := fx_e1 elv10 hlv_4 (by decide) (Or.inr rfl)
            have hlv10_5 : aj_lv lv10 5 = some (.int x9) := by rw [elv10]; exact ak_set1_eq _ _ _
            show fx_W _ _ _ 38 lv10 [] _ _
            refine fx_n (pc' := 3) (lv' := lv10) (st' := []) aj_d131 rfl (Nat.le_succ _) (fun _ => rfl) ?_
            exact (ih) lv10 (x9) X6  hlv10_0 hlv10_1 hlv10_2 hlv10_3 hlv10_4 hlv10_5
          · skip
            refine fx_qe (c := (w7).toInt = 0) (fx_f_eq q8) ?_
            show fx_W _ _ _ 33 lv [] _ _
            refine fx_n (pc' := 34) (lv' := lv) (st' := [.int (Int32.ofInt 0)]) aj_d131 rfl (Nat.le_succ _) (fun _ => rfl) ?_
            exact fx_ri aj_d131 rfl ⟨_, rfl, 0, rfl, rfl⟩
theorem gx_131_ok {tb : aj_T} (p1 : Nat) (p2 : Nat) (p3 : Int32) (p4 : Int32) {X : fx_X} : fx_K tb 131 [.ref 96, .ref p1, .ref p2, .int p3, .int p4] X (fx_Q fx_qI (fun v X' => gx_131 p1 p2 p3 p4 X v X')) := by
  refine fx_m aj_m131_at rfl (fun N => ?_)
  refine fx_mono (Q := fx_Q fx_qI (fun v X' => ∃ n : Nat, gxE_131 p1 p2 p3 p4 (gxF_131 p1 p2 p3 p4 n) X v X')) (fun r X' h => h) ?_
  unfold gxE_131
  show fx_W _ _ _ 0 [(0, .ref 96), (1, .ref p1), (2, .ref p2), (3, .int p3), (4, .int p4)] [] _ _
  obtain ⟨lv1, elv1⟩ : ∃ l : aj_V, l = [(0, .ref 96), (1, .ref p1), (2, .ref p2), (3, .int p3), (4, .int p4)] := ⟨_, rfl⟩
  rw [← elv1]
  have hlv1_0 : aj_lv lv1 0 = some (.ref 96) := by rw [elv1]; rfl
  have hlv1_1 : aj_lv lv1 1 = some (.ref p1) := by rw [elv1]; rfl
  have hlv1_2 : aj_lv lv1 2 = some (.ref p2) := by rw [elv1]; rfl
  have hlv1_3 : aj_lv lv1 3 = some (.int p3) := by rw [elv1]; rfl
  have hlv1_4 : aj_lv lv1 4 = some (.int p4) := by rw [elv1]; rfl
  refine fx_n (pc' := 1) (lv' := lv1) (st' := [.int (Int32.ofInt 0)]) aj_d131 rfl (Nat.le_succ _) (fun _ => rfl) ?_
  refine fx_s0 (j := 5) aj_d131 rfl (Nat.le_succ _) (by decide) (fun _ => rfl) ?_
  obtain ⟨lv2, elv2⟩ : ∃ l, l = aj_set1 lv1 5 (.int (Int32.ofInt 0)) := ⟨_, rfl⟩
  rw [← elv2]
  have hlv2_0 : aj_lv lv2 0 = some (.ref 96) := fx_e1 elv2 hlv1_0 (by decide) (Or.inl (by decide))
  have hlv2_1 : aj_lv lv2 1 = some (.ref p1) := fx_e1 elv2 hlv1_1 (by decide) (Or.inl (by decide))
  have hlv2_2 : aj_lv lv2 2 = some (.ref p2) := fx_e1 elv2 hlv1_2 (by decide) (Or.inl (by decide))
  have hlv2_3 : aj_lv lv2 3 = some (.int p3) := fx_e1 elv2 hlv1_3 (by decide) (Or.inl (by decide))
  have hlv2_4 : aj_lv lv2 4 = some (.int p4) := fx_e1 elv2 hlv1_4 (by decide) (Or.inr rfl)
  have hlv2_5 : aj_lv lv2 5 = some (.int (Int32.ofInt 0)) := by rw [elv2]; exact ak_set1_eq _ _ _
  show fx_W _ _ _ 3 lv2 [] _ _
  exact ((gxL_131 p1 p2 p3 p4 N)) lv2 ((Int32.ofInt 0)) X  hlv2_0 hlv2_1 hlv2_2 hlv2_3 hlv2_4 hlv2_5
def gx_135 (p1 : Int32) (p2 : Int32) (X : fx_X) (v : Int32) (X' : fx_X) : Prop :=
  (if ((X.1 96 2)).toInt = 16 then (v = (p1 + (Int32.ofInt 1)) ∧ X' = X) else ((if ((X.1 96 2)).toInt = 17 then (v = (if p2 < p1 then p2 else p1) ∧ X' = X) else ((if ((X.1 96 2)).toInt = 18 then (v = (if p1 < p2 then p2 else p1) ∧ X' = X) else (v = (p1 + p2) ∧ X' = X))))))
theorem gx_135_ok {tb : aj_T} (p1 : Int32) (p2 : Int32) {X : fx_X} : fx_K tb 135 [.ref 96, .int p1, .int p2] X (fx_Q fx_qI (fun v X' => gx_135 p1 p2 X v X')) := by
  refine fx_m aj_m135_at rfl (fun N => ?_)
  refine fx_mono (Q := fx_Q fx_qI (fun v X' => ∃ n : Nat, gx_135 p1 p2 X v X')) (fun r X' ⟨v, e, _, z⟩ => ⟨v, e, z⟩) ?_
  unfold gx_135
  show fx_W _ _ _ 0 [(0, .ref 96), (1, .int p1), (2, .int p2)] [] _ _
  obtain ⟨lv1, elv1⟩ : ∃ l : aj_V, l = [(0, .ref 96), (1, .int p1), (2, .int p2)] := ⟨_, rfl⟩
  rw [← elv1]
  have hlv1_0 : aj_lv lv1 0 = some (.ref 96) := by rw [elv1]; rfl
  have hlv1_1 : aj_lv lv1 1 = some (.int p1) := by rw [elv1]; rfl
  have hlv1_2 : aj_lv lv1 2 = some (.int p2) := by rw [elv1]; rfl
  refine fx_i2 aj_d135 rfl (Nat.le_succ _) (fun _ => rfl) hlv1_0 ?_
  refine fx_gI aj_d135 rfl (Nat.le_succ _) rfl rfl (Or.inl rfl) ?_
  by_cases q3 : ((X.1 96 2)).toInt = 16
  · skip
    refine fx_qi (c := ((X.1 96 2)).toInt = 16) q3 ?_
    refine fx_ts (tgt := 32) aj_d135 rfl (Nat.le_succ _) q3 (by decide) rfl rfl ?_
    show fx_W _ _ _ 32 lv1 [] _ _
    refine fx_i0 aj_d135 rfl (Nat.le_succ _) (fun _ => rfl) hlv1_1 ?_
    refine fx_n (pc' := 34) (lv' := lv1) (st' := [.int (Int32.ofInt 1), .int p1]) aj_d135 rfl (Nat.le_succ _) (fun _ => rfl) ?_
    refine fx_n (pc' := 35) (lv' := lv1) (st' := [.int (p1 + (Int32.ofInt 1))]) aj_d135 rfl (Nat.le_succ _) (fun _ => rfl) ?_
    exact fx_ri aj_d135 rfl ⟨_, rfl, 0, rfl, rfl⟩
  · skip
    refine fx_qe (c := ((X.1 96 2)).toInt = 16) q3 ?_
    by_cases q4 : ((X.1 96 2)).toInt = 17
    · skip
      refine fx_qi (c := ((X.1 96 2)).toInt = 17) q4 ?_
      refine fx_ts (tgt := 36) aj_d135 rfl (Nat.le_succ _) q4 (by decide) rfl rfl ?_
      show fx_W _ _ _ 36 lv1 [] _ _
      refine fx_i0 aj_d135 rfl (Nat.le_succ _) (fun _ => rfl) hlv1_1 ?_
      refine fx_i0 aj_d135 rfl (Nat.le_succ _) (fun _ => rfl) hlv1_2 ?_
      refine fx_mn aj_d135 rfl (Nat.le_succ _) rfl ?_
      show fx_W _ _ _ 41 lv1 [.int (if p2 < p1 then p2 else p1)] _ _
      exact fx_ri aj_d135 rfl ⟨_, rfl, 0, rfl, rfl⟩
    · skip
      refine fx_qe (c := ((X.1 96 2)).toInt = 17) q4 ?_
      by_cases q5 : ((X.1 96 2)).toInt = 18
      · skip
        refine fx_qi (c := ((X.1 96 2)).toInt = 18) q5 ?_
        refine fx_ts (tgt := 42) aj_d135 rfl (Nat.le_succ _) q5 (by decide) rfl rfl ?_
        show fx_W _ _ _ 42 lv1 [] _ _
        refine fx_i0 aj_d135 rfl (Nat.le_succ _) (fun _ => rfl) hlv1_1 ?_
        refine fx_i0 aj_d135 rfl (Nat.le_succ _) (fun _ => rfl) hlv1_2 ?_
        refine fx_mx aj_d135 rfl (Nat.le_succ _) rfl ?_
        show fx_W _ _ _ 47 lv1 [.int (if p1 < p2 then p2 else p1)] _ _
        exact fx_ri aj_d135 rfl ⟨_, rfl, 0, rfl, rfl⟩
      · skip
        refine fx_qe (c := ((X.1 96 2)).toInt = 18) q5 ?_
        refine fx_td (tgt := 48) aj_d135 rfl (Nat.le_succ _) (by omega) rfl ?_
        show fx_W _ _ _ 48 lv1 [] _ _
        refine fx_i0 aj_d135 rfl (Nat.le_succ _) (fun _ => rfl) hlv1_1 ?_
        refine fx_i0 aj_d135 rfl (Nat.le_succ _) (fun _ => rfl) hlv1_2 ?_
        refine fx_n (pc' := 51) (lv' := lv1) (st' := [.int (p1 + p2)]) aj_d135 rfl (Nat.le_succ _) (fun _ => rfl) ?_
        exact fx_ri aj_d135 rfl ⟨_, rfl, 0, rfl, rfl⟩
def gx_134 (p1 : Int32) (X : fx_X) (v : Int32) (X' : fx_X) : Prop :=
  (if ((X.1 96 2)).toInt = 16 then (v = (Int32.ofInt 1) ∧ X' = X) else (v = p1 ∧ X' = X))
theorem gx_134_ok {tb : aj_T} (p1 : Int32) {X : fx_X} : fx_K tb 134 [.ref 96, .int p1] X (fx_Q fx_qI (fun v X' => gx_134 p1 X v X')) := by
  refine fx_m aj_m134_at rfl (fun N => ?_)
  refine fx_mono (Q := fx_Q fx_qI (fun v X' => ∃ n : Nat, gx_134 p1 X v X')) (fun r X' ⟨v, e, _, z⟩ => ⟨v, e, z⟩) ?_
  unfold gx_134
  show fx_W _ _ _ 0 [(0, .ref 96), (1, .int p1)] [] _ _
  obtain ⟨lv1, elv1⟩ : ∃ l : aj_V, l = [(0, .ref 96), (1, .int p1)] := ⟨_, rfl⟩
  rw [← elv1]
  have hlv1_0 : aj_lv lv1 0 = some (.ref 96) := by rw [elv1]; rfl
  have hlv1_1 : aj_lv lv1 1 = some (.int p1) := by rw [elv1]; rfl
  refine fx_i2 aj_d134 rfl (Nat.le_succ _) (fun _ => rfl) hlv1_0 ?_
  refine fx_gI aj_d134 rfl (Nat.le_succ _) rfl rfl (Or.inl rfl) ?_
  refine fx_n (pc' := 6) (lv' := lv1) (st' := [.int ((Int8.ofInt 16).toInt32), .int (X.1 96 2)]) aj_d134 rfl (Nat.le_succ _) (fun _ => rfl) ?_
  refine fx_b (tgt := 13) aj_d134 rfl (Nat.le_succ _) rfl (fun q2 => ?_) (fun q2 => ?_)
  · skip
    refine fx_qe (c := ((X.1 96 2)).toInt = 16) (fx_t_ne q2) ?_
    show fx_W _ _ _ 13 lv1 [] _ _
    refine fx_i0 aj_d134 rfl (Nat.le_succ _) (fun _ => rfl) hlv1_1 ?_
    exact fx_ri aj_d134 rfl ⟨_, rfl, 0, rfl, rfl⟩
  · skip
    refine fx_qi (c := ((X.1 96 2)).toInt = 16) (fx_f_ne q2) ?_
    show fx_W _ _ _ 9 lv1 [] _ _
    refine fx_n (pc' := 10) (lv' := lv1) (st' := [.int (Int32.ofInt 1)]) aj_d134 rfl (Nat.le_succ _) (fun _ => rfl) ?_
    refine fx_n (pc' := 14) (lv' := lv1) (st' := [.int (Int32.ofInt 1)]) aj_d134 rfl (Nat.le_succ _) (fun _ => rfl) ?_
    exact fx_ri aj_d134 rfl ⟨_, rfl, 0, rfl, rfl⟩
def gxT_133_6 (p1 : Nat) (p2 : Nat) (p3 : Int32) (p4 : Int32) (p5 : Int32) (P : Nat → List Int32 → List Int64 → List Nat → fx_X → Int32 → fx_X → Prop) (y6 : Int32) (y7 : Int32) (X : fx_X) (v : Int32) (X' : fx_X) : Prop :=
  (if (y7).toInt < (p4).toInt then ((if (y7).toInt < 30 then (∃ (w8 : Int32) (X7 : fx_X), gx_132 p1 p2 p3 y7 p5 X w8 X7 ∧ (if (w8).toInt = 0 then (∃ x10 : Int32, x10 = y7 + Int32.ofInt 1 ∧ P 6 [y6, x10] [] [] X7 v X') else ((0 ≤ (y7).toInt ∧ (y7).toInt < ((30 : Nat) : Int)) ∧ ∃ (w15 : Int32) (X14 : fx_X), gx_114_2 p2 p1 (X7.1 98 (y7).toInt.toNat) (X7.1 96 3) p5 X7 w15 X14 ∧ (if (y7).toInt = (p3).toInt then (∃ (w24 : Int32) (X23 : fx_X), gx_134 w15 X14 w24 X23 ∧ ∃ x26 : Int32, x26 = y7 + Int32.ofInt 1 ∧ P 6 [w24, x26] [] [] X23 v X') else (∃ (w19 : Int32) (X18 : fx_X), gx_135 y6 w15 X14 w19 X18 ∧ ∃ x21 : Int32, x21 = y7 + Int32.ofInt 1 ∧ P 6 [w19, x21] [] [] X18 v X'))))) else (v = y6 ∧ X' = X))) else (v = y6 ∧ X' = X))
def gxE_133 (p1 : Nat) (p2 : Nat) (p3 : Int32) (p4 : Int32) (p5 : Int32) (P : Nat → List Int32 → List Int64 → List Nat → fx_X → Int32 → fx_X → Prop) (X : fx_X) (v : Int32) (X' : fx_X) : Prop :=
  P 6 [(Int32.ofInt 0), p3] [] [] X v X'
noncomputable def gxF_133 (p1 : Nat) (p2 : Nat) (p3 : Int32) (p4 : Int32) (p5 : Int32) (n : Nat) : Nat → List Int32 → List Int64 → List Nat → fx_X → Int32 → fx_X → Prop := Nat.rec (motive := fun _ => Nat → List Int32 → List Int64 → List Nat → fx_X → Int32 → fx_X → Prop) (fun _ _ _ _ _ _ _ => False) (fun _ P l is ls rs X v X' => (l = 6 ∧ ∃ (y6 : Int32) (y7 : Int32), is = [y6, y7] ∧ ls = [] ∧ rs = [] ∧ gxT_133_6 p1 p2 p3 p4 p5 P y6 y7 X v X')) n
theorem gxI_133_6 {p1 : Nat} {p2 : Nat} {p3 : Int32} {p4 : Int32} {p5 : Int32} {n : Nat} {y6 : Int32} {y7 : Int32} {X : fx_X} {v : Int32} {X' : fx_X} (h : gxT_133_6 p1 p2 p3 p4 p5 (gxF_133 p1 p2 p3 p4 p5 n) y6 y7 X v X') : gxF_133 p1 p2 p3 p4 p5 (n + 1) 6 [y6, y7] [] [] X v X' := ⟨rfl, y6, y7, rfl, rfl, rfl, h⟩
theorem gxO_133_6 {p1 : Nat} {p2 : Nat} {p3 : Int32} {p4 : Int32} {p5 : Int32} {n : Nat} {y6 : Int32} {y7 : Int32} {X : fx_X} {v : Int32} {X' : fx_X} (h : gxF_133 p1 p2 p3 p4 p5 (n + 1) 6 [y6, y7] [] [] X v X') : gxT_133_6 p1 p2 p3 p4 p5 (gxF_133 p1 p2 p3 p4 p5 n) y6 y7 X v X' := by
  rcases h with ⟨-, _, _, e1, e2, e3, h⟩
  · cases e1; cases e2; cases e3; exact h
def gx_133 (p1 : Nat) (p2 : Nat) (p3 : Int32) (p4 : Int32) (p5 : Int32) (X : fx_X) (v : Int32) (X' : fx_X) : Prop := ∃ n : Nat, gxE_133 p1 p2 p3 p4 p5 (gxF_133 p1 p2 p3 p4 p5 n) X v X'
theorem gxL_133 {tb : aj_T} (p1 : Nat) (p2 : Nat) (p3 : Int32) (p4 : Int32) (p5 : Int32) : ∀ N : Nat, (∀ (lv : aj_V) (y6 : Int32) (y7 : Int32) (X : fx_X), aj_lv lv 0 = some (.ref 96) → aj_lv lv 1 = some (.ref p1) → aj_lv lv 2 = some (.ref p2) → aj_lv lv 3 = some (.int p3) → aj_lv lv 4 = some (.int p4) → aj_lv lv 5 = some (.int p5) → aj_lv lv 6 = some (.int y6) → aj_lv lv 7 = some (.int y7) → fx_W tb aj_m133 N 6 lv [] X (fx_Q fx_qI (fun v X' => ∃ n : Nat, gxF_133 p1 p2 p3 p4 p5 n 6 [y6, y7] [] [] X v X'))) := by
  intro N
  induction N with
  | zero => exact (by intros; exact fx_z)
  | succ N ih =>
    skip
    · intro lv y6 y7 X hlv_0 hlv_1 hlv_2 hlv_3 hlv_4 hlv_5 hlv_6 hlv_7
      refine fx_mono (Q := fx_Q fx_qI (fun v X' => ∃ n : Nat, gxT_133_6 p1 p2 p3 p4 p5 (gxF_133 p1 p2 p3 p4 p5 n) y6 y7 X v X')) (fun r X' ⟨v, e, n, z⟩ => ⟨v, e, n + 1, gxI_133_6 z⟩) ?_
      unfold gxT_133_6
      refine fx_i0 aj_d133 rfl (Nat.le_refl _) (fun _ => rfl) hlv_7 ?_
      refine fx_i0 aj_d133 rfl (Nat.le_succ _) (fun _ => rfl) hlv_4 ?_
      refine fx_b (tgt := 88) aj_d133 rfl (Nat.le_succ _) rfl (fun q4 => ?_) (fun q4 => ?_)
      · skip
        refine fx_qe (c := (y7).toInt < (p4).toInt) (fx_t_ge q4) ?_
        show fx_W _ _ _ 88 lv [] _ _
        refine fx_i0 aj_d133 rfl (Nat.le_succ _) (fun _ => rfl) hlv_6 ?_
        exact fx_ri aj_d133 rfl ⟨_, rfl, 0, rfl, rfl⟩
      · skip
        refine fx_qi (c := (y7).toInt < (p4).toInt) (fx_f_ge q4) ?_
        show fx_W _ _ _ 13 lv [] _ _
        refine fx_i0 aj_d133 rfl (Nat.le_succ _) (fun _ => rfl) hlv_7 ?_
        refine fx_i2 aj_d133 rfl (Nat.le_succ _) (fun _ => rfl) hlv_0 ?_
        refine fx_gF aj_d133 rfl (Nat.le_succ _) rfl rfl fx_in_1_4 (t := 98) rfl (fun hA5 => ?_)
        refine fx_al aj_d133 rfl (Nat.le_succ _) ?_
        rw [(hA5 : X.2.2.2.1 98 = (0, 30))]
        show fx_W _ _ _ 20 lv [.int (Int32.ofNat 30), .int y7] _ _
        refine fx_b (tgt := 88) aj_d133 rfl (Nat.le_succ _) rfl (fun q6 => ?_) (fun q6 => ?_)
        · skip
          refine fx_qe (c := (y7).toInt < 30) (fx_t_ge q6) ?_
          show fx_W _ _ _ 88 lv [] _ _
          refine fx_i0 aj_d133 rfl (Nat.le_succ _) (fun _ => rfl) hlv_6 ?_
          exact fx_ri aj_d133 rfl ⟨_, rfl, 0, rfl, rfl⟩
        · skip
          refine fx_qi (c := (y7).toInt < 30) (fx_f_ge q6) ?_
          show fx_W _ _ _ 23 lv [] _ _
          refine fx_i2 aj_d133 rfl (Nat.le_succ _) (fun _ => rfl) hlv_0 ?_
          refine fx_i2 aj_d133 rfl (Nat.le_succ _) (fun _ => rfl) hlv_1 ?_
          refine fx_i2 aj_d133 rfl (Nat.le_succ _) (fun _ => rfl) hlv_2 ?_
          refine fx_i0 aj_d133 rfl (Nat.le_succ _) (fun _ => rfl) hlv_3 ?_
          refine fx_i0 aj_d133 rfl (Nat.le_succ _) (fun _ => rfl) hlv_7 ?_
          refine fx_i0 aj_d133 rfl (Nat.le_succ _) (fun _ => rfl) hlv_5 ?_
          refine fx_cv aj_d133 rfl (Nat.le_succ _) rfl [_, _, _, _, _] rfl rfl (gx_132_ok p1 p2 p3 y7 p5) ?_
          rintro _ X7 ⟨w8, rfl, hR7⟩ hok7 hle7
          refine fx_qc hR7 ?_
          show fx_W _ _ _ 34 lv [.int w8] _ _
          refine fx_b0 (tgt := 82) aj_d133 rfl (Nat.le_succ _) rfl (fun q9 => ?_) (fun q9 => ?_)
          · skip
            refine fx_qi (c := (w8).toInt = 0) (fx_t_eq q9) ?_
            show fx_W _ _ _ 82 lv [] _ _
            refine fx_incq aj_d133 rfl (Nat.le_succ _) hlv_7 (by decide) (fun x10 ex10 => ?_)
            obtain ⟨lv11, elv11⟩ : ∃ l, l = aj_set1 lv 7 (.int x10) := ⟨_, rfl⟩
            rw [← elv11]
            have hlv11_0 : aj_lv lv11 0 = some (.ref 96) := fx_e1 elv11 hlv_0 (by decide) (Or.inl (by decide))
            have hlv11_1 : aj_lv lv11 1 = some (.ref p1) := fx_e1 elv11 hlv_1 (by decide) (Or.inl (by decide))
            have hlv11_2 : aj_lv lv11 2 = some (.ref p2) := fx_e1 elv11 hlv_2 (by decide) (Or.inl (by decide))
            have hlv11_3 : aj_lv lv11 3 = some (.int p3) := fx_e1 elv11 hlv_3 (by decide) (Or.inl (by decide))
            have hlv11_4 : aj_lv lv11 4 = some (.int p4) := fx_e1 elv11 hlv_4 (by decide) (Or.inl (by decide))
            have hlv11_5 : aj_lv lv11 5 = some (.int p5) := fx_e1 elv11 hlv_5 (by decide) (Or.inl (by decide))
            have hlv11_6 : aj_lv lv11 6 = some (.int y6) := fx_e1 elv11 hlv_6 (by decide) (Or.inr rfl)
            have hlv11_7 : aj_lv lv11 7 = some (.int x10) := by rw [elv11]; exact ak_set1_eq _ _ _
            show fx_W _ _ _ 85 lv11 [] _ _
            refine fx_n (pc' := 6) (lv' := lv11) (st' := []) aj_d133 rfl (Nat.le_succ _) (fun _ => rfl) ?_
            exact (ih) lv11 (y6) (x10) X7  hlv11_0 hlv11_1 hlv11_2 hlv11_3 hlv11_4 hlv11_5 hlv11_6 hlv11_7
          · skip
            refine fx_qe (c := (w8).toInt = 0) (fx_f_eq q9) ?_
            show fx_W _ _ _ 37 lv [] _ _
            refine fx_i2 aj_d133 rfl (Nat.le_succ _) (fun _ => rfl) hlv_2 ?_
            refine fx_i2 aj_d133 rfl (Nat.le_succ _) (fun _ => rfl) hlv_1 ?_
            refine fx_i2 aj_d133 rfl (Nat.le_succ _) (fun _ => rfl) hlv_0 ?_
            refine fx_gF aj_d133 rfl (Nat.le_succ _) rfl rfl fx_in_1_4 (t := 98) rfl (fun hA12 => ?_)
            refine fx_i0 aj_d133 rfl (Nat.le_succ _) (fun _ => rfl) hlv_7 ?_
            refine fx_ld aj_d133 (Or.inl rfl) rfl (Nat.le_succ _) (fun g130 g131 => ?_)
            show fx_W _ _ _ 46 lv [.int (X7.1 98 (y7).toInt.toNat), .ref p1, .ref p2] _ _
            refine fx_qa (c := 0 ≤ (y7).toInt ∧ (y7).toInt < ((30 : Nat) : Int)) ⟨g130, fx_lnk g131 hA12⟩ ?_
            refine fx_i2 aj_d133 rfl (Nat.le_succ _) (fun _ => rfl) hlv_0 ?_
            refine fx_gI aj_d133 rfl (Nat.le_succ _) rfl rfl (Or.inl rfl) ?_
            refine fx_i0 aj_d133 rfl (Nat.le_succ _) (fun _ => rfl) hlv_5 ?_
            refine fx_cv aj_d133 rfl (Nat.le_succ _) rfl [_, _, _, _] rfl rfl (gx_114_2_ok p2 p1 (X7.1 98 (y7).toInt.toNat) (X7.1 96 3) p5) ?_
            rintro _ X14 ⟨w15, rfl, hR14⟩ hok14 hle14
            refine fx_qc hR14 ?_
            show fx_W _ _ _ 55 lv [.int w15] _ _
            refine fx_s0 (j := 8) aj_d133 rfl (Nat.le_succ _) (by decide) (fun _ => rfl) ?_
            obtain ⟨lv16, elv16⟩ : ∃ l, l = aj_set1 lv 8 (.int w15) := ⟨_, rfl⟩
            rw [← elv16]
            have hlv16_0 : aj_lv lv16 0 = some (.ref 96) := fx_e1 elv16 hlv_0 (by decide) (Or.inl (by decide))
            have hlv16_1 : aj_lv lv16 1 = some (.ref p1) := fx_e1 elv16 hlv_1 (by decide) (Or.inl (by decide))
            have hlv16_2 : aj_lv lv16 2 = some (.ref p2) := fx_e1 elv16 hlv_2 (by decide) (Or.inl (by decide))
            have hlv16_3 : aj_lv lv16 3 = some (.int p3) := fx_e1 elv16 hlv_3 (by decide) (Or.inl (by decide))
            have hlv16_4 : aj_lv lv16 4 = some (.int p4) := fx_e1 elv16 hlv_4 (by decide) (Or.inl (by decide))
            have hlv16_5 : aj_lv lv16 5 = some (.int p5) := fx_e1 elv16 hlv_5 (by decide) (Or.inl (by decide))
            have hlv16_6 : aj_lv lv16 6 = some (.int y6) := fx_e1 elv16 hlv_6 (by decide) (Or.inl (by decide))
            have hlv16_7 : aj_lv lv16 7 = some (.int y7) := fx_e1 elv16 hlv_7 (by decide) (Or.inr rfl)
            have hlv16_8 : aj_lv lv16 8 = some (.int w15) := by rw [elv16]; exact ak_set1_eq _ _ _
            show fx_W _ _ _ 57 lv16 [] _ _
            refine fx_i0 aj_d133 rfl (Nat.le_succ _) (fun _ => rfl) hlv16_7 ?_
            refine fx_i0 aj_d133 rfl (Nat.le_succ _) (fun _ => rfl) hlv16_3 ?_
            refine fx_b (tgt := 72) aj_d133 rfl (Nat.le_succ _) rfl (fun q17 => ?_) (fun q17 => ?_)
            · skip
              refine fx_qe (c := (y7).toInt = (p3).toInt) (fx_t_ne q17) ?_
              show fx_W _ _ _ 72 lv16 [] _ _
              refine fx_i2 aj_d133 rfl (Nat.le_succ _) (fun _ => rfl) hlv16_0 ?_
              refine fx_i0 aj_d133 rfl (Nat.le_succ _) (fun _ => rfl) hlv16_6 ?_
              refine fx_i0 aj_d133 rfl (Nat.le_succ _) (fun _ => rfl) hlv16_8 ?_
              refine fx_cv aj_d133 rfl (Nat.le_succ _) rfl [_, _] rfl rfl (gx_135_ok y6 w15) ?_
              rintro _ X18 ⟨w19, rfl, hR18⟩ hok18 hle18
              refine fx_qc hR18 ?_
              show fx_W _ _ _ 80 lv16 [.int w19] _ _
              refine fx_s0 (j := 6) aj_d133 rfl (Nat.le_succ _) (by decide) (fun _ => rfl) ?_
              obtain ⟨lv20, elv20⟩ : ∃ l, l = aj_set1 lv16 6 (.int w19) := ⟨_, rfl⟩
              rw [← elv20]
              have hlv20_0 : aj_lv lv20 0 = some (.ref 96) := fx_e1 elv20 hlv16_0 (by decide) (Or.inl (by decide))
              have hlv20_1 : aj_lv lv20 1 = some (.ref p1) := fx_e1 elv20 hlv16_1 (by decide) (Or.inl (by decide))
              have hlv20_2 : aj_lv lv20 2 = some (.ref p2) := fx_e1 elv20 hlv16_2 (by decide) (Or.inl (by decide))
              have hlv20_3 : aj_lv lv20 3 = some (.int p3) := fx_e1 elv20 hlv16_3 (by decide) (Or.inl (by decide))
              have hlv20_4 : aj_lv lv20 4 = some (.int p4) := fx_e1 elv20 hlv16_4 (by decide) (Or.inl (by decide))
              have hlv20_5 : aj_lv lv20 5 = some (.int p5) := fx_e1 elv20 hlv16_5 (by decide) (Or.inr rfl)
              have hlv20_7 : aj_lv lv20 7 = some (.int y7) := fx_e1 elv20 hlv16_7 (by decide) (Or.inl (by decide))
              have hlv20_6 : aj_lv lv20 6 = some (.int w19) := by rw [elv20]; exact ak_set1_eq _ _ _
              show fx_W _ _ _ 82 lv20 [] _ _
              refine fx_incq aj_d133 rfl (Nat.le_succ _) hlv20_7 (by decide) (fun x21 ex21 => ?_)
              obtain ⟨lv22, elv22⟩ : ∃ l, l = aj_set1 lv20 7 (.int x21) := ⟨_, rfl⟩
              rw [← elv22]
              have hlv22_0 : aj_lv lv22 0 = some (.ref 96) := fx_e1 elv22 hlv20_0 (by decide) (Or.inl (by decide))
              have hlv22_1 : aj_lv lv22 1 = some (.ref p1) := fx_e1 elv22 hlv20_1 (by decide) (Or.inl (by decide))
              have hlv22_2 : aj_lv lv22 2 = some (.ref p2) := fx_e1 elv22 hlv20_2 (by decide) (Or.inl (by decide))
              have hlv22_3 : aj_lv lv22 3 = some (.int p3) := fx_e1 elv22 hlv20_3 (by decide) (Or.inl (by decide))
              have hlv22_4 : aj_lv lv22 4 = some (.int p4) := fx_e1 elv22 hlv20_4 (by decide) (Or.inl (by decide))
              have hlv22_5 : aj_lv lv22 5 = some (.int p5) := fx_e1 elv22 hlv20_5 (by decide) (Or.inl (by decide))
              have hlv22_6 : aj_lv lv22 6 = some (.int w19) := fx_e1 elv22 hlv20_6 (by decide) (Or.inr rfl)
              have hlv22_7 : aj_lv lv22 7 = some (.int x21) := by rw [elv22]; exact ak_set1_eq _ _ _
              show fx_W _ _ _ 85 lv22 [] _ _
              refine fx_n (pc' := 6) (lv' := lv22) (st' := []) aj_d133 rfl (Nat.le_succ _) (fun _ => rfl) ?_
              exact (ih) lv22 (w19) (x21) X18  hlv22_0 hlv22_1 hlv22_2 hlv22_3 hlv22_4 hlv22_5 hlv22_6 hlv22_7
            · skip
              refine fx_qi (c := (y7).toInt = (p3).toInt) (fx_f_ne q17) ?_
              show fx_W _ _ _ 63 lv16 [] _ _
              refine fx_i2 aj_d133 rfl (Nat.le_succ _) (fun _ => rfl) hlv16_0 ?_
              refine fx_i0 aj_d133 rfl (Nat.le_succ _) (fun _ => rfl) hlv16_8 ?_
              refine fx_cv aj_d133 rfl (Nat.le_succ _) rfl [_] rfl rfl (gx_134_ok w15) ?_
              rintro _ X23 ⟨w24, rfl, hR23⟩ hok23 hle23
              refine fx_qc hR23 ?_
              show fx_W _ _ _ 69 lv16 [.int w24] _ _
              refine fx_n (pc' := 80) (lv' := lv16) (st' := [.int w24]) aj_d133 rfl (Nat.le_succ _) (fun _ => rfl) ?_
              refine fx_s0 (j := 6) aj_d133 rfl (Nat.le_succ _) (by decide) (fun _ => rfl) ?_
              obtain ⟨lv25, elv25⟩ : ∃ l, l = aj_set1 lv16 6 (.int w24) := ⟨_, rfl⟩
              rw [← elv25]
              have hlv25_0 : aj_lv lv25 0 = some (.ref 96) := fx_e1 elv25 hlv16_0 (by decide) (Or.inl (by decide))
              have hlv25_1 : aj_lv lv25 1 = some (.ref p1) := fx_e1 elv25 hlv16_1 (by decide) (Or.inl (by decide))
              have hlv25_2 : aj_lv lv25 2 = some (.ref p2) := fx_e1 elv25 hlv16_2 (by decide) (Or.inl (by decide))
              have hlv25_3 : aj_lv lv25 3 = some (.int p3) := fx_e1 elv25 hlv16_3 (by decide) (Or.inl (by decide))
              have hlv25_4 : aj_lv lv25 4 = some (.int p4) := fx_e1 elv25 hlv16_4 (by decide) (Or.inl (by decide))
              have hlv25_5 : aj_lv lv25 5 = some (.int p5) := fx_e1 elv25 hlv16_5 (by decide) (Or.inr rfl)
              have hlv25_7 : aj_lv lv25 7 = some (.int y7) := fx_e1 elv25 hlv16_7 (by decide) (Or.inl (by decide))
              have hlv25_6 : aj_lv lv25 6 = some (.int w24) := by rw [elv25]; exact ak_set1_eq _ _ _
              show fx_W _ _ _ 82 lv25 [] _ _
              refine fx_incq aj_d133 rfl (Nat.le_succ _) hlv25_7 (by decide) (fun x26 ex26 => ?_)
              obtain ⟨lv27, elv27⟩ : ∃ l, l = aj_set1 lv25 7 (.int x26) := ⟨_, rfl⟩
              rw [← elv27]
              have hlv27_0 : aj_lv lv27 0 = some (.ref 96) := fx_e1 elv27 hlv25_0 (by decide) (Or.inl (by decide))
              have hlv27_1 : aj_lv lv27 1 = some (.ref p1) := fx_e1 elv27 hlv25_1 (by decide) (Or.inl (by decide))
              have hlv27_2 : aj_lv lv27 2 = some (.ref p2) := fx_e1 elv27 hlv25_2 (by decide) (Or.inl (by decide))
              have hlv27_3 : aj_lv lv27 3 = some (.int p3) := fx_e1 elv27 hlv25_3 (by decide) (Or.inl (by decide))
              have hlv27_4 : aj_lv lv27 4 = some (.int p4) := fx_e1 elv27 hlv25_4 (by decide) (Or.inl (by decide))
              have hlv27_5 : aj_lv lv27 5 = some (.int p5) := fx_e1 elv27 hlv25_5 (by decide) (Or.inl (by decide))
              have hlv27_6 : aj_lv lv27 6 = some (.int w24) := fx_e1 elv27 hlv25_6 (by decide) (Or.inr rfl)
              have hlv27_7 : aj_lv lv27 7 = some (.int x26) := by rw [elv27]; exact ak_set1_eq _ _ _
              show fx_W _ _ _ 85 lv27 [] _ _
              refine fx_n (pc' := 6) (lv' := lv27) (st' := []) aj_d133 rfl (Nat.le_succ _) (fun _ => rfl) ?_
              exact (ih) lv27 (w24) (x26) X23  hlv27_0 hlv27_1 hlv27_2 hlv27_3 hlv27_4 hlv27_5 hlv27_6 hlv27_7
theorem gx_133_ok {tb : aj_T} (p1 : Nat) (p2 : Nat) (p3 : Int32) (p4 : Int32) (p5 : Int32) {X : fx_X} : fx_K tb 133 [.ref 96, .ref p1, .ref p2, .int p3, .int p4, .int p5] X (fx_Q fx_qI (fun v X' => gx_133 p1 p2 p3 p4 p5 X v X')) := by
  refine fx_m aj_m133_at rfl (fun N => ?_)
  refine fx_mono (Q := fx_Q fx_qI (fun v X' => ∃ n : Nat, gxE_133 p1 p2 p3 p4 p5 (gxF_133 p1 p2 p3 p4 p5 n) X v X')) (fun r X' h => h) ?_
  unfold gxE_133
  show fx_W _ _ _ 0 [(0, .ref 96), (1, .ref p1), (2, .ref p2), (3, .int p3), (4, .int p4), (5, .int p5)] [] _ _
  obtain ⟨lv1, elv1⟩ : ∃ l : aj_V, l = [(0, .ref 96), (1, .ref p1), (2, .ref p2), (3, .int p3), (4, .int p4), (5, .int p5)] := ⟨_, rfl⟩
  rw [← elv1]
  have hlv1_0 : aj_lv lv1 0 = some (.ref 96) := by rw [elv1]; rfl
  have hlv1_1 : aj_lv lv1 1 = some (.ref p1) := by rw [elv1]; rfl
  have hlv1_2 : aj_lv lv1 2 = some (.ref p2) := by rw [elv1]; rfl
  have hlv1_3 : aj_lv lv1 3 = some (.int p3) := by rw [elv1]; rfl
  have hlv1_4 : aj_lv lv1 4 = some (.int p4) := by rw [elv1]; rfl
  have hlv1_5 : aj_lv lv1 5 = some (.int p5) := by rw [elv1]; rfl
  refine fx_n (pc' := 1) (lv' := lv1) (st' := [.int (Int32.ofInt 0)]) aj_d133 rfl (Nat.le_succ _) (fun _ => rfl) ?_
  refine fx_s0 (j := 6) aj_d133 rfl (Nat.le_succ _) (by decide) (fun _ => rfl) ?_
  obtain ⟨lv2, elv2⟩ : ∃ l, l = aj_set1 lv1 6 (.int (Int32.ofInt 0)) := ⟨_, rfl⟩
  rw [← elv2]
  have hlv2_0 : aj_lv lv2 0 = some (.ref 96) := fx_e1 elv2 hlv1_0 (by decide) (Or.inl (by decide))
  have hlv2_1 : aj_lv lv2 1 = some (.ref p1) := fx_e1 elv2 hlv1_1 (by decide) (Or.inl (by decide))
  have hlv2_2 : aj_lv lv2 2 = some (.ref p2) := fx_e1 elv2 hlv1_2 (by decide) (Or.inl (by decide))
  have hlv2_3 : aj_lv lv2 3 = some (.int p3) := fx_e1 elv2 hlv1_3 (by decide) (Or.inl (by decide))
  have hlv2_4 : aj_lv lv2 4 = some (.int p4) := fx_e1 elv2 hlv1_4 (by decide) (Or.inl (by decide))
  have hlv2_5 : aj_lv lv2 5 = some (.int p5) := fx_e1 elv2 hlv1_5 (by decide) (Or.inr rfl)
  have hlv2_6 : aj_lv lv2 6 = some (.int (Int32.ofInt 0)) := by rw [elv2]; exact ak_set1_eq _ _ _
  show fx_W _ _ _ 3 lv2 [] _ _
  refine fx_i0 aj_d133 rfl (Nat.le_succ _) (fun _ => rfl) hlv2_3 ?_
  refine fx_s0 (j := 7) aj_d133 rfl (Nat.le_succ _) (by decide) (fun _ => rfl) ?_
  obtain ⟨lv3, elv3⟩ : ∃ l, l = aj_set1 lv2 7 (.int p3) := ⟨_, rfl⟩
  rw [← elv3]
  have hlv3_0 : aj_lv lv3 0 = some (.ref 96) := fx_e1 elv3 hlv2_0 (by decide) (Or.inl (by decide))
  have hlv3_1 : aj_lv lv3 1 = some (.ref p1) := fx_e1 elv3 hlv2_1 (by decide) (Or.inl (by decide))
  have hlv3_2 : aj_lv lv3 2 = some (.ref p2) := fx_e1 elv3 hlv2_2 (by decide) (Or.inl (by decide))
  have hlv3_3 : aj_lv lv3 3 = some (.int p3) := fx_e1 elv3 hlv2_3 (by decide) (Or.inl (by decide))
  have hlv3_4 : aj_lv lv3 4 = some (.int p4) := fx_e1 elv3 hlv2_4 (by decide) (Or.inl (by decide))
  have hlv3_5 : aj_lv lv3 5 = some (.int p5) := fx_e1 elv3 hlv2_5 (by decide) (Or.inl (by decide))
  have hlv3_6 : aj_lv lv3 6 = some (.int (Int32.ofInt 0)) := fx_e1 elv3 hlv2_6 (by decide) (Or.inr rfl)
  have hlv3_7 : aj_lv lv3 7 = some (.int p3) := by rw [elv3]; exact ak_set1_eq _ _ _
  show fx_W _ _ _ 6 lv3 [] _ _
  exact ((gxL_133 p1 p2 p3 p4 p5 N)) lv3 ((Int32.ofInt 0)) (p3) X  hlv3_0 hlv3_1 hlv3_2 hlv3_3 hlv3_4 hlv3_5 hlv3_6 hlv3_7
def gxT_137_2 (p1 : Nat) (p2 : Int32) (P : Nat → List Int32 → List Int64 → List Nat → fx_X → Int32 → fx_X → Prop) (y3 : Int32) (X : fx_X) (v : Int32) (X' : fx_X) : Prop :=
  (if (y3).toInt < ((X.1 p1 3)).toInt then ((if (y3).toInt < 6 then (∃ (w7 : Int32) (X6 : fx_X), gx_104 p1 p2 y3 X w7 X6 ∧ (0 ≤ (y3).toInt ∧ (y3).toInt < ((6 : Nat) : Int)) ∧ (if (w7).toInt = ((X6.1 99 (y3).toInt.toNat)).toInt then (∃ x11 : Int32, x11 = y3 + Int32.ofInt 1 ∧ P 2 [x11] [] [] X6 v X') else (v = (Int32.ofInt 0) ∧ X' = X6))) else (v = (Int32.ofInt 1) ∧ X' = X))) else (v = (Int32.ofInt 1) ∧ X' = X))
def gxE_137 (p1 : Nat) (p2 : Int32) (P : Nat → List Int32 → List Int64 → List Nat → fx_X → Int32 → fx_X → Prop) (X : fx_X) (v : Int32) (X' : fx_X) : Prop :=
  P 2 [(Int32.ofInt 0)] [] [] X v X'
noncomputable def gxF_137 (p1 : Nat) (p2 : Int32) (n : Nat) : Nat → List Int32 → List Int64 → List Nat → fx_X → Int32 → fx_X → Prop := Nat.rec (motive := fun _ => Nat → List Int32 → List Int64 → List Nat → fx_X → Int32 → fx_X → Prop) (fun _ _ _ _ _ _ _ => False) (fun _ P l is ls rs X v X' => (l = 2 ∧ ∃ (y3 : Int32), is = [y3] ∧ ls = [] ∧ rs = [] ∧ gxT_137_2 p1 p2 P y3 X v X')) n
theorem gxI_137_2 {p1 : Nat} {p2 : Int32} {n : Nat} {y3 : Int32} {X : fx_X} {v : Int32} {X' : fx_X} (h : gxT_137_2 p1 p2 (gxF_137 p1 p2 n) y3 X v X') : gxF_137 p1 p2 (n + 1) 2 [y3] [] [] X v X' := ⟨rfl, y3, rfl, rfl, rfl, h⟩
theorem gxO_137_2 {p1 : Nat} {p2 : Int32} {n : Nat} {y3 : Int32} {X : fx_X} {v : Int32} {X' : fx_X} (h : gxF_137 p1 p2 (n + 1) 2 [y3] [] [] X v X') : gxT_137_2 p1 p2 (gxF_137 p1 p2 n) y3 X v X' := by
  rcases h with ⟨-, _, e1, e2, e3, h⟩
  · cases e1; cases e2; cases e3; exact h
def gx_137 (p1 : Nat) (p2 : Int32) (X : fx_X) (v : Int32) (X' : fx_X) : Prop := ∃ n : Nat, gxE_137 p1 p2 (gxF_137 p1 p2 n) X v X'
theorem gxL_137 {tb : aj_T} (p1 : Nat) (p2 : Int32) : ∀ N : Nat, (∀ (lv : aj_V) (y3 : Int32) (X : fx_X), aj_lv lv 0 = some (.ref 96) → aj_lv lv 1 = some (.ref p1) → aj_lv lv 2 = some (.int p2) → aj_lv lv 3 = some (.int y3) → fx_W tb aj_m137 N 2 lv [] X (fx_Q fx_qI (fun v X' => ∃ n : Nat, gxF_137 p1 p2 n 2 [y3] [] [] X v X'))) := by
  intro N
  induction N with
  | zero => exact (by intros; exact fx_z)
  | succ N ih =>
    skip
    · intro lv y3 X hlv_0 hlv_1 hlv_2 hlv_3
      refine fx_mono (Q := fx_Q fx_qI (fun v X' => ∃ n : Nat, gxT_137_2 p1 p2 (gxF_137 p1 p2 n) y3 X v X')) (fun r X' ⟨v, e, n, z⟩ => ⟨v, e, n + 1, gxI_137_2 z⟩) ?_
      unfold gxT_137_2
      refine fx_i0 aj_d137 rfl (Nat.le_refl _) (fun _ => rfl) hlv_3 ?_
      refine fx_i2 aj_d137 rfl (Nat.le_succ _) (fun _ => rfl) hlv_1 ?_
      refine fx_gI aj_d137 rfl (Nat.le_succ _) rfl rfl (Or.inl rfl) ?_
      refine fx_b (tgt := 42) aj_d137 rfl (Nat.le_succ _) rfl (fun q3 => ?_) (fun q3 => ?_)
      · skip
        refine fx_qe (c := (y3).toInt < ((X.1 p1 3)).toInt) (fx_t_ge q3) ?_
        show fx_W _ _ _ 42 lv [] _ _
        refine fx_n (pc' := 43) (lv' := lv) (st' := [.int (Int32.ofInt 1)]) aj_d137 rfl (Nat.le_succ _) (fun _ => rfl) ?_
        exact fx_ri aj_d137 rfl ⟨_, rfl, 0, rfl, rfl⟩
      · skip
        refine fx_qi (c := (y3).toInt < ((X.1 p1 3)).toInt) (fx_f_ge q3) ?_
        show fx_W _ _ _ 10 lv [] _ _
        refine fx_i0 aj_d137 rfl (Nat.le_succ _) (fun _ => rfl) hlv_3 ?_
        refine fx_i2 aj_d137 rfl (Nat.le_succ _) (fun _ => rfl) hlv_0 ?_
        refine fx_gF aj_d137 rfl (Nat.le_succ _) rfl rfl fx_in_1_5 (t := 99) rfl (fun hA4 => ?_)
        refine fx_al aj_d137 rfl (Nat.le_succ _) ?_
        rw [(hA4 : X.2.2.2.1 99 = (0, 6))]
        show fx_W _ _ _ 16 lv [.int (Int32.ofNat 6), .int y3] _ _
        refine fx_b (tgt := 42) aj_d137 rfl (Nat.le_succ _) rfl (fun q5 => ?_) (fun q5 => ?_)
        · skip
          refine fx_qe (c := (y3).toInt < 6) (fx_t_ge q5) ?_
          show fx_W _ _ _ 42 lv [] _ _
          refine fx_n (pc' := 43) (lv' := lv) (st' := [.int (Int32.ofInt 1)]) aj_d137 rfl (Nat.le_succ _) (fun _ => rfl) ?_
          exact fx_ri aj_d137 rfl ⟨_, rfl, 0, rfl, rfl⟩
        · skip
          refine fx_qi (c := (y3).toInt < 6) (fx_f_ge q5) ?_
          show fx_W _ _ _ 19 lv [] _ _
          refine fx_i2 aj_d137 rfl (Nat.le_succ _) (fun _ => rfl) hlv_1 ?_
          refine fx_i0 aj_d137 rfl (Nat.le_succ _) (fun _ => rfl) hlv_2 ?_
          refine fx_i0 aj_d137 rfl (Nat.le_succ _) (fun _ => rfl) hlv_3 ?_
          refine fx_cv aj_d137 rfl (Nat.le_succ _) rfl [_, _] rfl rfl (gx_104_ok p1 p2 y3) ?_
          rintro _ X6 ⟨w7, rfl, hR6⟩ hok6 hle6
          refine fx_qc hR6 ?_
          show fx_W _ _ _ 25 lv [.int w7] _ _
          refine fx_i2 aj_d137 rfl (Nat.le_succ _) (fun _ => rfl) hlv_0 ?_
          refine fx_gF aj_d137 rfl (Nat.le_succ _) rfl rfl fx_in_1_5 (t := 99) rfl (fun hA8 => ?_)
          refine fx_i0 aj_d137 rfl (Nat.le_succ _) (fun _ => rfl) hlv_3 ?_
          refine fx_ld aj_d137 (Or.inl rfl) rfl (Nat.le_succ _) (fun g90 g91 => ?_)
          show fx_W _ _ _ 31 lv [.int (X6.1 99 (y3).toInt.toNat), .int w7] _ _
          refine fx_qa (c := 0 ≤ (y3).toInt ∧ (y3).toInt < ((6 : Nat) : Int)) ⟨g90, fx_lnk g91 hA8⟩ ?_
          refine fx_b (tgt := 36) aj_d137 rfl (Nat.le_succ _) rfl (fun q10 => ?_) (fun q10 => ?_)
          · skip
            refine fx_qi (c := (w7).toInt = ((X6.1 99 (y3).toInt.toNat)).toInt) (fx_t_eq q10) ?_
            show fx_W _ _ _ 36 lv [] _ _
            refine fx_incq aj_d137 rfl (Nat.le_succ _) hlv_3 (by decide) (fun x11 ex11 => ?_)
            obtain ⟨lv12, elv12⟩ : ∃ l, l = aj_set1 lv 3 (.int x11) := ⟨_, rfl⟩
            rw [← elv12]
            have hlv12_0 : aj_lv lv12 0 = some (.ref 96) := fx_e1 elv12 hlv_0 (by decide) (Or.inl (by decide))
            have hlv12_1 : aj_lv lv12 1 = some (.ref p1) := fx_e1 elv12 hlv_1 (by decide) (Or.inl (by decide))
            have hlv12_2 : aj_lv lv12 2 = some (.int p2) := fx_e1 elv12 hlv_2 (by decide) (Or.inr rfl)
            have hlv12_3 : aj_lv lv12 3 = some (.int x11) := by rw [elv12]; exact ak_set1_eq _ _ _
            show fx_W _ _ _ 39 lv12 [] _ _
            refine fx_n (pc' := 2) (lv' := lv12) (st' := []) aj_d137 rfl (Nat.le_succ _) (fun _ => rfl) ?_
            exact (ih) lv12 (x11) X6  hlv12_0 hlv12_1 hlv12_2 hlv12_3
          · skip
            refine fx_qe (c := (w7).toInt = ((X6.1 99 (y3).toInt.toNat)).toInt) (fx_f_eq q10) ?_
            show fx_W _ _ _ 34 lv [] _ _
            refine fx_n (pc' := 35) (lv' := lv) (st' := [.int (Int32.ofInt 0)]) aj_d137 rfl (Nat.le_succ _) (fun _ => rfl) ?_
            exact fx_ri aj_d137 rfl ⟨_, rfl, 0, rfl, rfl⟩
theorem gx_137_ok {tb : aj_T} (p1 : Nat) (p2 : Int32) {X : fx_X} : fx_K tb 137 [.ref 96, .ref p1, .int p2] X (fx_Q fx_qI (fun v X' => gx_137 p1 p2 X v X')) := by
  refine fx_m aj_m137_at rfl (fun N => ?_)
  refine fx_mono (Q := fx_Q fx_qI (fun v X' => ∃ n : Nat, gxE_137 p1 p2 (gxF_137 p1 p2 n) X v X')) (fun r X' h => h) ?_
  unfold gxE_137
  show fx_W _ _ _ 0 [(0, .ref 96), (1, .ref p1), (2, .int p2)] [] _ _
  obtain ⟨lv1, elv1⟩ : ∃ l : aj_V, l = [(0, .ref 96), (1, .ref p1), (2, .int p2)] := ⟨_, rfl⟩
  rw [← elv1]
  have hlv1_0 : aj_lv lv1 0 = some (.ref 96) := by rw [elv1]; rfl
  have hlv1_1 : aj_lv lv1 1 = some (.ref p1) := by rw [elv1]; rfl
  have hlv1_2 : aj_lv lv1 2 = some (.int p2) := by rw [elv1]; rfl
  refine fx_n (pc' := 1) (lv' := lv1) (st' := [.int (Int32.ofInt 0)]) aj_d137 rfl (Nat.le_succ _) (fun _ => rfl) ?_
  refine fx_s0 (j := 3) aj_d137 rfl (Nat.le_succ _) (by decide) (fun _ => rfl) ?_
  obtain ⟨lv2, elv2⟩ : ∃ l, l = aj_set1 lv1 3 (.int (Int32.ofInt 0)) := ⟨_, rfl⟩
  rw [← elv2]
  have hlv2_0 : aj_lv lv2 0 = some (.ref 96) := fx_e1 elv2 hlv1_0 (by decide) (Or.inl (by decide))
  have hlv2_1 : aj_lv lv2 1 = some (.ref p1) := fx_e1 elv2 hlv1_1 (by decide) (Or.inl (by decide))
  have hlv2_2 : aj_lv lv2 2 = some (.int p2) := fx_e1 elv2 hlv1_2 (by decide) (Or.inr rfl)
  have hlv2_3 : aj_lv lv2 3 = some (.int (Int32.ofInt 0)) := by rw [elv2]; exact ak_set1_eq _ _ _
  show fx_W _ _ _ 2 lv2 [] _ _
  exact ((gxL_137 p1 p2 N)) lv2 ((Int32.ofInt 0)) X  hlv2_0 hlv2_1 hlv2_2 hlv2_3
def gxT_136_2 (p1 : Nat) (P : Nat → List Int32 → List Int64 → List Nat → fx_X → Int32 → fx_X → Prop) (y2 : Int32) (X : fx_X) (v : Int32) (X' : fx_X) : Prop :=
  (if (y2).toInt < ((X.1 p1 4)).toInt then (∃ (w7 : Int32) (X6 : fx_X), gx_137 p1 y2 X w7 X6 ∧ (if (w7).toInt = 0 then (∃ x9 : Int32, x9 = y2 + Int32.ofInt 1 ∧ P 2 [x9] [] [] X6 v X') else (v = y2 ∧ X' = X6))) else ((if ((X.1 p1 4)).toInt < 30 then (P 40 [(Int32.ofInt 0)] [] [] X v X') else (v = (Int32.ofInt (-1)) ∧ X' = X))))
def gxT_136_40 (p1 : Nat) (P : Nat → List Int32 → List Int64 → List Nat → fx_X → Int32 → fx_X → Prop) (y2 : Int32) (X : fx_X) (v : Int32) (X' : fx_X) : Prop :=
  (if (y2).toInt < ((X.1 p1 3)).toInt then ((if (y2).toInt < 6 then ((0 ≤ (y2).toInt ∧ (y2).toInt < ((6 : Nat) : Int)) ∧ ∃ (w19 : Unit) (X18 : fx_X), gx_105 p1 (X.1 p1 4) y2 (Int32.ofInt 0) (X.1 99 (y2).toInt.toNat) X w19 X18 ∧ ∃ x20 : Int32, x20 = y2 + Int32.ofInt 1 ∧ P 40 [x20] [] [] X18 v X') else (∃ X15 : fx_X, X15 = (fx_wI X p1 4 ((X.1 p1 4) + (Int32.ofInt 1))) ∧ v = ((X15.1 p1 4) - (Int32.ofInt 1)) ∧ X' = X15))) else (∃ X12 : fx_X, X12 = (fx_wI X p1 4 ((X.1 p1 4) + (Int32.ofInt 1))) ∧ v = ((X12.1 p1 4) - (Int32.ofInt 1)) ∧ X' = X12))
def gxE_136 (p1 : Nat) (P : Nat → List Int32 → List Int64 → List Nat → fx_X → Int32 → fx_X → Prop) (X : fx_X) (v : Int32) (X' : fx_X) : Prop :=
  P 2 [(Int32.ofInt 0)] [] [] X v X'
noncomputable def gxF_136 (p1 : Nat) (n : Nat) : Nat → List Int32 → List Int64 → List Nat → fx_X → Int32 → fx_X → Prop := Nat.rec (motive := fun _ => Nat → List Int32 → List Int64 → List Nat → fx_X → Int32 → fx_X → Prop) (fun _ _ _ _ _ _ _ => False) (fun _ P l is ls rs X v X' => (l = 2 ∧ ∃ (y2 : Int32), is = [y2] ∧ ls = [] ∧ rs = [] ∧ gxT_136_2 p1 P y2 X v X') ∨ (l = 40 ∧ ∃ (y2 : Int32), is = [y2] ∧ ls = [] ∧ rs = [] ∧ gxT_136_40 p1 P y2 X v X')) n
theorem gxI_136_2 {p1 : Nat} {n : Nat} {y2 : Int32} {X : fx_X} {v : Int32} {X' : fx_X} (h : gxT_136_2 p1 (gxF_136 p1 n) y2 X v X') : gxF_136 p1 (n + 1) 2 [y2] [] [] X v X' := Or.inl ⟨rfl, y2, rfl, rfl, rfl, h⟩
theorem gxO_136_2 {p1 : Nat} {n : Nat} {y2 : Int32} {X : fx_X} {v : Int32} {X' : fx_X} (h : gxF_136 p1 (n + 1) 2 [y2] [] [] X v X') : gxT_136_2 p1 (gxF_136 p1 n) y2 X v X' := by
  rcases h with ⟨-, _, e1, e2, e3, h⟩ | ⟨e, -⟩
  · cases e1; cases e2; cases e3; exact h
  · exact absurd e (by decide)
theorem gxI_136_40 {p1 : Nat} {n : Nat} {y2 : Int32} {X : fx_X} {v : Int32} {X' : fx_X} (h : gxT_136_40 p1 (gxF_136 p1 n) y2 X v X') : gxF_136 p1 (n + 1) 40 [y2] [] [] X v X' := Or.inr (⟨rfl, y2, rfl, rfl, rfl, h⟩)
theorem gxO_136_40 {p1 : Nat} {n : Nat} {y2 : Int32} {X : fx_X} {v : Int32} {X' : fx_X} (h : gxF_136 p1 (n + 1) 40 [y2] [] [] X v X') : gxT_136_40 p1 (gxF_136 p1 n) y2 X v X' := by
  rcases h with ⟨e, -⟩ | ⟨-, _, e1, e2, e3, h⟩
  · exact absurd e (by decide)
  · cases e1; cases e2; cases e3; exact h
def gx_136 (p1 : Nat) (X : fx_X) (v : Int32) (X' : fx_X) : Prop := ∃ n : Nat, gxE_136 p1 (gxF_136 p1 n) X v X'
theorem gxL_136 {tb : aj_T} (p1 : Nat) : ∀ N : Nat, (∀ (lv : aj_V) (y2 : Int32) (X : fx_X), aj_lv lv 0 = some (.ref 96) → aj_lv lv 1 = some (.ref p1) → aj_lv lv 2 = some (.int y2) → fx_W tb aj_m136 N 2 lv [] X (fx_Q fx_qI (fun v X' => ∃ n : Nat, gxF_136 p1 n 2 [y2] [] [] X v X'))) ∧ (∀ (lv : aj_V) (y2 : Int32) (X : fx_X), aj_lv lv 0 = some (.ref 96) → aj_lv lv 1 = some (.ref p1) → aj_lv lv 2 = some (.int y2) → fx_W tb aj_m136 N 40 lv [] X (fx_Q fx_qI (fun v X' => ∃ n : Nat, gxF_136 p1 n 40 [y2] [] [] X v X'))) := by
  intro N
  induction N with
  | zero => exact ⟨(by intros; exact fx_z), (by intros; exact fx_z)⟩
  | succ N ih =>
    refine ⟨?_, ?_⟩
    · intro lv y2 X hlv_0 hlv_1 hlv_2
      refine fx_mono (Q := fx_Q fx_qI (fun v X' => ∃ n : Nat, gxT_136_2 p1 (gxF_136 p1 n) y2 X v X')) (fun r X' ⟨v, e, n, z⟩ => ⟨v, e, n + 1, gxI_136_2 z⟩) ?_
      unfold gxT_136_2
      refine fx_i0 aj_d136 rfl (Nat.le_refl _) (fun _ => rfl) hlv_2 ?_
      refine fx_i2 aj_d136 rfl (Nat.le_succ _) (fun _ => rfl) hlv_1 ?_
      refine fx_gI aj_d136 rfl (Nat.le_succ _) rfl rfl (Or.inl rfl) ?_
      refine fx_b (tgt := 27) aj_d136 rfl (Nat.le_succ _) rfl (fun q3 => ?_) (fun q3 => ?_)
      · skip
        refine fx_qe (c := (y2).toInt < ((X.1 p1 4)).toInt) (fx_t_ge q3) ?_
        show fx_W _ _ _ 27 lv [] _ _
        refine fx_i2 aj_d136 rfl (Nat.le_succ _) (fun _ => rfl) hlv_1 ?_
        refine fx_gI aj_d136 rfl (Nat.le_succ _) rfl rfl (Or.inl rfl) ?_
        refine fx_n (pc' := 33) (lv' := lv) (st' := [.int ((Int8.ofInt 30).toInt32), .int (X.1 p1 4)]) aj_d136 rfl (Nat.le_succ _) (fun _ => rfl) ?_
        refine fx_b (tgt := 38) aj_d136 rfl (Nat.le_succ _) rfl (fun q4 => ?_) (fun q4 => ?_)
        · skip
          refine fx_qi (c := ((X.1 p1 4)).toInt < 30) (fx_t_lt q4) ?_
          show fx_W _ _ _ 38 lv [] _ _
          refine fx_n (pc' := 39) (lv' := lv) (st' := [.int (Int32.ofInt 0)]) aj_d136 rfl (Nat.le_succ _) (fun _ => rfl) ?_
          refine fx_s0 (j := 2) aj_d136 rfl (Nat.le_succ _) (by decide) (fun _ => rfl) ?_
          obtain ⟨lv5, elv5⟩ : ∃ l, l = aj_set1 lv 2 (.int (Int32.ofInt 0)) := ⟨_, rfl⟩
          rw [← elv5]
          have hlv5_0 : aj_lv lv5 0 = some (.ref 96) := fx_e1 elv5 hlv_0 (by decide) (Or.inl (by decide))
          have hlv5_1 : aj_lv lv5 1 = some (.ref p1) := fx_e1 elv5 hlv_1 (by decide) (Or.inr rfl)
          have hlv5_2 : aj_lv lv5 2 = some (.int (Int32.ofInt 0)) := by rw [elv5]; exact ak_set1_eq _ _ _
          show fx_W _ _ _ 40 lv5 [] _ _
          exact (ih.2) lv5 ((Int32.ofInt 0)) X  hlv5_0 hlv5_1 hlv5_2
        · skip
          refine fx_qe (c := ((X.1 p1 4)).toInt < 30) (fx_f_lt q4) ?_
          show fx_W _ _ _ 36 lv [] _ _
          refine fx_n (pc' := 37) (lv' := lv) (st' := [.int (Int32.ofInt (-1))]) aj_d136 rfl (Nat.le_succ _) (fun _ => rfl) ?_
          exact fx_ri aj_d136 rfl ⟨_, rfl, 0, rfl, rfl⟩
      · skip
        refine fx_qi (c := (y2).toInt < ((X.1 p1 4)).toInt) (fx_f_ge q3) ?_
        show fx_W _ _ _ 10 lv [] _ _
        refine fx_i2 aj_d136 rfl (Nat.le_succ _) (fun _ => rfl) hlv_0 ?_
        refine fx_i2 aj_d136 rfl (Nat.le_succ _) (fun _ => rfl) hlv_1 ?_
        refine fx_i0 aj_d136 rfl (Nat.le_succ _) (fun _ => rfl) hlv_2 ?_
        refine fx_cv aj_d136 rfl (Nat.le_succ _) rfl [_, _] rfl rfl (gx_137_ok p1 y2) ?_
        rintro _ X6 ⟨w7, rfl, hR6⟩ hok6 hle6
        refine fx_qc hR6 ?_
        show fx_W _ _ _ 16 lv [.int w7] _ _
        refine fx_b0 (tgt := 21) aj_d136 rfl (Nat.le_succ _) rfl (fun q8 => ?_) (fun q8 => ?_)
        · skip
          refine fx_qi (c := (w7).toInt = 0) (fx_t_eq q8) ?_
          show fx_W _ _ _ 21 lv [] _ _
          refine fx_incq aj_d136 rfl (Nat.le_succ _) hlv_2 (by decide) (fun x9 ex9 => ?_)
          obtain ⟨lv10, elv10⟩ : ∃ l, l = aj_set1 lv 2 (.int x9) := ⟨_, rfl⟩
          rw [← elv10]
          have hlv10_0 : aj_lv lv10 0 = some (.ref 96) := fx_e1 elv10 hlv_0 (by decide) (Or.inl (by decide))
          have hlv10_1 : aj_lv lv10 1 = some (.ref p1) := fx_e1 elv10 hlv_1 (by decide) (Or.inr rfl)
          have hlv10_2 : aj_lv lv10 2 = some (.int x9) := by rw [elv10]; exact ak_set1_eq _ _ _
          show fx_W _ _ _ 24 lv10 [] _ _
          refine fx_n (pc' := 2) (lv' := lv10) (st' := []) aj_d136 rfl (Nat.le_succ _) (fun _ => rfl) ?_
          exact (ih.1) lv10 (x9) X6  hlv10_0 hlv10_1 hlv10_2
        · skip
          refine fx_qe (c := (w7).toInt = 0) (fx_f_eq q8) ?_
          show fx_W _ _ _ 19 lv [] _ _
          refine fx_i0 aj_d136 rfl (Nat.le_succ _) (fun _ => rfl) hlv_2 ?_
          exact fx_ri aj_d136 rfl ⟨_, rfl, 0, rfl, rfl⟩
    · intro lv y2 X hlv_0 hlv_1 hlv_2
      refine fx_mono (Q := fx_Q fx_qI (fun v X' => ∃ n : Nat, gxT_136_40 p1 (gxF_136 p1 n) y2 X v X')) (fun r X' ⟨v, e, n, z⟩ => ⟨v, e, n + 1, gxI_136_40 z⟩) ?_
      unfold gxT_136_40
      refine fx_i0 aj_d136 rfl (Nat.le_refl _) (fun _ => rfl) hlv_2 ?_
      refine fx_i2 aj_d136 rfl (Nat.le_succ _) (fun _ => rfl) hlv_1 ?_
      refine fx_gI aj_d136 rfl (Nat.le_succ _) rfl rfl (Or.inl rfl) ?_
      refine fx_b (tgt := 79) aj_d136 rfl (Nat.le_succ _) rfl (fun q11 => ?_) (fun q11 => ?_)
      · skip
        refine fx_qe (c := (y2).toInt < ((X.1 p1 3)).toInt) (fx_t_ge q11) ?_
        show fx_W _ _ _ 79 lv [] _ _
        refine fx_i2 aj_d136 rfl (Nat.le_succ _) (fun _ => rfl) hlv_1 ?_
        refine fx_n (pc' := 81) (lv' := lv) (st' := [.ref p1, .ref p1]) aj_d136 rfl (Nat.le_succ _) (fun _ => rfl) ?_
        refine fx_gI aj_d136 rfl (Nat.le_succ _) rfl rfl (Or.inl rfl) ?_
        refine fx_n (pc' := 85) (lv' := lv) (st' := [.int (Int32.ofInt 1), .int (X.1 p1 4), .ref p1]) aj_d136 rfl (Nat.le_succ _) (fun _ => rfl) ?_
        refine fx_n (pc' := 86) (lv' := lv) (st' := [.int ((X.1 p1 4) + (Int32.ofInt 1)), .ref p1]) aj_d136 rfl (Nat.le_succ _) (fun _ => rfl) ?_
        refine fx_pI aj_d136 rfl (Nat.le_succ _) rfl rfl (Or.inl rfl) fx_no_6_4 (by decide) ?_
        refine fx_qX (fun X12 eX12 => ?_)
        show fx_W _ _ _ 89 lv [] _ _
        refine fx_i2 aj_d136 rfl (Nat.le_succ _) (fun _ => rfl) hlv_1 ?_
        refine fx_gI aj_d136 rfl (Nat.le_succ _) rfl rfl (Or.inl rfl) ?_
        refine fx_n (pc' := 94) (lv' := lv) (st' := [.int (Int32.ofInt 1), .int (X12.1 p1 4)]) aj_d136 rfl (Nat.le_succ _) (fun _ => rfl) ?_
        refine fx_n (pc' := 95) (lv' := lv) (st' := [.int ((X12.1 p1 4) - (Int32.ofInt 1))]) aj_d136 rfl (Nat.le_succ _) (fun _ => rfl) ?_
        exact fx_ri aj_d136 rfl ⟨_, rfl, 0, rfl, rfl⟩
      · skip
        refine fx_qi (c := (y2).toInt < ((X.1 p1 3)).toInt) (fx_f_ge q11) ?_
        show fx_W _ _ _ 48 lv [] _ _
        refine fx_i0 aj_d136 rfl (Nat.le_succ _) (fun _ => rfl) hlv_2 ?_
        refine fx_i2 aj_d136 rfl (Nat.le_succ _) (fun _ => rfl) hlv_0 ?_
        refine fx_gF aj_d136 rfl (Nat.le_succ _) rfl rfl fx_in_1_5 (t := 99) rfl (fun hA13 => ?_)
        refine fx_al aj_d136 rfl (Nat.le_succ _) ?_
        rw [(hA13 : X.2.2.2.1 99 = (0, 6))]
        show fx_W _ _ _ 54 lv [.int (Int32.ofNat 6), .int y2] _ _
        refine fx_b (tgt := 79) aj_d136 rfl (Nat.le_succ _) rfl (fun q14 => ?_) (fun q14 => ?_)
        · skip
          refine fx_qe (c := (y2).toInt < 6) (fx_t_ge q14) ?_
          show fx_W _ _ _ 79 lv [] _ _
          refine fx_i2 aj_d136 rfl (Nat.le_succ _) (fun _ => rfl) hlv_1 ?_
          refine fx_n (pc' := 81) (lv' := lv) (st' := [.ref p1, .ref p1]) aj_d136 rfl (Nat.le_succ _) (fun _ => rfl) ?_
          refine fx_gI aj_d136 rfl (Nat.le_succ _) rfl rfl (Or.inl rfl) ?_
          refine fx_n (pc' := 85) (lv' := lv) (st' := [.int (Int32.ofInt 1), .int (X.1 p1 4), .ref p1]) aj_d136 rfl (Nat.le_succ _) (fun _ => rfl) ?_
          refine fx_n (pc' := 86) (lv' := lv) (st' := [.int ((X.1 p1 4) + (Int32.ofInt 1)), .ref p1]) aj_d136 rfl (Nat.le_succ _) (fun _ => rfl) ?_
          refine fx_pI aj_d136 rfl (Nat.le_succ _) rfl rfl (Or.inl rfl) fx_no_6_4 (by decide) ?_
          refine fx_qX (fun X15 eX15 => ?_)
          show fx_W _ _ _ 89 lv [] _ _
          refine fx_i2 aj_d136 rfl (Nat.le_succ _) (fun _ => rfl) hlv_1 ?_
          refine fx_gI aj_d136 rfl (Nat.le_succ _) rfl rfl (Or.inl rfl) ?_
          refine fx_n (pc' := 94) (lv' := lv) (st' := [.int (Int32.ofInt 1), .int (X15.1 p1 4)]) aj_d136 rfl (Nat.le_succ _) (fun _ => rfl) ?_
          refine fx_n (pc' := 95) (lv' := lv) (st' := [.int ((X15.1 p1 4) - (Int32.ofInt 1))]) aj_d136 rfl (Nat.le_succ _) (fun _ => rfl) ?_
          exact fx_ri aj_d136 rfl ⟨_, rfl, 0, rfl, rfl⟩
        · skip
          refine fx_qi (c := (y2).toInt < 6) (fx_f_ge q14) ?_
          show fx_W _ _ _ 57 lv [] _ _
          refine fx_i2 aj_d136 rfl (Nat.le_succ _) (fun _ => rfl) hlv_1 ?_
          refine fx_i2 aj_d136 rfl (Nat.le_succ _) (fun _ => rfl) hlv_1 ?_
          refine fx_gI aj_d136 rfl (Nat.le_succ _) rfl rfl (Or.inl rfl) ?_
          refine fx_i0 aj_d136 rfl (Nat.le_succ _) (fun _ => rfl) hlv_2 ?_
          refine fx_n (pc' := 64) (lv' := lv) (st' := [.int (Int32.ofInt 0), .int y2, .int (X.1 p1 4), .ref p1]) aj_d136 rfl (Nat.le_succ _) (fun _ => rfl) ?_
          refine fx_i2 aj_d136 rfl (Nat.le_succ _) (fun _ => rfl) hlv_0 ?_
          refine fx_gF aj_d136 rfl (Nat.le_succ _) rfl rfl fx_in_1_5 (t := 99) rfl (fun hA16 => ?_)
          refine fx_i0 aj_d136 rfl (Nat.le_succ _) (fun _ => rfl) hlv_2 ?_
          refine fx_ld aj_d136 (Or.inl rfl) rfl (Nat.le_succ _) (fun g170 g171 => ?_)
          show fx_W _ _ _ 70 lv [.int (X.1 99 (y2).toInt.toNat), .int (Int32.ofInt 0), .int y2, .int (X.1 p1 4), .ref p1] _ _
          refine fx_qa (c := 0 ≤ (y2).toInt ∧ (y2).toInt < ((6 : Nat) : Int)) ⟨g170, fx_lnk g171 hA16⟩ ?_
          refine fx_cv aj_d136 rfl (Nat.le_succ _) rfl [_, _, _, _] rfl rfl (gx_105_ok p1 (X.1 p1 4) y2 (Int32.ofInt 0) (X.1 99 (y2).toInt.toNat)) ?_
          rintro _ X18 ⟨w19, rfl, hR18⟩ hok18 hle18
          refine fx_qc hR18 ?_
          show fx_W _ _ _ 73 lv [] _ _
          refine fx_incq aj_d136 rfl (Nat.le_succ _) hlv_2 (by decide) (fun x20 ex20 => ?_)
          obtain ⟨lv21, elv21⟩ : ∃ l, l = aj_set1 lv 2 (.int x20) := ⟨_, rfl⟩
          rw [← elv21]
          have hlv21_0 : aj_lv lv21 0 = some (.ref 96) := fx_e1 elv21 hlv_0 (by decide) (Or.inl (by decide))
          have hlv21_1 : aj_lv lv21 1 = some (.ref p1) := fx_e1 elv21 hlv_1 (by decide) (Or.inr rfl)
          have hlv21_2 : aj_lv lv21 2 = some (.int x20) := by rw [elv21]; exact ak_set1_eq _ _ _
          show fx_W _ _ _ 76 lv21 [] _ _
          refine fx_n (pc' := 40) (lv' := lv21) (st' := []) aj_d136 rfl (Nat.le_succ _) (fun _ => rfl) ?_
          exact (ih.2) lv21 (x20) X18  hlv21_0 hlv21_1 hlv21_2
theorem gx_136_ok {tb : aj_T} (p1 : Nat) {X : fx_X} : fx_K tb 136 [.ref 96, .ref p1] X (fx_Q fx_qI (fun v X' => gx_136 p1 X v X')) := by
  refine fx_m aj_m136_at rfl (fun N => ?_)
  refine fx_mono (Q := fx_Q fx_qI (fun v X' => ∃ n : Nat, gxE_136 p1 (gxF_136 p1 n) X v X')) (fun r X' h => h) ?_
  unfold gxE_136
  show fx_W _ _ _ 0 [(0, .ref 96), (1, .ref p1)] [] _ _
  obtain ⟨lv1, elv1⟩ : ∃ l : aj_V, l = [(0, .ref 96), (1, .ref p1)] := ⟨_, rfl⟩
  rw [← elv1]
  have hlv1_0 : aj_lv lv1 0 = some (.ref 96) := by rw [elv1]; rfl
  have hlv1_1 : aj_lv lv1 1 = some (.ref p1) := by rw [elv1]; rfl
  refine fx_n (pc' := 1) (lv' := lv1) (st' := [.int (Int32.ofInt 0)]) aj_d136 rfl (Nat.le_succ _) (fun _ => rfl) ?_
  refine fx_s0 (j := 2) aj_d136 rfl (Nat.le_succ _) (by decide) (fun _ => rfl) ?_
  obtain ⟨lv2, elv2⟩ : ∃ l, l = aj_set1 lv1 2 (.int (Int32.ofInt 0)) := ⟨_, rfl⟩
  rw [← elv2]
  have hlv2_0 : aj_lv lv2 0 = some (.ref 96) := fx_e1 elv2 hlv1_0 (by decide) (Or.inl (by decide))
  have hlv2_1 : aj_lv lv2 1 = some (.ref p1) := fx_e1 elv2 hlv1_1 (by decide) (Or.inr rfl)
  have hlv2_2 : aj_lv lv2 2 = some (.int (Int32.ofInt 0)) := by rw [elv2]; exact ak_set1_eq _ _ _
  show fx_W _ _ _ 2 lv2 [] _ _
  exact ((gxL_136 p1 N).1) lv2 ((Int32.ofInt 0)) X  hlv2_0 hlv2_1 hlv2_2
def gxT_128_16 (p1 : Nat) (p2 : Nat) (p3 : Nat) (p4 : Int32) (P : Nat → List Int32 → List Int64 → List Nat → fx_X → Int32 → fx_X → Prop) (y5 : Int32) (y6 : Int32) (X : fx_X) (v : Int32) (X' : fx_X) : Prop :=
  (if (y6).toInt < (y5).toInt then ((if (y6).toInt < 30 then (∃ (w11 : Int32) (X10 : fx_X), gx_131 p1 p2 y6 p4 X w11 X10 ∧ (if (w11).toInt = 0 then (∃ x17 : Int32, x17 = y6 + Int32.ofInt 1 ∧ P 16 [y5, x17] [] [] X10 v X') else (∃ x14 : Int32, x14 = (if ((Int32.ofNat 6) - (Int32.ofInt 1)) < (X10.1 96 1) then ((Int32.ofNat 6) - (Int32.ofInt 1)) else (X10.1 96 1)) ∧ P 68 [y5, y6, x14, (Int32.ofInt 0)] [] [] X10 v X'))) else (v = (Int32.ofInt 1) ∧ X' = X))) else (v = (Int32.ofInt 1) ∧ X' = X))
def gxT_128_68 (p1 : Nat) (p2 : Nat) (p3 : Nat) (p4 : Int32) (P : Nat → List Int32 → List Int64 → List Nat → fx_X → Int32 → fx_X → Prop) (y5 : Int32) (y6 : Int32) (y7 : Int32) (y8 : Int32) (X : fx_X) (v : Int32) (X' : fx_X) : Prop :=
  (if (y8).toInt < (y7).toInt then ((0 ≤ (y6).toInt ∧ (y6).toInt < ((30 : Nat) : Int)) ∧ (0 ≤ (y8).toInt ∧ (y8).toInt < ((6 : Nat) : Int)) ∧ ∃ (w39 : Int32) (X38 : fx_X), gx_114_2 p2 p1 (X.1 98 (y6).toInt.toNat) (X.1 97 (y8).toInt.toNat) p4 X w39 X38 ∧ (0 ≤ (y8).toInt ∧ (y8).toInt < ((6 : Nat) : Int)) ∧ ∃ X41 : fx_X, X41 = (fx_wI X38 99 (y8).toInt.toNat w39) ∧ ∃ x42 : Int32, x42 = y8 + Int32.ofInt 1 ∧ P 68 [y5, y6, y7, x42] [] [] X41 v X') else (∃ (w22 : Int32) (X21 : fx_X), gx_133 p1 p2 y6 y5 p4 X w22 X21 ∧ (0 ≤ (y7).toInt ∧ (y7).toInt < ((6 : Nat) : Int)) ∧ ∃ X24 : fx_X, X24 = (fx_wI X21 99 (y7).toInt.toNat w22) ∧ ∃ (w26 : Int32) (X25 : fx_X), gx_136 p3 X24 w26 X25 ∧ (if (w26).toInt < 0 then (v = (Int32.ofInt 0) ∧ X' = X25) else (∃ (w30 : Unit) (X29 : fx_X), gx_109 p3 w26 p4 X25 w30 X29 ∧ ∃ x31 : Int32, x31 = y6 + Int32.ofInt 1 ∧ P 16 [y5, x31] [] [] X29 v X'))))
def gxE_128 (p1 : Nat) (p2 : Nat) (p3 : Nat) (p4 : Int32) (P : Nat → List Int32 → List Int64 → List Nat → fx_X → Int32 → fx_X → Prop) (X : fx_X) (v : Int32) (X' : fx_X) : Prop :=
  ∃ (w4 : Int32) (X3 : fx_X), gx_129 p2 p1 p4 98 X w4 X3 ∧ P 16 [w4, (Int32.ofInt 0)] [] [] X3 v X'
noncomputable def gxF_128 (p1 : Nat) (p2 : Nat) (p3 : Nat) (p4 : Int32) (n : Nat) : Nat → List Int32 → List Int64 → List Nat → fx_X → Int32 → fx_X → Prop := Nat.rec (motive := fun _ => Nat → List Int32 → List Int64 → List Nat → fx_X → Int32 → fx_X → Prop) (fun _ _ _ _ _ _ _ => False) (fun _ P l is ls rs X v X' => (l = 16 ∧ ∃ (y5 : Int32) (y6 : Int32), is = [y5, y6] ∧ ls = [] ∧ rs = [] ∧ gxT_128_16 p1 p2 p3 p4 P y5 y6 X v X') ∨ (l = 68 ∧ ∃ (y5 : Int32) (y6 : Int32) (y7 : Int32) (y8 : Int32), is = [y5, y6, y7, y8] ∧ ls = [] ∧ rs = [] ∧ gxT_128_68 p1 p2 p3 p4 P y5 y6 y7 y8 X v X')) n
theorem gxI_128_16 {p1 : Nat} {p2 : Nat} {p3 : Nat} {p4 : Int32} {n : Nat} {y5 : Int32} {y6 : Int32} {X : fx_X} {v : Int32} {X' : fx_X} (h : gxT_128_16 p1 p2 p3 p4 (gxF_128 p1 p2 p3 p4 n) y5 y6 X v X') : gxF_128 p1 p2 p3 p4 (n + 1) 16 [y5, y6] [] [] X v X' := Or.inl ⟨rfl, y5, y6, rfl, rfl, rfl, h⟩
theorem gxO_128_16 {p1 : Nat} {p2 : Nat} {p3 : Nat} {p4 : Int32} {n : Nat} {y5 : Int32} {y6 : Int32} {X : fx_X} {v : Int32} {X' : fx_X} (h : gxF_128 p1 p2 p3 p4 (n + 1) 16 [y5, y6] [] [] X v X') : gxT_128_16 p1 p2 p3 p4 (gxF_128 p1 p2 p3 p4 n) y5 y6 X v X' := by
  rcases h with ⟨-, _, _, e1, e2, e3, h⟩ | ⟨e, -⟩
  · cases e1; cases e2; cases e3; exact h
  · exact absurd e (by decide)
theorem gxI_128_68 {p1 : Nat} {p2 : Nat} {p3 : Nat} {p4 : Int32} {n : Nat} {y5 : Int32} {y6 : Int32} {y7 : Int32} {y8 : Int32} {X : fx_X} {v : Int32} {X' : fx_X} (h : gxT_128_68 p1 p2 p3 p4 (gxF_128 p1 p2 p3 p4 n) y5 y6 y7 y8 X v X') : gxF_128 p1 p2 p3 p4 (n + 1) 68 [y5, y6, y7, y8] [] [] X v X' := Or.inr (⟨rfl, y5, y6, y7, y8, rfl, rfl, rfl, h⟩)
theorem gxO_128_68 {p1 : Nat} {p2 : Nat} {p3 : Nat} {p4 : Int32} {n : Nat} {y5 : Int32} {y6 : Int32} {y7 : Int32} {y8 : Int32} {X : fx_X} {v : Int32} {X' : fx_X} (h : gxF_128 p1 p2 p3 p4 (n + 1) 68 [y5, y6, y7, y8] [] [] X v X') : gxT_128_68 p1 p2 p3 p4 (gxF_128 p1 p2 p3 p4 n) y5 y6 y7 y8 X v X' := by
  rcases h with ⟨e, -⟩ | ⟨-, _, _, _, _, e1, e2, e3, h⟩
  · exact absurd e (by decide)
  · cases e1; cases e2; cases e3; exact h
def gx_128 (p1 : Nat) (p2 : Nat) (p3 : Nat) (p4 : Int32) (X : fx_X) (v : Int32) (X' : fx_X) : Prop := ∃ n : Nat, gxE_128 p1 p2 p3 p4 (gxF_128 p1 p2 p3 p4 n) X v X'
theorem gxL_128 {tb : aj_T} (p1 : Nat) (p2 : Nat) (p3 : Nat) (p4 : Int32) : ∀ N : Nat, (∀ (lv : aj_V) (y5 : Int32) (y6 : Int32) (X : fx_X), aj_lv lv 0 = some (.ref 96) → aj_lv lv 1 = some (.ref p1) → aj_lv lv 2 = some (.ref p2) → aj_lv lv 3 = some (.ref p3) → aj_lv lv 4 = some (.int p4) → aj_lv lv 5 = some (.int y5) → aj_lv lv 6 = some (.int y6) → fx_W tb aj_m128 N 16 lv [] X (fx_Q fx_qI (fun v X' => ∃ n : Nat, gxF_128 p1 p2 p3 p4 n 16 [y5, y6] [] [] X v X'))) ∧ (∀ (lv : aj_V) (y5 : Int32) (y6 : Int32) (y7 : Int32) (y8 : Int32) (X : fx_X), aj_lv lv 0 = some (.ref 96) → aj_lv lv 1 = some (.ref p1) → aj_lv lv 2 = some (.ref p2) → aj_lv lv 3 = some (.ref p3) → aj_lv lv 4 = some (.int p4) → aj_lv lv 5 = some (.int y5) → aj_lv lv 6 = some (.int y6) → aj_lv lv 7 = some (.int y7) → aj_lv lv 8 = some (.int y8) → fx_W tb aj_m128 N 68 lv [] X (fx_Q fx_qI (fun v X' => ∃ n : Nat, gxF_128 p1 p2 p3 p4 n 68 [y5, y6, y7, y8] [] [] X v X'))) := by
  intro N
  induction N with
  | zero => exact ⟨(by intros; exact fx_z), (by intros; exact fx_z)⟩
  | succ N ih =>
    refine ⟨?_, ?_⟩
    · intro lv y5 y6 X hlv_0 hlv_1 hlv_2 hlv_3 hlv_4 hlv_5 hlv_6
      refine fx_mono (Q := fx_Q fx_qI (fun v X' => ∃ n : Nat, gxT_128_16 p1 p2 p3 p4 (gxF_128 p1 p2 p3 p4 n) y5 y6 X v X')) (fun r X' ⟨v, e, n, z⟩ => ⟨v, e, n + 1, gxI_128_16 z⟩) ?_
      unfold gxT_128_16
      refine fx_i0 aj_d128 rfl (Nat.le_refl _) (fun _ => rfl) hlv_6 ?_
      refine fx_i0 aj_d128 rfl (Nat.le_succ _) (fun _ => rfl) hlv_5 ?_
      refine fx_b (tgt := 156) aj_d128 rfl (Nat.le_succ _) rfl (fun q7 => ?_) (fun q7 => ?_)
      · skip
        refine fx_qe (c := (y6).toInt < (y5).toInt) (fx_t_ge q7) ?_
        show fx_W _ _ _ 156 lv [] _ _
        refine fx_n (pc' := 157) (lv' := lv) (st' := [.int (Int32.ofInt 1)]) aj_d128 rfl (Nat.le_succ _) (fun _ => rfl) ?_
        exact fx_ri aj_d128 rfl ⟨_, rfl, 0, rfl, rfl⟩
      · skip
        refine fx_qi (c := (y6).toInt < (y5).toInt) (fx_f_ge q7) ?_
        show fx_W _ _ _ 23 lv [] _ _
        refine fx_i0 aj_d128 rfl (Nat.le_succ _) (fun _ => rfl) hlv_6 ?_
        refine fx_i2 aj_d128 rfl (Nat.le_succ _) (fun _ => rfl) hlv_0 ?_
        refine fx_gF aj_d128 rfl (Nat.le_succ _) rfl rfl fx_in_1_4 (t := 98) rfl (fun hA8 => ?_)
        refine fx_al aj_d128 rfl (Nat.le_succ _) ?_
        rw [(hA8 : X.2.2.2.1 98 = (0, 30))]
        show fx_W _ _ _ 30 lv [.int (Int32.ofNat 30), .int y6] _ _
        refine fx_b (tgt := 156) aj_d128 rfl (Nat.le_succ _) rfl (fun q9 => ?_) (fun q9 => ?_)
        · skip
          refine fx_qe (c := (y6).toInt < 30) (fx_t_ge q9) ?_
          show fx_W _ _ _ 156 lv [] _ _
          refine fx_n (pc' := 157) (lv' := lv) (st' := [.int (Int32.ofInt 1)]) aj_d128 rfl (Nat.le_succ _) (fun _ => rfl) ?_
          exact fx_ri aj_d128 rfl ⟨_, rfl, 0, rfl, rfl⟩
        · skip
          refine fx_qi (c := (y6).toInt < 30) (fx_f_ge q9) ?_
          show fx_W _ _ _ 33 lv [] _ _
          refine fx_i2 aj_d128 rfl (Nat.le_succ _) (fun _ => rfl) hlv_0 ?_
          refine fx_i2 aj_d128 rfl (Nat.le_succ _) (fun _ => rfl) hlv_1 ?_
          refine fx_i2 aj_d128 rfl (Nat.le_succ _) (fun _ => rfl) hlv_2 ?_
          refine fx_i0 aj_d128 rfl (Nat.le_succ _) (fun _ => rfl) hlv_6 ?_
          refine fx_i0 aj_d128 rfl (Nat.le_succ _) (fun _ => rfl) hlv_4 ?_
          refine fx_cv aj_d128 rfl (Nat.le_succ _) rfl [_, _, _, _] rfl rfl (gx_131_ok p1 p2 y6 p4) ?_
          rintro _ X10 ⟨w11, rfl, hR10⟩ hok10 hle10
          refine fx_qc hR10 ?_
          show fx_W _ _ _ 43 lv [.int w11] _ _
          refine fx_b0 (tgt := 49) aj_d128 rfl (Nat.le_succ _) rfl (fun q12 => ?_) (fun q12 => ?_)
          · skip
            refine fx_qe (c := (w11).toInt = 0) (fx_t_ne q12) ?_
            show fx_W _ _ _ 49 lv [] _ _
            refine fx_i2 aj_d128 rfl (Nat.le_succ _) (fun _ => rfl) hlv_0 ?_
            refine fx_gI aj_d128 rfl (Nat.le_succ _) rfl rfl (Or.inl rfl) ?_
            refine fx_i2 aj_d128 rfl (Nat.le_succ _) (fun _ => rfl) hlv_0 ?_
            refine fx_gF aj_d128 rfl (Nat.le_succ _) rfl rfl fx_in_1_0 (t := 97) rfl (fun hA13 => ?_)
            refine fx_al aj_d128 rfl (Nat.le_succ _) ?_
            rw [(hA13 : X10.2.2.2.1 97 = (0, 6))]
            show fx_W _ _ _ 58 lv [.int (Int32.ofNat 6), .int (X10.1 96 1)] _ _
            refine fx_n (pc' := 59) (lv' := lv) (st' := [.int (Int32.ofInt 1), .int (Int32.ofNat 6), .int (X10.1 96 1)]) aj_d128 rfl (Nat.le_succ _) (fun _ => rfl) ?_
            refine fx_n (pc' := 60) (lv' := lv) (st' := [.int ((Int32.ofNat 6) - (Int32.ofInt 1)), .int (X10.1 96 1)]) aj_d128 rfl (Nat.le_succ _) (fun _ => rfl) ?_
            refine fx_mn aj_d128 rfl (Nat.le_succ _) rfl ?_
            show fx_W _ _ _ 63 lv [.int (if ((Int32.ofNat 6) - (Int32.ofInt 1)) < (X10.1 96 1) then ((Int32.ofNat 6) - (Int32.ofInt 1)) else (X10.1 96 1))] _ _
            refine fx_qxI (fun x14 ex14 => ?_)
            refine fx_s0 (j := 7) aj_d128 rfl (Nat.le_succ _) (by decide) (fun _ => rfl) ?_
            obtain ⟨lv15, elv15⟩ : ∃ l, l = aj_set1 lv 7 (.int x14) := ⟨_, rfl⟩
            rw [← elv15]
            have hlv15_0 : aj_lv lv15 0 = some (.ref 96) := fx_e1 elv15 hlv_0 (by decide) (Or.inl (by decide))
            have hlv15_1 : aj_lv lv15 1 = some (.ref p1) := fx_e1 elv15 hlv_1 (by decide) (Or.inl (by decide))
            have hlv15_2 : aj_lv lv15 2 = some (.ref p2) := fx_e1 elv15 hlv_2 (by decide) (Or.inl (by decide))
            have hlv15_3 : aj_lv lv15 3 = some (.ref p3) := fx_e1 elv15 hlv_3 (by decide) (Or.inl (by decide))
            have hlv15_4 : aj_lv lv15 4 = some (.int p4) := fx_e1 elv15 hlv_4 (by decide) (Or.inl (by decide))
            have hlv15_5 : aj_lv lv15 5 = some (.int y5) := fx_e1 elv15 hlv_5 (by decide) (Or.inl (by decide))
            have hlv15_6 : aj_lv lv15 6 = some (.int y6) := fx_e1 elv15 hlv_6 (by decide) (Or.inr rfl)
            have hlv15_7 : aj_lv lv15 7 = some (.int x14) := by rw [elv15]; exact ak_set1_eq _ _ _
            show fx_W _ _ _ 65 lv15 [] _ _
            refine fx_n (pc' := 66) (lv' := lv15) (st' := [.int (Int32.ofInt 0)]) aj_d128 rfl (Nat.le_succ _) (fun _ => rfl) ?_
            refine fx_s0 (j := 8) aj_d128 rfl (Nat.le_succ _) (by decide) (fun _ => rfl) ?_
            obtain ⟨lv16, elv16⟩ : ∃ l, l = aj_set1 lv15 8 (.int (Int32.ofInt 0)) := ⟨_, rfl⟩
            rw [← elv16]
            have hlv16_0 : aj_lv lv16 0 = some (.ref 96) := fx_e1 elv16 hlv15_0 (by decide) (Or.inl (by decide))
            have hlv16_1 : aj_lv lv16 1 = some (.ref p1) := fx_e1 elv16 hlv15_1 (by decide) (Or.inl (by decide))
            have hlv16_2 : aj_lv lv16 2 = some (.ref p2) := fx_e1 elv16 hlv15_2 (by decide) (Or.inl (by decide))
            have hlv16_3 : aj_lv lv16 3 = some (.ref p3) := fx_e1 elv16 hlv15_3 (by decide) (Or.inl (by decide))
            have hlv16_4 : aj_lv lv16 4 = some (.int p4) := fx_e1 elv16 hlv15_4 (by decide) (Or.inl (by decide))
            have hlv16_5 : aj_lv lv16 5 = some (.int y5) := fx_e1 elv16 hlv15_5 (by decide) (Or.inl (by decide))
            have hlv16_6 : aj_lv lv16 6 = some (.int y6) := fx_e1 elv16 hlv15_6 (by decide) (Or.inl (by decide))
            have hlv16_7 : aj_lv lv16 7 = some (.int x14) := fx_e1 elv16 hlv15_7 (by decide) (Or.inr rfl)
            have hlv16_8 : aj_lv lv16 8 = some (.int (Int32.ofInt 0)) := by rw [elv16]; exact ak_set1_eq _ _ _
            show fx_W _ _ _ 68 lv16 [] _ _
            exact (ih.2) lv16 (y5) (y6) (x14) ((Int32.ofInt 0)) X10  hlv16_0 hlv16_1 hlv16_2 hlv16_3 hlv16_4 hlv16_5 hlv16_6 hlv16_7 hlv16_8
          · skip
            refine fx_qi (c := (w11).toInt = 0) (fx_f_ne q12) ?_
            show fx_W _ _ _ 46 lv [] _ _
            refine fx_n (pc' := 150) (lv' := lv) (st' := []) aj_d128 rfl (Nat.le_succ _) (fun _ => rfl) ?_
            refine fx_incq aj_d128 rfl (Nat.le_succ _) hlv_6 (by decide) (fun x17 ex17 => ?_)
            obtain ⟨lv18, elv18⟩ : ∃ l, l = aj_set1 lv 6 (.int x17) := ⟨_, rfl⟩
            rw [← elv18]
            have hlv18_0 : aj_lv lv18 0 = some (.ref 96) := fx_e1 elv18 hlv_0 (by decide) (Or.inl (by decide))
            have hlv18_1 : aj_lv lv18 1 = some (.ref p1) := fx_e1 elv18 hlv_1 (by decide) (Or.inl (by decide))
            have hlv18_2 : aj_lv lv18 2 = some (.ref p2) := fx_e1 elv18 hlv_2 (by decide) (Or.inl (by decide))
            have hlv18_3 : aj_lv lv18 3 = some (.ref p3) := fx_e1 elv18 hlv_3 (by decide) (Or.inl (by decide))
            have hlv18_4 : aj_lv lv18 4 = some (.int p4) := fx_e1 elv18 hlv_4 (by decide) (Or.inl (by decide))
            have hlv18_5 : aj_lv lv18 5 = some (.int y5) := fx_e1 elv18 hlv_5 (by decide) (Or.inr rfl)
            have hlv18_6 : aj_lv lv18 6 = some (.int x17) := by rw [elv18]; exact ak_set1_eq _ _ _
            show fx_W _ _ _ 153 lv18 [] _ _
            refine fx_n (pc' := 16) (lv' := lv18) (st' := []) aj_d128 rfl (Nat.le_succ _) (fun _ => rfl) ?_
            exact (ih.1) lv18 (y5) (x17) X10  hlv18_0 hlv18_1 hlv18_2 hlv18_3 hlv18_4 hlv18_5 hlv18_6
    · intro lv y5 y6 y7 y8 X hlv_0 hlv_1 hlv_2 hlv_3 hlv_4 hlv_5 hlv_6 hlv_7 hlv_8
      refine fx_mono (Q := fx_Q fx_qI (fun v X' => ∃ n : Nat, gxT_128_68 p1 p2 p3 p4 (gxF_128 p1 p2 p3 p4 n) y5 y6 y7 y8 X v X')) (fun r X' ⟨v, e, n, z⟩ => ⟨v, e, n + 1, gxI_128_68 z⟩) ?_
      unfold gxT_128_68
      refine fx_i0 aj_d128 rfl (Nat.le_refl _) (fun _ => rfl) hlv_8 ?_
      refine fx_i0 aj_d128 rfl (Nat.le_succ _) (fun _ => rfl) hlv_7 ?_
      refine fx_b (tgt := 109) aj_d128 rfl (Nat.le_succ _) rfl (fun q19 => ?_) (fun q19 => ?_)
      · skip
        refine fx_qe (c := (y8).toInt < (y7).toInt) (fx_t_ge q19) ?_
        show fx_W _ _ _ 109 lv [] _ _
        refine fx_i2 aj_d128 rfl (Nat.le_succ _) (fun _ => rfl) hlv_0 ?_
        refine fx_gF aj_d128 rfl (Nat.le_succ _) rfl rfl fx_in_1_5 (t := 99) rfl (fun hA20 => ?_)
        refine fx_i0 aj_d128 rfl (Nat.le_succ _) (fun _ => rfl) hlv_7 ?_
        refine fx_i2 aj_d128 rfl (Nat.le_succ _) (fun _ => rfl) hlv_0 ?_
        refine fx_i2 aj_d128 rfl (Nat.le_succ _) (fun _ => rfl) hlv_1 ?_
        refine fx_i2 aj_d128 rfl (Nat.le_succ _) (fun _ => rfl) hlv_2 ?_
        refine fx_i0 aj_d128 rfl (Nat.le_succ _) (fun _ => rfl) hlv_6 ?_
        refine fx_i0 aj_d128 rfl (Nat.le_succ _) (fun _ => rfl) hlv_5 ?_
        refine fx_i0 aj_d128 rfl (Nat.le_succ _) (fun _ => rfl) hlv_4 ?_
        refine fx_cv aj_d128 rfl (Nat.le_succ _) rfl [_, _, _, _, _] rfl rfl (gx_133_ok p1 p2 y6 y5 p4) ?_
        rintro _ X21 ⟨w22, rfl, hR21⟩ hok21 hle21
        refine fx_qc hR21 ?_
        show fx_W _ _ _ 127 lv [.int w22, .int y7, .ref 99] _ _
        refine fx_st aj_d128 (Or.inl ⟨rfl, rfl⟩) rfl (Nat.le_succ _) (fun g230 g231 => ?_)
        show fx_W _ _ _ _ _ _ (fx_wI X21 99 (y7).toInt.toNat w22) _
        refine fx_qa (c := 0 ≤ (y7).toInt ∧ (y7).toInt < ((6 : Nat) : Int)) ⟨g230, fx_lnk g231 ((hle21.2 _ (by rw [hA20]; decide)).trans hA20)⟩ ?_
        refine fx_qX (fun X24 eX24 => ?_)
        show fx_W _ _ _ 128 lv [] _ _
        refine fx_i2 aj_d128 rfl (Nat.le_succ _) (fun _ => rfl) hlv_0 ?_
        refine fx_i2 aj_d128 rfl (Nat.le_succ _) (fun _ => rfl) hlv_3 ?_
        refine fx_cv aj_d128 rfl (Nat.le_succ _) rfl [_] rfl rfl (gx_136_ok p3) ?_
        rintro _ X25 ⟨w26, rfl, hR25⟩ hok25 hle25
        refine fx_qc hR25 ?_
        show fx_W _ _ _ 133 lv [.int w26] _ _
        refine fx_s0 (j := 8) aj_d128 rfl (Nat.le_succ _) (by decide) (fun _ => rfl) ?_
        obtain ⟨lv27, elv27⟩ : ∃ l, l = aj_set1 lv 8 (.int w26) := ⟨_, rfl⟩
        rw [← elv27]
        have hlv27_0 : aj_lv lv27 0 = some (.ref 96) := fx_e1 elv27 hlv_0 (by decide) (Or.inl (by decide))
        have hlv27_1 : aj_lv lv27 1 = some (.ref p1) := fx_e1 elv27 hlv_1 (by decide) (Or.inl (by decide))
        have hlv27_2 : aj_lv lv27 2 = some (.ref p2) := fx_e1 elv27 hlv_2 (by decide) (Or.inl (by decide))
        have hlv27_3 : aj_lv lv27 3 = some (.ref p3) := fx_e1 elv27 hlv_3 (by decide) (Or.inl (by decide))
        have hlv27_4 : aj_lv lv27 4 = some (.int p4) := fx_e1 elv27 hlv_4 (by decide) (Or.inl (by decide))
        have hlv27_5 : aj_lv lv27 5 = some (.int y5) := fx_e1 elv27 hlv_5 (by decide) (Or.inl (by decide))
        have hlv27_6 : aj_lv lv27 6 = some (.int y6) := fx_e1 elv27 hlv_6 (by decide) (Or.inl (by decide))
        have hlv27_8 : aj_lv lv27 8 = some (.int w26) := by rw [elv27]; exact ak_set1_eq _ _ _
        show fx_W _ _ _ 135 lv27 [] _ _
        refine fx_i0 aj_d128 rfl (Nat.le_succ _) (fun _ => rfl) hlv27_8 ?_
        refine fx_b0 (tgt := 142) aj_d128 rfl (Nat.le_succ _) rfl (fun q28 => ?_) (fun q28 => ?_)
        · skip
          refine fx_qe (c := (w26).toInt < 0) (fx_t_ge q28) ?_
          show fx_W _ _ _ 142 lv27 [] _ _
          refine fx_i2 aj_d128 rfl (Nat.le_succ _) (fun _ => rfl) hlv27_3 ?_
          refine fx_i0 aj_d128 rfl (Nat.le_succ _) (fun _ => rfl) hlv27_8 ?_
          refine fx_i0 aj_d128 rfl (Nat.le_succ _) (fun _ => rfl) hlv27_4 ?_
          refine fx_cv aj_d128 rfl (Nat.le_succ _) rfl [_, _] rfl rfl (gx_109_ok p3 w26 p4) ?_
          rintro _ X29 ⟨w30, rfl, hR29⟩ hok29 hle29
          refine fx_qc hR29 ?_
          show fx_W _ _ _ 150 lv27 [] _ _
          refine fx_incq aj_d128 rfl (Nat.le_succ _) hlv27_6 (by decide) (fun x31 ex31 => ?_)
          obtain ⟨lv32, elv32⟩ : ∃ l, l = aj_set1 lv27 6 (.int x31) := ⟨_, rfl⟩
          rw [← elv32]
          have hlv32_0 : aj_lv lv32 0 = some (.ref 96) := fx_e1 elv32 hlv27_0 (by decide) (Or.inl (by decide))
          have hlv32_1 : aj_lv lv32 1 = some (.ref p1) := fx_e1 elv32 hlv27_1 (by decide) (Or.inl (by decide))
          have hlv32_2 : aj_lv lv32 2 = some (.ref p2) := fx_e1 elv32 hlv27_2 (by decide) (Or.inl (by decide))
          have hlv32_3 : aj_lv lv32 3 = some (.ref p3) := fx_e1 elv32 hlv27_3 (by decide) (Or.inl (by decide))
          have hlv32_4 : aj_lv lv32 4 = some (.int p4) := fx_e1 elv32 hlv27_4 (by decide) (Or.inl (by decide))
          have hlv32_5 : aj_lv lv32 5 = some (.int y5) := fx_e1 elv32 hlv27_5 (by decide) (Or.inr rfl)
          have hlv32_6 : aj_lv lv32 6 = some (.int x31) := by rw [elv32]; exact ak_set1_eq _ _ _
          show fx_W _ _ _ 153 lv32 [] _ _
          refine fx_n (pc' := 16) (lv' := lv32) (st' := []) aj_d128 rfl (Nat.le_succ _) (fun _ => rfl) ?_
          exact (ih.1) lv32 (y5) (x31) X29  hlv32_0 hlv32_1 hlv32_2 hlv32_3 hlv32_4 hlv32_5 hlv32_6
        · skip
          refine fx_qi (c := (w26).toInt < 0) (fx_f_ge q28) ?_
          show fx_W _ _ _ 140 lv27 [] _ _
          refine fx_n (pc' := 141) (lv' := lv27) (st' := [.int (Int32.ofInt 0)]) aj_d128 rfl (Nat.le_succ _) (fun _ => rfl) ?_
          exact fx_ri aj_d128 rfl ⟨_, rfl, 0, rfl, rfl⟩
      · skip
        refine fx_qi (c := (y8).toInt < (y7).toInt) (fx_f_ge q19) ?_
        show fx_W _ _ _ 75 lv [] _ _
        refine fx_i2 aj_d128 rfl (Nat.le_succ _) (fun _ => rfl) hlv_0 ?_
        refine fx_gF aj_d128 rfl (Nat.le_succ _) rfl rfl fx_in_1_5 (t := 99) rfl (fun hA33 => ?_)
        refine fx_i0 aj_d128 rfl (Nat.le_succ _) (fun _ => rfl) hlv_8 ?_
        refine fx_i2 aj_d128 rfl (Nat.le_succ _) (fun _ => rfl) hlv_2 ?_
        refine fx_i2 aj_d128 rfl (Nat.le_succ _) (fun _ => rfl) hlv_1 ?_
        refine fx_i2 aj_d128 rfl (Nat.le_succ _) (fun _ => rfl) hlv_0 ?_
        refine fx_gF aj_d128 rfl (Nat.le_succ _) rfl rfl fx_in_1_4 (t := 98) rfl (fun hA34 => ?_)
        refine fx_i0 aj_d128 rfl (Nat.le_succ _) (fun _ => rfl) hlv_6 ?_
        refine fx_ld aj_d128 (Or.inl rfl) rfl (Nat.le_succ _) (fun g350 g351 => ?_)
        show fx_W _ _ _ 90 lv [.int (X.1 98 (y6).toInt.toNat), .ref p1, .ref p2, .int y8, .ref 99] _ _
        refine fx_qa (c := 0 ≤ (y6).toInt ∧ (y6).toInt < ((30 : Nat) : Int)) ⟨g350, fx_lnk g351 hA34⟩ ?_
        refine fx_i2 aj_d128 rfl (Nat.le_succ _) (fun _ => rfl) hlv_0 ?_
        refine fx_gF aj_d128 rfl (Nat.le_succ _) rfl rfl fx_in_1_0 (t := 97) rfl (fun hA36 => ?_)
        refine fx_i0 aj_d128 rfl (Nat.le_succ _) (fun _ => rfl) hlv_8 ?_
        refine fx_ld aj_d128 (Or.inl rfl) rfl (Nat.le_succ _) (fun g370 g371 => ?_)
        show fx_W _ _ _ 97 lv [.int (X.1 97 (y8).toInt.toNat), .int (X.1 98 (y6).toInt.toNat), .ref p1, .ref p2, .int y8, .ref 99] _ _
        refine fx_qa (c := 0 ≤ (y8).toInt ∧ (y8).toInt < ((6 : Nat) : Int)) ⟨g370, fx_lnk g371 hA36⟩ ?_
        refine fx_i0 aj_d128 rfl (Nat.le_succ _) (fun _ => rfl) hlv_4 ?_
        refine fx_cv aj_d128 rfl (Nat.le_succ _) rfl [_, _, _, _] rfl rfl (gx_114_2_ok p2 p1 (X.1 98 (y6).toInt.toNat) (X.1 97 (y8).toInt.toNat) p4) ?_
        rintro _ X38 ⟨w39, rfl, hR38⟩ hok38 hle38
        refine fx_qc hR38 ?_
        show fx_W _ _ _ 102 lv [.int w39, .int y8, .ref 99] _ _
        refine fx_st aj_d128 (Or.inl ⟨rfl, rfl⟩) rfl (Nat.le_succ _) (fun g400 g401 => ?_)
        show fx_W _ _ _ _ _ _ (fx_wI X38 99 (y8).toInt.toNat w39) _
        refine fx_qa (c := 0 ≤ (y8).toInt ∧ (y8).toInt < ((6 : Nat) : Int)) ⟨g400, fx_lnk g401 ((hle38.2 _ (by rw [hA33]; decide)).trans hA33)⟩ ?_
        refine fx_qX (fun X41 eX41 => ?_)
        show fx_W _ _ _ 103 lv [] _ _
        refine fx_incq aj_d128 rfl (Nat.le_succ _) hlv_8 (by decide) (fun x42 ex42 => ?_)
        obtain ⟨lv43, elv43⟩ : ∃ l, l = aj_set1 lv 8 (.int x42) := ⟨_, rfl⟩
        rw [← elv43]
        have hlv43_0 : aj_lv lv43 0 = some (.ref 96) := fx_e1 elv43 hlv_0 (by decide) (Or.inl (by decide))
        have hlv43_1 : aj_lv lv43 1 = some (.ref p1) := fx_e1 elv43 hlv_1 (by decide) (Or.inl (by decide))
        have hlv43_2 : aj_lv lv43 2 = some (.ref p2) := fx_e1 elv43 hlv_2 (by decide) (Or.inl (by decide))
        have hlv43_3 : aj_lv lv43 3 = some (.ref p3) := fx_e1 elv43 hlv_3 (by decide) (Or.inl (by decide))
        have hlv43_4 : aj_lv lv43 4 = some (.int p4) := fx_e1 elv43 hlv_4 (by decide) (Or.inl (by decide))
        have hlv43_5 : aj_lv lv43 5 = some (.int y5) := fx_e1 elv43 hlv_5 (by decide) (Or.inl (by decide))
        have hlv43_6 : aj_lv lv43 6 = some (.int y6) := fx_e1 elv43 hlv_6 (by decide) (Or.inl (by decide))
        have hlv43_7 : aj_lv lv43 7 = some (.int y7) := fx_e1 elv43 hlv_7 (by decide) (Or.inr rfl)
        have hlv43_8 : aj_lv lv43 8 = some (.int x42) := by rw [elv43]; exact ak_set1_eq _ _ _
        show fx_W _ _ _ 106 lv43 [] _ _
        refine fx_n (pc' := 68) (lv' := lv43) (st' := []) aj_d128 rfl (Nat.le_succ _) (fun _ => rfl) ?_
        exact (ih.2) lv43 (y5) (y6) (y7) (x42) X41  hlv43_0 hlv43_1 hlv43_2 hlv43_3 hlv43_4 hlv43_5 hlv43_6 hlv43_7 hlv43_8
theorem gx_128_ok {tb : aj_T} (p1 : Nat) (p2 : Nat) (p3 : Nat) (p4 : Int32) {X : fx_X} : fx_K tb 128 [.ref 96, .ref p1, .ref p2, .ref p3, .int p4] X (fx_Q fx_qI (fun v X' => gx_128 p1 p2 p3 p4 X v X')) := by
  refine fx_m aj_m128_at rfl (fun N => ?_)
  refine fx_mono (Q := fx_Q fx_qI (fun v X' => ∃ n : Nat, gxE_128 p1 p2 p3 p4 (gxF_128 p1 p2 p3 p4 n) X v X')) (fun r X' h => h) ?_
  unfold gxE_128
  show fx_W _ _ _ 0 [(0, .ref 96), (1, .ref p1), (2, .ref p2), (3, .ref p3), (4, .int p4)] [] _ _
  obtain ⟨lv1, elv1⟩ : ∃ l : aj_V, l = [(0, .ref 96), (1, .ref p1), (2, .ref p2), (3, .ref p3), (4, .int p4)] := ⟨_, rfl⟩
  rw [← elv1]
  have hlv1_0 : aj_lv lv1 0 = some (.ref 96) := by rw [elv1]; rfl
  have hlv1_1 : aj_lv lv1 1 = some (.ref p1) := by rw [elv1]; rfl
  have hlv1_2 : aj_lv lv1 2 = some (.ref p2) := by rw [elv1]; rfl
  have hlv1_3 : aj_lv lv1 3 = some (.ref p3) := by rw [elv1]; rfl
  have hlv1_4 : aj_lv lv1 4 = some (.int p4) := by rw [elv1]; rfl
  refine fx_i2 aj_d128 rfl (Nat.le_succ _) (fun _ => rfl) hlv1_2 ?_
  refine fx_i2 aj_d128 rfl (Nat.le_succ _) (fun _ => rfl) hlv1_1 ?_
  refine fx_i0 aj_d128 rfl (Nat.le_succ _) (fun _ => rfl) hlv1_4 ?_
  refine fx_i2 aj_d128 rfl (Nat.le_succ _) (fun _ => rfl) hlv1_0 ?_
  refine fx_gF aj_d128 rfl (Nat.le_succ _) rfl rfl fx_in_1_4 (t := 98) rfl (fun hA2 => ?_)
  refine fx_cv aj_d128 rfl (Nat.le_succ _) rfl [_, _, _] rfl rfl (gx_129_ok p2 p1 p4 98 hA2) ?_
  rintro _ X3 ⟨w4, rfl, hR3⟩ hok3 hle3
  refine fx_qc hR3 ?_
  show fx_W _ _ _ 11 lv1 [.int w4] _ _
  refine fx_s0 (j := 5) aj_d128 rfl (Nat.le_succ _) (by decide) (fun _ => rfl) ?_
  obtain ⟨lv5, elv5⟩ : ∃ l, l = aj_set1 lv1 5 (.int w4) := ⟨_, rfl⟩
  rw [← elv5]
  have hlv5_0 : aj_lv lv5 0 = some (.ref 96) := fx_e1 elv5 hlv1_0 (by decide) (Or.inl (by decide))
  have hlv5_1 : aj_lv lv5 1 = some (.ref p1) := fx_e1 elv5 hlv1_1 (by decide) (Or.inl (by decide))
  have hlv5_2 : aj_lv lv5 2 = some (.ref p2) := fx_e1 elv5 hlv1_2 (by decide) (Or.inl (by decide))
  have hlv5_3 : aj_lv lv5 3 = some (.ref p3) := fx_e1 elv5 hlv1_3 (by decide) (Or.inl (by decide))
  have hlv5_4 : aj_lv lv5 4 = some (.int p4) := fx_e1 elv5 hlv1_4 (by decide) (Or.inr rfl)
  have hlv5_5 : aj_lv lv5 5 = some (.int w4) := by rw [elv5]; exact ak_set1_eq _ _ _
  show fx_W _ _ _ 13 lv5 [] _ _
  refine fx_n (pc' := 14) (lv' := lv5) (st' := [.int (Int32.ofInt 0)]) aj_d128 rfl (Nat.le_succ _) (fun _ => rfl) ?_
  refine fx_s0 (j := 6) aj_d128 rfl (Nat.le_succ _) (by decide) (fun _ => rfl) ?_
  obtain ⟨lv6, elv6⟩ : ∃ l, l = aj_set1 lv5 6 (.int (Int32.ofInt 0)) := ⟨_, rfl⟩
  rw [← elv6]
  have hlv6_0 : aj_lv lv6 0 = some (.ref 96) := fx_e1 elv6 hlv5_0 (by decide) (Or.inl (by decide))
  have hlv6_1 : aj_lv lv6 1 = some (.ref p1) := fx_e1 elv6 hlv5_1 (by decide) (Or.inl (by decide))
  have hlv6_2 : aj_lv lv6 2 = some (.ref p2) := fx_e1 elv6 hlv5_2 (by decide) (Or.inl (by decide))
  have hlv6_3 : aj_lv lv6 3 = some (.ref p3) := fx_e1 elv6 hlv5_3 (by decide) (Or.inl (by decide))
  have hlv6_4 : aj_lv lv6 4 = some (.int p4) := fx_e1 elv6 hlv5_4 (by decide) (Or.inl (by decide))
  have hlv6_5 : aj_lv lv6 5 = some (.int w4) := fx_e1 elv6 hlv5_5 (by decide) (Or.inr rfl)
  have hlv6_6 : aj_lv lv6 6 = some (.int (Int32.ofInt 0)) := by rw [elv6]; exact ak_set1_eq _ _ _
  show fx_W _ _ _ 16 lv6 [] _ _
  exact ((gxL_128 p1 p2 p3 p4 N).1) lv6 (w4) ((Int32.ofInt 0)) X3  hlv6_0 hlv6_1 hlv6_2 hlv6_3 hlv6_4 hlv6_5 hlv6_6
def gxT_127_2_18 (p1 : Nat) (p2 : Nat) (p3 : Nat) (P : Nat → List Int32 → List Int64 → List Nat → fx_X → Int32 → fx_X → Prop) (y4 : Int32) (X : fx_X) (v : Int32) (X' : fx_X) : Prop :=
  (if (y4).toInt < ((X.1 p1 13)).toInt then (∃ (w9 : Int32) (X8 : fx_X), gx_128 p1 p2 p3 y4 X w9 X8 ∧ (if (w9).toInt = 0 then (v = (Int32.ofInt 0) ∧ X' = X8) else (∃ x11 : Int32, x11 = y4 + Int32.ofInt 1 ∧ P 18 [x11] [] [] X8 v X'))) else (∃ (w7 : Unit) (X6 : fx_X), gx_138 p1 p3 X w7 X6 ∧ v = (Int32.ofInt 1) ∧ X' = X6))
def gxE_127_2 (p1 : Nat) (p2 : Nat) (p3 : Nat) (P : Nat → List Int32 → List Int64 → List Nat → fx_X → Int32 → fx_X → Prop) (X : fx_X) (v : Int32) (X' : fx_X) : Prop :=
  ∃ (w3 : Unit) (X2 : fx_X), gx_116 p3 (if ((Int8.ofInt 6).toInt32) < ((X.1 96 1) + (Int32.ofInt 1)) then ((Int8.ofInt 6).toInt32) else ((X.1 96 1) + (Int32.ofInt 1))) X w3 X2 ∧ P 18 [(Int32.ofInt 0)] [] [] X2 v X'
noncomputable def gxF_127_2 (p1 : Nat) (p2 : Nat) (p3 : Nat) (n : Nat) : Nat → List Int32 → List Int64 → List Nat → fx_X → Int32 → fx_X → Prop := Nat.rec (motive := fun _ => Nat → List Int32 → List Int64 → List Nat → fx_X → Int32 → fx_X → Prop) (fun _ _ _ _ _ _ _ => False) (fun _ P l is ls rs X v X' => (l = 18 ∧ ∃ (y4 : Int32), is = [y4] ∧ ls = [] ∧ rs = [] ∧ gxT_127_2_18 p1 p2 p3 P y4 X v X')) n
theorem gxI_127_2_18 {p1 : Nat} {p2 : Nat} {p3 : Nat} {n : Nat} {y4 : Int32} {X : fx_X} {v : Int32} {X' : fx_X} (h : gxT_127_2_18 p1 p2 p3 (gxF_127_2 p1 p2 p3 n) y4 X v X') : gxF_127_2 p1 p2 p3 (n + 1) 18 [y4] [] [] X v X' := ⟨rfl, y4, rfl, rfl, rfl, h⟩
theorem gxO_127_2_18 {p1 : Nat} {p2 : Nat} {p3 : Nat} {n : Nat} {y4 : Int32} {X : fx_X} {v : Int32} {X' : fx_X} (h : gxF_127_2 p1 p2 p3 (n + 1) 18 [y4] [] [] X v X') : gxT_127_2_18 p1 p2 p3 (gxF_127_2 p1 p2 p3 n) y4 X v X' := by
  rcases h with ⟨-, _, e1, e2, e3, h⟩
  · cases e1; cases e2; cases e3; exact h
def gx_127_2 (p1 : Nat) (p2 : Nat) (p3 : Nat) (X : fx_X) (v : Int32) (X' : fx_X) : Prop := ∃ n : Nat, gxE_127_2 p1 p2 p3 (gxF_127_2 p1 p2 p3 n) X v X'
theorem gxL_127_2 {tb : aj_T} (p1 : Nat) (p2 : Nat) (p3 : Nat) : ∀ N : Nat, (∀ (lv : aj_V) (y4 : Int32) (X : fx_X), aj_lv lv 0 = some (.ref 96) → aj_lv lv 1 = some (.ref p1) → aj_lv lv 2 = some (.ref p2) → aj_lv lv 3 = some (.ref p3) → aj_lv lv 4 = some (.int y4) → fx_W tb aj_m127 N 18 lv [] X (fx_Q fx_qI (fun v X' => ∃ n : Nat, gxF_127_2 p1 p2 p3 n 18 [y4] [] [] X v X'))) := by
  intro N
  induction N with
  | zero => exact (by intros; exact fx_z)
  | succ N ih =>
    skip
    · intro lv y4 X hlv_0 hlv_1 hlv_2 hlv_3 hlv_4
      refine fx_mono (Q := fx_Q fx_qI (fun v X' => ∃ n : Nat, gxT_127_2_18 p1 p2 p3 (gxF_127_2 p1 p2 p3 n) y4 X v X')) (fun r X' ⟨v, e, n, z⟩ => ⟨v, e, n + 1, gxI_127_2_18 z⟩) ?_
      unfold gxT_127_2_18
      refine fx_i0 aj_d127 rfl (Nat.le_refl _) (fun _ => rfl) hlv_4 ?_
      refine fx_i2 aj_d127 rfl (Nat.le_succ _) (fun _ => rfl) hlv_1 ?_
      refine fx_gI aj_d127 rfl (Nat.le_succ _) rfl rfl (Or.inl rfl) ?_
      refine fx_b (tgt := 47) aj_d127 rfl (Nat.le_succ _) rfl (fun q5 => ?_) (fun q5 => ?_)
      · skip
        refine fx_qe (c := (y4).toInt < ((X.1 p1 13)).toInt) (fx_t_ge q5) ?_
        show fx_W _ _ _ 47 lv [] _ _
        refine fx_i2 aj_d127 rfl (Nat.le_succ _) (fun _ => rfl) hlv_1 ?_
        refine fx_i2 aj_d127 rfl (Nat.le_succ _) (fun _ => rfl) hlv_3 ?_
        refine fx_cs aj_d127 rfl (Nat.le_succ _) rfl rfl [_, _] rfl rfl (gx_138_ok p1 p3) ?_
        rintro _ X6 ⟨w7, rfl, hR6⟩ hok6 hle6
        refine fx_qc hR6 ?_
        show fx_W _ _ _ 52 lv [] _ _
        refine fx_n (pc' := 53) (lv' := lv) (st' := [.int (Int32.ofInt 1)]) aj_d127 rfl (Nat.le_succ _) (fun _ => rfl) ?_
        exact fx_ri aj_d127 rfl ⟨_, rfl, 0, rfl, rfl⟩
      · skip
        refine fx_qi (c := (y4).toInt < ((X.1 p1 13)).toInt) (fx_f_ge q5) ?_
        show fx_W _ _ _ 27 lv [] _ _
        refine fx_i2 aj_d127 rfl (Nat.le_succ _) (fun _ => rfl) hlv_0 ?_
        refine fx_i2 aj_d127 rfl (Nat.le_succ _) (fun _ => rfl) hlv_1 ?_
        refine fx_i2 aj_d127 rfl (Nat.le_succ _) (fun _ => rfl) hlv_2 ?_
        refine fx_i2 aj_d127 rfl (Nat.le_succ _) (fun _ => rfl) hlv_3 ?_
        refine fx_i0 aj_d127 rfl (Nat.le_succ _) (fun _ => rfl) hlv_4 ?_
        refine fx_cv aj_d127 rfl (Nat.le_succ _) rfl [_, _, _, _] rfl rfl (gx_128_ok p1 p2 p3 y4) ?_
        rintro _ X8 ⟨w9, rfl, hR8⟩ hok8 hle8
        refine fx_qc hR8 ?_
        show fx_W _ _ _ 36 lv [.int w9] _ _
        refine fx_b0 (tgt := 41) aj_d127 rfl (Nat.le_succ _) rfl (fun q10 => ?_) (fun q10 => ?_)
        · skip
          refine fx_qe (c := (w9).toInt = 0) (fx_t_ne q10) ?_
          show fx_W _ _ _ 41 lv [] _ _
          refine fx_incq aj_d127 rfl (Nat.le_succ _) hlv_4 (by decide) (fun x11 ex11 => ?_)
          obtain ⟨lv12, elv12⟩ : ∃ l, l = aj_set1 lv 4 (.int x11) := ⟨_, rfl⟩
          rw [← elv12]
          have hlv12_0 : aj_lv lv12 0 = some (.ref 96) := fx_e1 elv12 hlv_0 (by decide) (Or.inl (by decide))
          have hlv12_1 : aj_lv lv12 1 = some (.ref p1) := fx_e1 elv12 hlv_1 (by decide) (Or.inl (by decide))
          have hlv12_2 : aj_lv lv12 2 = some (.ref p2) := fx_e1 elv12 hlv_2 (by decide) (Or.inl (by decide))
          have hlv12_3 : aj_lv lv12 3 = some (.ref p3) := fx_e1 elv12 hlv_3 (by decide) (Or.inr rfl)
          have hlv12_4 : aj_lv lv12 4 = some (.int x11) := by rw [elv12]; exact ak_set1_eq _ _ _
          show fx_W _ _ _ 44 lv12 [] _ _
          refine fx_n (pc' := 18) (lv' := lv12) (st' := []) aj_d127 rfl (Nat.le_succ _) (fun _ => rfl) ?_
          exact (ih) lv12 (x11) X8  hlv12_0 hlv12_1 hlv12_2 hlv12_3 hlv12_4
        · skip
          refine fx_qi (c := (w9).toInt = 0) (fx_f_ne q10) ?_
          show fx_W _ _ _ 39 lv [] _ _
          refine fx_n (pc' := 40) (lv' := lv) (st' := [.int (Int32.ofInt 0)]) aj_d127 rfl (Nat.le_succ _) (fun _ => rfl) ?_
          exact fx_ri aj_d127 rfl ⟨_, rfl, 0, rfl, rfl⟩
theorem gx_127_2_ok {tb : aj_T} (p1 : Nat) (p2 : Nat) (p3 : Nat) {X : fx_X} : fx_K tb 127 [.ref 96, .ref p1, .ref p2, .ref p3] X (fx_Q fx_qI (fun v X' => gx_127_2 p1 p2 p3 X v X')) := by
  refine fx_m aj_m127_at rfl (fun N => ?_)
  refine fx_mono (Q := fx_Q fx_qI (fun v X' => ∃ n : Nat, gxE_127_2 p1 p2 p3 (gxF_127_2 p1 p2 p3 n) X v X')) (fun r X' h => h) ?_
  unfold gxE_127_2
  show fx_W _ _ _ 0 [(0, .ref 96), (1, .ref p1), (2, .ref p2), (3, .ref p3)] [] _ _
  obtain ⟨lv1, elv1⟩ : ∃ l : aj_V, l = [(0, .ref 96), (1, .ref p1), (2, .ref p2), (3, .ref p3)] := ⟨_, rfl⟩
  rw [← elv1]
  have hlv1_0 : aj_lv lv1 0 = some (.ref 96) := by rw [elv1]; rfl
  have hlv1_1 : aj_lv lv1 1 = some (.ref p1) := by rw [elv1]; rfl
  have hlv1_2 : aj_lv lv1 2 = some (.ref p2) := by rw [elv1]; rfl
  have hlv1_3 : aj_lv lv1 3 = some (.ref p3) := by rw [elv1]; rfl
  refine fx_i2 aj_d127 rfl (Nat.le_succ _) (fun _ => rfl) hlv1_3 ?_
  refine fx_i2 aj_d127 rfl (Nat.le_succ _) (fun _ => rfl) hlv1_0 ?_
  refine fx_gI aj_d127 rfl (Nat.le_succ _) rfl rfl (Or.inl rfl) ?_
  refine fx_n (pc' := 6) (lv' := lv1) (st' := [.int (Int32.ofInt 1), .int (X.1 96 1), .ref p3]) aj_d127 rfl (Nat.le_succ _) (fun _ => rfl) ?_
  refine fx_n (pc' := 7) (lv' := lv1) (st' := [.int ((X.1 96 1) + (Int32.ofInt 1)), .ref p3]) aj_d127 rfl (Nat.le_succ _) (fun _ => rfl) ?_
  refine fx_n (pc' := 9) (lv' := lv1) (st' := [.int ((Int8.ofInt 6).toInt32), .int ((X.1 96 1) + (Int32.ofInt 1)), .ref p3]) aj_d127 rfl (Nat.le_succ _) (fun _ => rfl) ?_
  refine fx_mn aj_d127 rfl (Nat.le_succ _) rfl ?_
  show fx_W _ _ _ 12 lv1 [.int (if ((Int8.ofInt 6).toInt32) < ((X.1 96 1) + (Int32.ofInt 1)) then ((Int8.ofInt 6).toInt32) else ((X.1 96 1) + (Int32.ofInt 1))), .ref p3] _ _
  refine fx_cv aj_d127 rfl (Nat.le_succ _) rfl [_] rfl rfl (gx_116_ok p3 (if ((Int8.ofInt 6).toInt32) < ((X.1 96 1) + (Int32.ofInt 1)) then ((Int8.ofInt 6).toInt32) else ((X.1 96 1) + (Int32.ofInt 1)))) ?_
  rintro _ X2 ⟨w3, rfl, hR2⟩ hok2 hle2
  refine fx_qc hR2 ?_
  show fx_W _ _ _ 15 lv1 [] _ _
  refine fx_n (pc' := 16) (lv' := lv1) (st' := [.int (Int32.ofInt 0)]) aj_d127 rfl (Nat.le_succ _) (fun _ => rfl) ?_
  refine fx_s0 (j := 4) aj_d127 rfl (Nat.le_succ _) (by decide) (fun _ => rfl) ?_
  obtain ⟨lv4, elv4⟩ : ∃ l, l = aj_set1 lv1 4 (.int (Int32.ofInt 0)) := ⟨_, rfl⟩
  rw [← elv4]
  have hlv4_0 : aj_lv lv4 0 = some (.ref 96) := fx_e1 elv4 hlv1_0 (by decide) (Or.inl (by decide))
  have hlv4_1 : aj_lv lv4 1 = some (.ref p1) := fx_e1 elv4 hlv1_1 (by decide) (Or.inl (by decide))
  have hlv4_2 : aj_lv lv4 2 = some (.ref p2) := fx_e1 elv4 hlv1_2 (by decide) (Or.inl (by decide))
  have hlv4_3 : aj_lv lv4 3 = some (.ref p3) := fx_e1 elv4 hlv1_3 (by decide) (Or.inr rfl)
  have hlv4_4 : aj_lv lv4 4 = some (.int (Int32.ofInt 0)) := by rw [elv4]; exact ak_set1_eq _ _ _
  show fx_W _ _ _ 18 lv4 [] _ _
  exact ((gxL_127_2 p1 p2 p3 N)) lv4 ((Int32.ofInt 0)) X2  hlv4_0 hlv4_1 hlv4_2 hlv4_3 hlv4_4
def gx_98 (p1 : Int32) (p2 : Int32) (X : fx_X) (v : Unit) (X' : fx_X) : Prop :=
  (if (p1).toInt = 210 then (∃ b5 : Nat, X.2.2.1 95 7 = some b5 ∧ ∃ (w11 : Int32) (X10 : fx_X), gx_40 p2 X w11 X10 ∧ ∃ (w13 : (Option Nat)) (X12 : fx_X), gx_63 b5 w11 X10 w13 X12 ∧ ((w13 = none ∧ ∃ (w15 : Unit) (X14 : fx_X), gx_99_1 X12 w15 X14 ∧ X' = X14) ∨ (∃ w13b : Nat, w13 = some w13b ∧ ∃ (w17 : Unit) (X16 : fx_X), gx_99_2 w13b X12 w17 X16 ∧ X' = X16))) else ((if (p1).toInt = 211 then (∃ X19 : fx_X, X19 = (fx_wI X 95 4 ((X.1 95 4) - (Int32.ofInt 1))) ∧ ∃ (w21 : Nat) (X20 : fx_X), gx_100 ((X19.1 95 4) - (Int32.ofInt 1)) X19 w21 X20 ∧ ∃ (w23 : Nat) (X22 : fx_X), gx_100 (X20.1 95 4) X20 w23 X22 ∧ ∃ (w25 : Unit) (X24 : fx_X), gx_106 w21 w23 p2 X22 w25 X24 ∧ X' = X24) else ((if (p1).toInt = 212 then (∃ X27 : fx_X, X27 = (fx_wI X 95 4 ((X.1 95 4) - (Int32.ofInt 1))) ∧ ∃ (w29 : Nat) (X28 : fx_X), gx_100 ((X27.1 95 4) - (Int32.ofInt 1)) X27 w29 X28 ∧ ∃ (w31 : Nat) (X30 : fx_X), gx_100 (X28.1 95 4) X28 w31 X30 ∧ ∃ (w33 : Unit) (X32 : fx_X), gx_111 w29 w31 X30 w33 X32 ∧ X' = X32) else ((if (p1).toInt = 213 then (∃ X35 : fx_X, X35 = (fx_wI X 95 4 ((X.1 95 4) - (Int32.ofInt 1))) ∧ ∃ (w37 : Nat) (X36 : fx_X), gx_100 ((X35.1 95 4) - (Int32.ofInt 1)) X35 w37 X36 ∧ ∃ (w39 : Nat) (X38 : fx_X), gx_100 (X36.1 95 4) X36 w39 X38 ∧ ∃ (w41 : Unit) (X40 : fx_X), gx_115 w37 w39 p2 X38 w41 X40 ∧ X' = X40) else ((if (p1).toInt = 214 then (∃ (w44 : Nat) (X43 : fx_X), gx_100 ((X.1 95 4) - (Int32.ofInt 1)) X w44 X43 ∧ ∃ (w46 : Unit) (X45 : fx_X), gx_121 w44 X43 w46 X45 ∧ X' = X45) else ((if (p1).toInt = 215 then (∃ X49 : fx_X, X49 = (fx_wI X 96 1 (Int32.ofInt 0)) ∧ X' = X49) else ((if (p1).toInt = 216 then (∃ (w54 : Int32) (X53 : fx_X), gx_40 p2 X w54 X53 ∧ ∃ (w56 : Unit) (X55 : fx_X), gx_125 w54 X53 w56 X55 ∧ X' = X55) else ((if (p1).toInt = 217 then (∃ (w60 : Nat) (X59 : fx_X), gx_100 ((X.1 95 4) - (Int32.ofInt 1)) X w60 X59 ∧ ∃ (w62 : Unit) (X61 : fx_X), gx_126 w60 X59 w62 X61 ∧ X' = X61) else ((if (p1).toInt = 221 then (∃ (w67 : Int32) (X66 : fx_X), gx_40 p2 X w67 X66 ∧ ∃ X68 : fx_X, X68 = (fx_wI X66 96 2 w67) ∧ X' = X68) else ((if (p1).toInt = 222 then (∃ (w73 : Int32) (X72 : fx_X), gx_40 p2 X w73 X72 ∧ ∃ X74 : fx_X, X74 = (fx_wI X72 96 3 w73) ∧ X' = X74) else ((if (p1).toInt = 223 then (((X.2.2.1 95 7 = none ∧ ∃ (w80 : Nat) (X79 : fx_X), gx_100 ((X.1 95 4) - (Int32.ofInt 1)) X w80 X79 ∧ ∃ b82 : Nat, X79.2.2.1 95 5 = some b82 ∧ ∃ (w84 : Int32) (X83 : fx_X), gx_127_1 w80 b82 X79 w84 X83 ∧ (if (w84).toInt = 0 then (∃ (w89 : Unit) (X88 : fx_X), gx_107 p2 X83 w89 X88 ∧ ∃ (w91 : Unit) (X90 : fx_X), gx_120 X88 w91 X90 ∧ X' = X90) else (∃ (w87 : Unit) (X86 : fx_X), gx_120 X83 w87 X86 ∧ X' = X86))) ∨ (∃ b78 : Nat, X.2.2.1 95 7 = some b78 ∧ ∃ (w93 : Nat) (X92 : fx_X), gx_100 ((X.1 95 4) - (Int32.ofInt 1)) X w93 X92 ∧ ∃ b95 : Nat, X92.2.2.1 95 5 = some b95 ∧ ∃ (w97 : Int32) (X96 : fx_X), gx_127_2 b78 w93 b95 X92 w97 X96 ∧ (if (w97).toInt = 0 then (∃ (w102 : Unit) (X101 : fx_X), gx_107 p2 X96 w102 X101 ∧ ∃ (w104 : Unit) (X103 : fx_X), gx_120 X101 w104 X103 ∧ X' = X103) else (∃ (w100 : Unit) (X99 : fx_X), gx_120 X96 w100 X99 ∧ X' = X99))))) else (X' = X))))))))))))))))))))))
theorem gx_98_ok {tb : aj_T} (p1 : Int32) (p2 : Int32) {X : fx_X} : fx_K tb 98 [.ref 95, .int p1, .int p2] X (fx_Q fx_qN (fun v X' => gx_98 p1 p2 X v X')) := by
  refine fx_m aj_m98_at rfl (fun N => ?_)
  refine fx_mono (Q := fx_Q fx_qN (fun v X' => ∃ n : Nat, gx_98 p1 p2 X v X')) (fun r X' ⟨v, e, _, z⟩ => ⟨v, e, z⟩) ?_
  unfold gx_98
  show fx_W _ _ _ 0 [(0, .ref 95), (1, .int p1), (2, .int p2)] [] _ _
  obtain ⟨lv1, elv1⟩ : ∃ l : aj_V, l = [(0, .ref 95), (1, .int p1), (2, .int p2)] := ⟨_, rfl⟩
  rw [← elv1]
  have hlv1_0 : aj_lv lv1 0 = some (.ref 95) := by rw [elv1]; rfl
  have hlv1_1 : aj_lv lv1 1 = some (.int p1) := by rw [elv1]; rfl
  have hlv1_2 : aj_lv lv1 2 = some (.int p2) := by rw [elv1]; rfl
  refine fx_i0 aj_d98 rfl (Nat.le_succ _) (fun _ => rfl) hlv1_1 ?_
  by_cases q3 : (p1).toInt = 210
  · skip
    refine fx_qi (c := (p1).toInt = 210) q3 ?_
    refine fx_ts (tgt := 72) aj_d98 rfl (Nat.le_succ _) q3 (by decide) rfl rfl ?_
    show fx_W _ _ _ 72 lv1 [] _ _
    refine fx_i2 aj_d98 rfl (Nat.le_succ _) (fun _ => rfl) hlv1_0 ?_
    refine fx_i2 aj_d98 rfl (Nat.le_succ _) (fun _ => rfl) hlv1_0 ?_
    refine fx_gR aj_d98 rfl (Nat.le_succ _) rfl rfl (Or.inl ⟨_, rfl⟩) (fun q4 _ => ?_) (fun b5 q4 => ?_)
    · skip
      show fx_W _ _ _ 77 lv1 [.null, .ref 95] _ _
      refine fx_i2 aj_d98 rfl (Nat.le_succ _) (fun _ => rfl) hlv1_0 ?_
      refine fx_gF aj_d98 rfl (Nat.le_succ _) rfl rfl fx_in_9_1 (t := 82) rfl (fun hA6 => ?_)
      refine fx_i0 aj_d98 rfl (Nat.le_succ _) (fun _ => rfl) hlv1_2 ?_
      refine fx_cv aj_d98 rfl (Nat.le_succ _) rfl [_] rfl rfl (gx_40_ok p2) ?_
      rintro _ X7 ⟨w8, rfl, hR7⟩ hok7 hle7
      show fx_W _ _ _ 85 lv1 [.int w8, .null, .ref 95] _ _
      exact fx_d aj_d98 rfl (fun _ => rfl)
    · skip
      refine fx_qs q4 ?_
      show fx_W _ _ _ 77 lv1 [.ref b5, .ref 95] _ _
      refine fx_i2 aj_d98 rfl (Nat.le_succ _) (fun _ => rfl) hlv1_0 ?_
      refine fx_gF aj_d98 rfl (Nat.le_succ _) rfl rfl fx_in_9_1 (t := 82) rfl (fun hA9 => ?_)
      refine fx_i0 aj_d98 rfl (Nat.le_succ _) (fun _ => rfl) hlv1_2 ?_
      refine fx_cv aj_d98 rfl (Nat.le_succ _) rfl [_] rfl rfl (gx_40_ok p2) ?_
      rintro _ X10 ⟨w11, rfl, hR10⟩ hok10 hle10
      refine fx_qc hR10 ?_
      show fx_W _ _ _ 85 lv1 [.int w11, .ref b5, .ref 95] _ _
      refine fx_cv aj_d98 rfl (Nat.le_succ _) rfl [_] rfl rfl (gx_63_ok b5 w11) ?_
      rintro _ X12 ⟨w13, rfl, hR12⟩ hok12 hle12
      refine fx_qc hR12 ?_
      rcases w13 with _ | w13b
      · skip
        refine fx_o1 (fx_qa rfl ?_)
        show fx_W _ _ _ 88 lv1 [.null, .ref 95] _ _
        refine fx_cv aj_d98 rfl (Nat.le_succ _) rfl [_] rfl rfl (gx_99_1_ok) ?_
        rintro _ X14 ⟨w15, rfl, hR14⟩ hok14 hle14
        refine fx_qc hR14 ?_
        show fx_W _ _ _ 91 lv1 [] _ _
        refine fx_n (pc' := 343) (lv' := lv1) (st' := []) aj_d98 rfl (Nat.le_succ _) (fun _ => rfl) ?_
        exact fx_rn aj_d98 rfl ⟨(), rfl, 0, rfl⟩
      · skip
        refine fx_o2 (fx_qs rfl ?_)
        show fx_W _ _ _ 88 lv1 [.ref w13b, .ref 95] _ _
        refine fx_cv aj_d98 rfl (Nat.le_succ _) rfl [_] rfl rfl (gx_99_2_ok w13b) ?_
        rintro _ X16 ⟨w17, rfl, hR16⟩ hok16 hle16
        refine fx_qc hR16 ?_
        show fx_W _ _ _ 91 lv1 [] _ _
        refine fx_n (pc' := 343) (lv' := lv1) (st' := []) aj_d98 rfl (Nat.le_succ _) (fun _ => rfl) ?_
        exact fx_rn aj_d98 rfl ⟨(), rfl, 0, rfl⟩
  · skip
    refine fx_qe (c := (p1).toInt = 210) q3 ?_
    by_cases q18 : (p1).toInt = 211
    · skip
      refine fx_qi (c := (p1).toInt = 211) q18 ?_
      refine fx_ts (tgt := 94) aj_d98 rfl (Nat.le_succ _) q18 (by decide) rfl rfl ?_
      show fx_W _ _ _ 94 lv1 [] _ _
      refine fx_i2 aj_d98 rfl (Nat.le_succ _) (fun _ => rfl) hlv1_0 ?_
      refine fx_n (pc' := 96) (lv' := lv1) (st' := [.ref 95, .ref 95]) aj_d98 rfl (Nat.le_succ _) (fun _ => rfl) ?_
      refine fx_gI aj_d98 rfl (Nat.le_succ _) rfl rfl (Or.inl rfl) ?_
      refine fx_n (pc' := 100) (lv' := lv1) (st' := [.int (Int32.ofInt 1), .int (X.1 95 4), .ref 95]) aj_d98 rfl (Nat.le_succ _) (fun _ => rfl) ?_
      refine fx_n (pc' := 101) (lv' := lv1) (st' := [.int ((X.1 95 4) - (Int32.ofInt 1)), .ref 95]) aj_d98 rfl (Nat.le_succ _) (fun _ => rfl) ?_
      refine fx_pI aj_d98 rfl (Nat.le_succ _) rfl rfl (Or.inl rfl) fx_no_9_4 (by decide) ?_
      refine fx_qX (fun X19 eX19 => ?_)
      show fx_W _ _ _ 104 lv1 [] _ _
      refine fx_i2 aj_d98 rfl (Nat.le_succ _) (fun _ => rfl) hlv1_0 ?_
      refine fx_i2 aj_d98 rfl (Nat.le_succ _) (fun _ => rfl) hlv1_0 ?_
      refine fx_i2 aj_d98 rfl (Nat.le_succ _) (fun _ => rfl) hlv1_0 ?_
      refine fx_gI aj_d98 rfl (Nat.le_succ _) rfl rfl (Or.inl rfl) ?_
      refine fx_n (pc' := 111) (lv' := lv1) (st' := [.int (Int32.ofInt 1), .int (X19.1 95 4), .ref 95, .ref 95]) aj_d98 rfl (Nat.le_succ _) (fun _ => rfl) ?_
      refine fx_n (pc' := 112) (lv' := lv1) (st' := [.int ((X19.1 95 4) - (Int32.ofInt 1)), .ref 95, .ref 95]) aj_d98 rfl (Nat.le_succ _) (fun _ => rfl) ?_
      refine fx_cv aj_d98 rfl (Nat.le_succ _) rfl [_] rfl rfl (gx_100_ok ((X19.1 95 4) - (Int32.ofInt 1))) ?_
      rintro _ X20 ⟨w21, rfl, hR20⟩ hok20 hle20
      refine fx_qc hR20 ?_
      show fx_W _ _ _ 115 lv1 [.ref w21, .ref 95] _ _
      refine fx_i2 aj_d98 rfl (Nat.le_succ _) (fun _ => rfl) hlv1_0 ?_
      refine fx_i2 aj_d98 rfl (Nat.le_succ _) (fun _ => rfl) hlv1_0 ?_
      refine fx_gI aj_d98 rfl (Nat.le_succ _) rfl rfl (Or.inl rfl) ?_
      refine fx_cv aj_d98 rfl (Nat.le_succ _) rfl [_] rfl rfl (gx_100_ok (X20.1 95 4)) ?_
      rintro _ X22 ⟨w23, rfl, hR22⟩ hok22 hle22
      refine fx_qc hR22 ?_
      show fx_W _ _ _ 123 lv1 [.ref w23, .ref w21, .ref 95] _ _
      refine fx_i0 aj_d98 rfl (Nat.le_succ _) (fun _ => rfl) hlv1_2 ?_
      refine fx_cv aj_d98 rfl (Nat.le_succ _) rfl [_, _, _] rfl rfl (gx_106_ok w21 w23 p2) ?_
      rintro _ X24 ⟨w25, rfl, hR24⟩ hok24 hle24
      refine fx_qc hR24 ?_
      show fx_W _ _ _ 127 lv1 [] _ _
      refine fx_n (pc' := 343) (lv' := lv1) (st' := []) aj_d98 rfl (Nat.le_succ _) (fun _ => rfl) ?_
      exact fx_rn aj_d98 rfl ⟨(), rfl, 0, rfl⟩
    · skip
      refine fx_qe (c := (p1).toInt = 211) q18 ?_
      by_cases q26 : (p1).toInt = 212
      · skip
        refine fx_qi (c := (p1).toInt = 212) q26 ?_
        refine fx_ts (tgt := 130) aj_d98 rfl (Nat.le_succ _) q26 (by decide) rfl rfl ?_
        show fx_W _ _ _ 130 lv1 [] _ _
        refine fx_i2 aj_d98 rfl (Nat.le_succ _) (fun _ => rfl) hlv1_0 ?_
        refine fx_n (pc' := 132) (lv' := lv1) (st' := [.ref 95, .ref 95]) aj_d98 rfl (Nat.le_succ _) (fun _ => rfl) ?_
        refine fx_gI aj_d98 rfl (Nat.le_succ _) rfl rfl (Or.inl rfl) ?_
        refine fx_n (pc' := 136) (lv' := lv1) (st' := [.int (Int32.ofInt 1), .int (X.1 95 4), .ref 95]) aj_d98 rfl (Nat.le_succ _) (fun _ => rfl) ?_
        refine fx_n (pc' := 137) (lv' := lv1) (st' := [.int ((X.1 95 4) - (Int32.ofInt 1)), .ref 95]) aj_d98 rfl (Nat.le_succ _) (fun _ => rfl) ?_
        refine fx_pI aj_d98 rfl (Nat.le_succ _) rfl rfl (Or.inl rfl) fx_no_9_4 (by decide) ?_
        refine fx_qX (fun X27 eX27 => ?_)
        show fx_W _ _ _ 140 lv1 [] _ _
        refine fx_i2 aj_d98 rfl (Nat.le_succ _) (fun _ => rfl) hlv1_0 ?_
        refine fx_i2 aj_d98 rfl (Nat.le_succ _) (fun _ => rfl) hlv1_0 ?_
        refine fx_i2 aj_d98 rfl (Nat.le_succ _) (fun _ => rfl) hlv1_0 ?_
        refine fx_gI aj_d98 rfl (Nat.le_succ _) rfl rfl (Or.inl rfl) ?_
        refine fx_n (pc' := 147) (lv' := lv1) (st' := [.int (Int32.ofInt 1), .int (X27.1 95 4), .ref 95, .ref 95]) aj_d98 rfl (Nat.le_succ _) (fun _ => rfl) ?_
        refine fx_n (pc' := 148) (lv' := lv1) (st' := [.int ((X27.1 95 4) - (Int32.ofInt 1)), .ref 95, .ref 95]) aj_d98 rfl (Nat.le_succ _) (fun _ => rfl) ?_
        refine fx_cv aj_d98 rfl (Nat.le_succ _) rfl [_] rfl rfl (gx_100_ok ((X27.1 95 4) - (Int32.ofInt 1))) ?_
        rintro _ X28 ⟨w29, rfl, hR28⟩ hok28 hle28
        refine fx_qc hR28 ?_
        show fx_W _ _ _ 151 lv1 [.ref w29, .ref 95] _ _
        refine fx_i2 aj_d98 rfl (Nat.le_succ _) (fun _ => rfl) hlv1_0 ?_
        refine fx_i2 aj_d98 rfl (Nat.le_succ _) (fun _ => rfl) hlv1_0 ?_
        refine fx_gI aj_d98 rfl (Nat.le_succ _) rfl rfl (Or.inl rfl) ?_
        refine fx_cv aj_d98 rfl (Nat.le_succ _) rfl [_] rfl rfl (gx_100_ok (X28.1 95 4)) ?_
        rintro _ X30 ⟨w31, rfl, hR30⟩ hok30 hle30
        refine fx_qc hR30 ?_
        show fx_W _ _ _ 159 lv1 [.ref w31, .ref w29, .ref 95] _ _
        refine fx_cv aj_d98 rfl (Nat.le_succ _) rfl [_, _] rfl rfl (gx_111_ok w29 w31) ?_
        rintro _ X32 ⟨w33, rfl, hR32⟩ hok32 hle32
        refine fx_qc hR32 ?_
        show fx_W _ _ _ 162 lv1 [] _ _
        refine fx_n (pc' := 343) (lv' := lv1) (st' := []) aj_d98 rfl (Nat.le_succ _) (fun _ => rfl) ?_
        exact fx_rn aj_d98 rfl ⟨(), rfl, 0, rfl⟩
      · skip
        refine fx_qe (c := (p1).toInt = 212) q26 ?_
        by_cases q34 : (p1).toInt = 213
        · skip
          refine fx_qi (c := (p1).toInt = 213) q34 ?_
          refine fx_ts (tgt := 165) aj_d98 rfl (Nat.le_succ _) q34 (by decide) rfl rfl ?_
          show fx_W _ _ _ 165 lv1 [] _ _
          refine fx_i2 aj_d98 rfl (Nat.le_succ _) (fun _ => rfl) hlv1_0 ?_
          refine fx_n (pc' := 167) (lv' := lv1) (st' := [.ref 95, .ref 95]) aj_d98 rfl (Nat.le_succ _) (fun _ => rfl) ?_
          refine fx_gI aj_d98 rfl (Nat.le_succ _) rfl rfl (Or.inl rfl) ?_
          refine fx_n (pc' := 171) (lv' := lv1) (st' := [.int (Int32.ofInt 1), .int (X.1 95 4), .ref 95]) aj_d98 rfl (Nat.le_succ _) (fun _ => rfl) ?_
          refine fx_n (pc' := 172) (lv' := lv1) (st' := [.int ((X.1 95 4) - (Int32.ofInt 1)), .ref 95]) aj_d98 rfl (Nat.le_succ _) (fun _ => rfl) ?_
          refine fx_pI aj_d98 rfl (Nat.le_succ _) rfl rfl (Or.inl rfl) fx_no_9_4 (by decide) ?_
          refine fx_qX (fun X35 eX35 => ?_)
          show fx_W _ _ _ 175 lv1 [] _ _
          refine fx_i2 aj_d98 rfl (Nat.le_succ _) (fun _ => rfl) hlv1_0 ?_
          refine fx_i2 aj_d98 rfl (Nat.le_succ _) (fun _ => rfl) hlv1_0 ?_
          refine fx_i2 aj_d98 rfl (Nat.le_succ _) (fun _ => rfl) hlv1_0 ?_
          refine fx_gI aj_d98 rfl (Nat.le_succ _) rfl rfl (Or.inl rfl) ?_
          refine fx_n (pc' := 182) (lv' := lv1) (st' := [.int (Int32.ofInt 1), .int (X35.1 95 4), .ref 95, .ref 95]) aj_d98 rfl (Nat.le_succ _) (fun _ => rfl) ?_
          refine fx_n (pc' := 183) (lv' := lv1) (st' := [.int ((X35.1 95 4) - (Int32.ofInt 1)), .ref 95, .ref 95]) aj_d98 rfl (Nat.le_succ _) (fun _ => rfl) ?_
          refine fx_cv aj_d98 rfl (Nat.le_succ _) rfl [_] rfl rfl (gx_100_ok ((X35.1 95 4) - (Int32.ofInt 1))) ?_
          rintro _ X36 ⟨w37, rfl, hR36⟩ hok36 hle36
          refine fx_qc hR36 ?_
          show fx_W _ _ _ 186 lv1 [.ref w37, .ref 95] _ _
          refine fx_i2 aj_d98 rfl (Nat.le_succ _) (fun _ => rfl) hlv1_0 ?_
          refine fx_i2 aj_d98 rfl (Nat.le_succ _) (fun _ => rfl) hlv1_0 ?_
          refine fx_gI aj_d98 rfl (Nat.le_succ _) rfl rfl (Or.inl rfl) ?_
          refine fx_cv aj_d98 rfl (Nat.le_succ _) rfl [_] rfl rfl (gx_100_ok (X36.1 95 4)) ?_
          rintro _ X38 ⟨w39, rfl, hR38⟩ hok38 hle38
          refine fx_qc hR38 ?_
          show fx_W _ _ _ 194 lv1 [.ref w39, .ref w37, .ref 95] _ _
          refine fx_i0 aj_d98 rfl (Nat.le_succ _) (fun _ => rfl) hlv1_2 ?_
          refine fx_cv aj_d98 rfl (Nat.le_succ _) rfl [_, _, _] rfl rfl (gx_115_ok w37 w39 p2) ?_
          rintro _ X40 ⟨w41, rfl, hR40⟩ hok40 hle40
          refine fx_qc hR40 ?_
          show fx_W _ _ _ 198 lv1 [] _ _
          refine fx_n (pc' := 343) (lv' := lv1) (st' := []) aj_d98 rfl (Nat.le_succ _) (fun _ => rfl) ?_
          exact fx_rn aj_d98 rfl ⟨(), rfl, 0, rfl⟩
        · skip
          refine fx_qe (c := (p1).toInt = 213) q34 ?_
          by_cases q42 : (p1).toInt = 214
          · skip
            refine fx_qi (c := (p1).toInt = 214) q42 ?_
            refine fx_ts (tgt := 201) aj_d98 rfl (Nat.le_succ _) q42 (by decide) rfl rfl ?_
            show fx_W _ _ _ 201 lv1 [] _ _
            refine fx_i2 aj_d98 rfl (Nat.le_succ _) (fun _ => rfl) hlv1_0 ?_
            refine fx_i2 aj_d98 rfl (Nat.le_succ _) (fun _ => rfl) hlv1_0 ?_
            refine fx_i2 aj_d98 rfl (Nat.le_succ _) (fun _ => rfl) hlv1_0 ?_
            refine fx_gI aj_d98 rfl (Nat.le_succ _) rfl rfl (Or.inl rfl) ?_
            refine fx_n (pc' := 208) (lv' := lv1) (st' := [.int (Int32.ofInt 1), .int (X.1 95 4), .ref 95, .ref 95]) aj_d98 rfl (Nat.le_succ _) (fun _ => rfl) ?_
            refine fx_n (pc' := 209) (lv' := lv1) (st' := [.int ((X.1 95 4) - (Int32.ofInt 1)), .ref 95, .ref 95]) aj_d98 rfl (Nat.le_succ _) (fun _ => rfl) ?_
            refine fx_cv aj_d98 rfl (Nat.le_succ _) rfl [_] rfl rfl (gx_100_ok ((X.1 95 4) - (Int32.ofInt 1))) ?_
            rintro _ X43 ⟨w44, rfl, hR43⟩ hok43 hle43
            refine fx_qc hR43 ?_
            show fx_W _ _ _ 212 lv1 [.ref w44, .ref 95] _ _
            refine fx_cv aj_d98 rfl (Nat.le_succ _) rfl [_] rfl rfl (gx_121_ok w44) ?_
            rintro _ X45 ⟨w46, rfl, hR45⟩ hok45 hle45
            refine fx_qc hR45 ?_
            show fx_W _ _ _ 215 lv1 [] _ _
            refine fx_n (pc' := 343) (lv' := lv1) (st' := []) aj_d98 rfl (Nat.le_succ _) (fun _ => rfl) ?_
            exact fx_rn aj_d98 rfl ⟨(), rfl, 0, rfl⟩
          · skip
            refine fx_qe (c := (p1).toInt = 214) q42 ?_
            by_cases q47 : (p1).toInt = 215
            · skip
              refine fx_qi (c := (p1).toInt = 215) q47 ?_
              refine fx_ts (tgt := 218) aj_d98 rfl (Nat.le_succ _) q47 (by decide) rfl rfl ?_
              show fx_W _ _ _ 218 lv1 [] _ _
              refine fx_i2 aj_d98 rfl (Nat.le_succ _) (fun _ => rfl) hlv1_0 ?_
              refine fx_gF aj_d98 rfl (Nat.le_succ _) rfl rfl fx_in_9_2 (t := 96) rfl (fun hA48 => ?_)
              refine fx_n (pc' := 223) (lv' := lv1) (st' := [.int (Int32.ofInt 0), .ref 96]) aj_d98 rfl (Nat.le_succ _) (fun _ => rfl) ?_
              refine fx_pI aj_d98 rfl (Nat.le_succ _) rfl rfl (Or.inl rfl) fx_no_1_1 (by decide) ?_
              refine fx_qX (fun X49 eX49 => ?_)
              show fx_W _ _ _ 226 lv1 [] _ _
              refine fx_n (pc' := 343) (lv' := lv1) (st' := []) aj_d98 rfl (Nat.le_succ _) (fun _ => rfl) ?_
              exact fx_rn aj_d98 rfl ⟨(), rfl, 0, rfl⟩
            · skip
              refine fx_qe (c := (p1).toInt = 215) q47 ?_
              by_cases q50 : (p1).toInt = 216
              · skip
                refine fx_qi (c := (p1).toInt = 216) q50 ?_
                refine fx_ts (tgt := 229) aj_d98 rfl (Nat.le_succ _) q50 (by decide) rfl rfl ?_
                show fx_W _ _ _ 229 lv1 [] _ _
                refine fx_i2 aj_d98 rfl (Nat.le_succ _) (fun _ => rfl) hlv1_0 ?_
                refine fx_gF aj_d98 rfl (Nat.le_succ _) rfl rfl fx_in_9_2 (t := 96) rfl (fun hA51 => ?_)
                refine fx_i2 aj_d98 rfl (Nat.le_succ _) (fun _ => rfl) hlv1_0 ?_
                refine fx_gF aj_d98 rfl (Nat.le_succ _) rfl rfl fx_in_9_1 (t := 82) rfl (fun hA52 => ?_)
                refine fx_i0 aj_d98 rfl (Nat.le_succ _) (fun _ => rfl) hlv1_2 ?_
                refine fx_cv aj_d98 rfl (Nat.le_succ _) rfl [_] rfl rfl (gx_40_ok p2) ?_
                rintro _ X53 ⟨w54, rfl, hR53⟩ hok53 hle53
                refine fx_qc hR53 ?_
                show fx_W _ _ _ 241 lv1 [.int w54, .ref 96] _ _
                refine fx_cv aj_d98 rfl (Nat.le_succ _) rfl [_] rfl rfl (gx_125_ok w54) ?_
                rintro _ X55 ⟨w56, rfl, hR55⟩ hok55 hle55
                refine fx_qc hR55 ?_
                show fx_W _ _ _ 244 lv1 [] _ _
                refine fx_n (pc' := 343) (lv' := lv1) (st' := []) aj_d98 rfl (Nat.le_succ _) (fun _ => rfl) ?_
                exact fx_rn aj_d98 rfl ⟨(), rfl, 0, rfl⟩
              · skip
                refine fx_qe (c := (p1).toInt = 216) q50 ?_
                by_cases q57 : (p1).toInt = 217
                · skip
                  refine fx_qi (c := (p1).toInt = 217) q57 ?_
                  refine fx_ts (tgt := 247) aj_d98 rfl (Nat.le_succ _) q57 (by decide) rfl rfl ?_
                  show fx_W _ _ _ 247 lv1 [] _ _
                  refine fx_i2 aj_d98 rfl (Nat.le_succ _) (fun _ => rfl) hlv1_0 ?_
                  refine fx_gF aj_d98 rfl (Nat.le_succ _) rfl rfl fx_in_9_2 (t := 96) rfl (fun hA58 => ?_)
                  refine fx_i2 aj_d98 rfl (Nat.le_succ _) (fun _ => rfl) hlv1_0 ?_
                  refine fx_i2 aj_d98 rfl (Nat.le_succ _) (fun _ => rfl) hlv1_0 ?_
                  refine fx_gI aj_d98 rfl (Nat.le_succ _) rfl rfl (Or.inl rfl) ?_
                  refine fx_n (pc' := 257) (lv' := lv1) (st' := [.int (Int32.ofInt 1), .int (X.1 95 4), .ref 95, .ref 96]) aj_d98 rfl (Nat.le_succ _) (fun _ => rfl) ?_
                  refine fx_n (pc' := 258) (lv' := lv1) (st' := [.int ((X.1 95 4) - (Int32.ofInt 1)), .ref 95, .ref 96]) aj_d98 rfl (Nat.le_succ _) (fun _ => rfl) ?_
                  refine fx_cv aj_d98 rfl (Nat.le_succ _) rfl [_] rfl rfl (gx_100_ok ((X.1 95 4) - (Int32.ofInt 1))) ?_
                  rintro _ X59 ⟨w60, rfl, hR59⟩ hok59 hle59
                  refine fx_qc hR59 ?_
                  show fx_W _ _ _ 261 lv1 [.ref w60, .ref 96] _ _
                  refine fx_cv aj_d98 rfl (Nat.le_succ _) rfl [_] rfl rfl (gx_126_ok w60) ?_
                  rintro _ X61 ⟨w62, rfl, hR61⟩ hok61 hle61
                  refine fx_qc hR61 ?_
                  show fx_W _ _ _ 264 lv1 [] _ _
                  refine fx_n (pc' := 343) (lv' := lv1) (st' := []) aj_d98 rfl (Nat.le_succ _) (fun _ => rfl) ?_
                  exact fx_rn aj_d98 rfl ⟨(), rfl, 0, rfl⟩
                · skip
                  refine fx_qe (c := (p1).toInt = 217) q57 ?_
                  by_cases q63 : (p1).toInt = 221
                  · skip
                    refine fx_qi (c := (p1).toInt = 221) q63 ?_
                    refine fx_ts (tgt := 267) aj_d98 rfl (Nat.le_succ _) q63 (by decide) rfl rfl ?_
                    show fx_W _ _ _ 267 lv1 [] _ _
                    refine fx_i2 aj_d98 rfl (Nat.le_succ _) (fun _ => rfl) hlv1_0 ?_
                    refine fx_gF aj_d98 rfl (Nat.le_succ _) rfl rfl fx_in_9_2 (t := 96) rfl (fun hA64 => ?_)
                    refine fx_i2 aj_d98 rfl (Nat.le_succ _) (fun _ => rfl) hlv1_0 ?_
                    refine fx_gF aj_d98 rfl (Nat.le_succ _) rfl rfl fx_in_9_1 (t := 82) rfl (fun hA65 => ?_)
                    refine fx_i0 aj_d98 rfl (Nat.le_succ _) (fun _ => rfl) hlv1_2 ?_
                    refine fx_cv aj_d98 rfl (Nat.le_succ _) rfl [_] rfl rfl (gx_40_ok p2) ?_
                    rintro _ X66 ⟨w67, rfl, hR66⟩ hok66 hle66
                    refine fx_qc hR66 ?_
                    show fx_W _ _ _ 279 lv1 [.int w67, .ref 96] _ _
                    refine fx_pI aj_d98 rfl (Nat.le_succ _) rfl rfl (Or.inl rfl) fx_no_1_2 (by decide) ?_
                    refine fx_qX (fun X68 eX68 => ?_)
                    show fx_W _ _ _ 282 lv1 [] _ _
                    refine fx_n (pc' := 343) (lv' := lv1) (st' := []) aj_d98 rfl (Nat.le_succ _) (fun _ => rfl) ?_
                    exact fx_rn aj_d98 rfl ⟨(), rfl, 0, rfl⟩
                  · skip
                    refine fx_qe (c := (p1).toInt = 221) q63 ?_
                    by_cases q69 : (p1).toInt = 222
                    · skip
                      refine fx_qi (c := (p1).toInt = 222) q69 ?_
                      refine fx_ts (tgt := 285) aj_d98 rfl (Nat.le_succ _) q69 (by decide) rfl rfl ?_
                      show fx_W _ _ _ 285 lv1 [] _ _
                      refine fx_i2 aj_d98 rfl (Nat.le_succ _) (fun _ => rfl) hlv1_0 ?_
                      refine fx_gF aj_d98 rfl (Nat.le_succ _) rfl rfl fx_in_9_2 (t := 96) rfl (fun hA70 => ?_)
                      refine fx_i2 aj_d98 rfl (Nat.le_succ _) (fun _ => rfl) hlv1_0 ?_
                      refine fx_gF aj_d98 rfl (Nat.le_succ _) rfl rfl fx_in_9_1 (t := 82) rfl (fun hA71 => ?_)
                      refine fx_i0 aj_d98 rfl (Nat.le_succ _) (fun _ => rfl) hlv1_2 ?_
                      refine fx_cv aj_d98 rfl (Nat.le_succ _) rfl [_] rfl rfl (gx_40_ok p2) ?_
                      rintro _ X72 ⟨w73, rfl, hR72⟩ hok72 hle72
                      refine fx_qc hR72 ?_
                      show fx_W _ _ _ 297 lv1 [.int w73, .ref 96] _ _
                      refine fx_pI aj_d98 rfl (Nat.le_succ _) rfl rfl (Or.inl rfl) fx_no_1_3 (by decide) ?_
                      refine fx_qX (fun X74 eX74 => ?_)
                      show fx_W _ _ _ 300 lv1 [] _ _
                      refine fx_n (pc' := 343) (lv' := lv1) (st' := []) aj_d98 rfl (Nat.le_succ _) (fun _ => rfl) ?_
                      exact fx_rn aj_d98 rfl ⟨(), rfl, 0, rfl⟩
                    · skip
                      refine fx_qe (c := (p1).toInt = 222) q69 ?_
                      by_cases q75 : (p1).toInt = 223
                      · skip
                        refine fx_qi (c := (p1).toInt = 223) q75 ?_
                        refine fx_ts (tgt := 303) aj_d98 rfl (Nat.le_succ _) q75 (by decide) rfl rfl ?_
                        show fx_W _ _ _ 303 lv1 [] _ _
                        refine fx_i2 aj_d98 rfl (Nat.le_succ _) (fun _ => rfl) hlv1_0 ?_
                        refine fx_gF aj_d98 rfl (Nat.le_succ _) rfl rfl fx_in_9_2 (t := 96) rfl (fun hA76 => ?_)
                        refine fx_i2 aj_d98 rfl (Nat.le_succ _) (fun _ => rfl) hlv1_0 ?_
                        refine fx_gR aj_d98 rfl (Nat.le_succ _) rfl rfl (Or.inl ⟨_, rfl⟩) (fun q77 _ => ?_) (fun b78 q77 => ?_)
                        · skip
                          refine fx_o1 (fx_qa (c := X.2.2.1 95 7 = none) q77 ?_)
                          show fx_W _ _ _ 311 lv1 [.null, .ref 96] _ _
                          refine fx_i2 aj_d98 rfl (Nat.le_succ _) (fun _ => rfl) hlv1_0 ?_
                          refine fx_i2 aj_d98 rfl (Nat.le_succ _) (fun _ => rfl) hlv1_0 ?_
                          refine fx_gI aj_d98 rfl (Nat.le_succ _) rfl rfl (Or.inl rfl) ?_
                          refine fx_n (pc' := 317) (lv' := lv1) (st' := [.int (Int32.ofInt 1), .int (X.1 95 4), .ref 95, .null, .ref 96]) aj_d98 rfl (Nat.le_succ _) (fun _ => rfl) ?_
                          refine fx_n (pc' := 318) (lv' := lv1) (st' := [.int ((X.1 95 4) - (Int32.ofInt 1)), .ref 95, .null, .ref 96]) aj_d98 rfl (Nat.le_succ _) (fun _ => rfl) ?_
                          refine fx_cv aj_d98 rfl (Nat.le_succ _) rfl [_] rfl rfl (gx_100_ok ((X.1 95 4) - (Int32.ofInt 1))) ?_
                          rintro _ X79 ⟨w80, rfl, hR79⟩ hok79 hle79
                          refine fx_qc hR79 ?_
                          show fx_W _ _ _ 321 lv1 [.ref w80, .null, .ref 96] _ _
                          refine fx_i2 aj_d98 rfl (Nat.le_succ _) (fun _ => rfl) hlv1_0 ?_
                          refine fx_gR aj_d98 rfl (Nat.le_succ _) rfl rfl (Or.inl ⟨_, rfl⟩) (fun _ z => absurd (by decide) z) (fun b82 q81 => ?_)
                          show fx_W _ _ _ 325 lv1 [.ref b82, .ref w80, .null, .ref 96] _ _
                          refine fx_qs q81 ?_
                          refine fx_cv aj_d98 rfl (Nat.le_succ _) rfl [_, _, _] rfl rfl (gx_127_1_ok w80 b82) ?_
                          rintro _ X83 ⟨w84, rfl, hR83⟩ hok83 hle83
                          refine fx_qc hR83 ?_
                          show fx_W _ _ _ 328 lv1 [.int w84] _ _
                          refine fx_b0 (tgt := 336) aj_d98 rfl (Nat.le_succ _) rfl (fun q85 => ?_) (fun q85 => ?_)
                          · skip
                            refine fx_qe (c := (w84).toInt = 0) (fx_t_ne q85) ?_
                            show fx_W _ _ _ 336 lv1 [] _ _
                            refine fx_i2 aj_d98 rfl (Nat.le_succ _) (fun _ => rfl) hlv1_0 ?_
                            refine fx_cv aj_d98 rfl (Nat.le_succ _) rfl [] rfl rfl (gx_120_ok) ?_
                            rintro _ X86 ⟨w87, rfl, hR86⟩ hok86 hle86
                            refine fx_qc hR86 ?_
                            show fx_W _ _ _ 340 lv1 [] _ _
                            refine fx_n (pc' := 343) (lv' := lv1) (st' := []) aj_d98 rfl (Nat.le_succ _) (fun _ => rfl) ?_
                            exact fx_rn aj_d98 rfl ⟨(), rfl, 0, rfl⟩
                          · skip
                            refine fx_qi (c := (w84).toInt = 0) (fx_f_ne q85) ?_
                            show fx_W _ _ _ 331 lv1 [] _ _
                            refine fx_i2 aj_d98 rfl (Nat.le_succ _) (fun _ => rfl) hlv1_0 ?_
                            refine fx_i0 aj_d98 rfl (Nat.le_succ _) (fun _ => rfl) hlv1_2 ?_
                            refine fx_cv aj_d98 rfl (Nat.le_succ _) rfl [_] rfl rfl (gx_107_ok p2) ?_
                            rintro _ X88 ⟨w89, rfl, hR88⟩ hok88 hle88
                            refine fx_qc hR88 ?_
                            show fx_W _ _ _ 336 lv1 [] _ _
                            refine fx_i2 aj_d98 rfl (Nat.le_succ _) (fun _ => rfl) hlv1_0 ?_
                            refine fx_cv aj_d98 rfl (Nat.le_succ _) rfl [] rfl rfl (gx_120_ok) ?_
                            rintro _ X90 ⟨w91, rfl, hR90⟩ hok90 hle90
                            refine fx_qc hR90 ?_
                            show fx_W _ _ _ 340 lv1 [] _ _
                            refine fx_n (pc' := 343) (lv' := lv1) (st' := []) aj_d98 rfl (Nat.le_succ _) (fun _ => rfl) ?_
                            exact fx_rn aj_d98 rfl ⟨(), rfl, 0, rfl⟩
                        · skip
                          refine fx_o2 (fx_qs q77 ?_)
                          show fx_W _ _ _ 311 lv1 [.ref b78, .ref 96] _ _
                          refine fx_i2 aj_d98 rfl (Nat.le_succ _) (fun _ => rfl) hlv1_0 ?_
                          refine fx_i2 aj_d98 rfl (Nat.le_succ _) (fun _ => rfl) hlv1_0 ?_
                          refine fx_gI aj_d98 rfl (Nat.le_succ _) rfl rfl (Or.inl rfl) ?_
                          refine fx_n (pc' := 317) (lv' := lv1) (st' := [.int (Int32.ofInt 1), .int (X.1 95 4), .ref 95, .ref b78, .ref 96]) aj_d98 rfl (Nat.le_succ _) (fun _ => rfl) ?_
                          refine fx_n (pc' := 318) (lv' := lv1) (st' := [.int ((X.1 95 4) - (Int32.ofInt 1)), .ref 95, .ref b78, .ref 96]) aj_d98 rfl (Nat.le_succ _) (fun _ => rfl) ?_
                          refine fx_cv aj_d98 rfl (Nat.le_succ _) rfl [_] rfl rfl (gx_100_ok ((X.1 95 4) - (Int32.ofInt 1))) ?_
                          rintro _ X92 ⟨w93, rfl, hR92⟩ hok92 hle92
                          refine fx_qc hR92 ?_
                          show fx_W _ _ _ 321 lv1 [.ref w93, .ref b78, .ref 96] _ _
                          refine fx_i2 aj_d98 rfl (Nat.le_succ _) (fun _ => rfl) hlv1_0 ?_
                          refine fx_gR aj_d98 rfl (Nat.le_succ _) rfl rfl (Or.inl ⟨_, rfl⟩) (fun _ z => absurd (by decide) z) (fun b95 q94 => ?_)
                          show fx_W _ _ _ 325 lv1 [.ref b95, .ref w93, .ref b78, .ref 96] _ _
                          refine fx_qs q94 ?_
                          refine fx_cv aj_d98 rfl (Nat.le_succ _) rfl [_, _, _] rfl rfl (gx_127_2_ok b78 w93 b95) ?_
                          rintro _ X96 ⟨w97, rfl, hR96⟩ hok96 hle96
                          refine fx_qc hR96 ?_
                          show fx_W _ _ _ 328 lv1 [.int w97] _ _
                          refine fx_b0 (tgt := 336) aj_d98 rfl (Nat.le_succ _) rfl (fun q98 => ?_) (fun q98 => ?_)
                          · skip
                            refine fx_qe (c := (w97).toInt = 0) (fx_t_ne q98) ?_
                            show fx_W _ _ _ 336 lv1 [] _ _
                            refine fx_i2 aj_d98 rfl (Nat.le_succ _) (fun _ => rfl) hlv1_0 ?_
                            refine fx_cv aj_d98 rfl (Nat.le_succ _) rfl [] rfl rfl (gx_120_ok) ?_
                            rintro _ X99 ⟨w100, rfl, hR99⟩ hok99 hle99
                            refine fx_qc hR99 ?_
                            show fx_W _ _ _ 340 lv1 [] _ _
                            refine fx_n (pc' := 343) (lv' := lv1) (st' := []) aj_d98 rfl (Nat.le_succ _) (fun _ => rfl) ?_
                            exact fx_rn aj_d98 rfl ⟨(), rfl, 0, rfl⟩
                          · skip
                            refine fx_qi (c := (w97).toInt = 0) (fx_f_ne q98) ?_
                            show fx_W _ _ _ 331 lv1 [] _ _
                            refine fx_i2 aj_d98 rfl (Nat.le_succ _) (fun _ => rfl) hlv1_0 ?_
                            refine fx_i0 aj_d98 rfl (Nat.le_succ _) (fun _ => rfl) hlv1_2 ?_
                            refine fx_cv aj_d98 rfl (Nat.le_succ _) rfl [_] rfl rfl (gx_107_ok p2) ?_
                            rintro _ X101 ⟨w102, rfl, hR101⟩ hok101 hle101
                            refine fx_qc hR101 ?_
                            show fx_W _ _ _ 336 lv1 [] _ _
                            refine fx_i2 aj_d98 rfl (Nat.le_succ _) (fun _ => rfl) hlv1_0 ?_
                            refine fx_cv aj_d98 rfl (Nat.le_succ _) rfl [] rfl rfl (gx_120_ok) ?_
                            rintro _ X103 ⟨w104, rfl, hR103⟩ hok103 hle103
                            refine fx_qc hR103 ?_
                            show fx_W _ _ _ 340 lv1 [] _ _
                            refine fx_n (pc' := 343) (lv' := lv1) (st' := []) aj_d98 rfl (Nat.le_succ _) (fun _ => rfl) ?_
                            exact fx_rn aj_d98 rfl ⟨(), rfl, 0, rfl⟩
                      · skip
                        refine fx_qe (c := (p1).toInt = 223) q75 ?_
                        by_cases q105 : (p1).toInt = 218
                        · refine fx_ts (tgt := 343) aj_d98 rfl (Nat.le_succ _) q105 (by decide) rfl rfl ?_
                          show fx_W _ _ _ 343 lv1 [] _ _
                          exact fx_rn aj_d98 rfl ⟨(), rfl, 0, rfl⟩
                        · skip
                          by_cases q106 : (p1).toInt = 219
                          · refine fx_ts (tgt := 343) aj_d98 rfl (Nat.le_succ _) q106 (by decide) rfl rfl ?_
                            show fx_W _ _ _ 343 lv1 [] _ _
                            exact fx_rn aj_d98 rfl ⟨(), rfl, 0, rfl⟩
                          · skip
                            by_cases q107 : (p1).toInt = 220
                            · refine fx_ts (tgt := 343) aj_d98 rfl (Nat.le_succ _) q107 (by decide) rfl rfl ?_
                              show fx_W _ _ _ 343 lv1 [] _ _
                              exact fx_rn aj_d98 rfl ⟨(), rfl, 0, rfl⟩
                            · skip
                              refine fx_td (tgt := 343) aj_d98 rfl (Nat.le_succ _) (by omega) rfl ?_
                              show fx_W _ _ _ 343 lv1 [] _ _
                              exact fx_rn aj_d98 rfl ⟨(), rfl, 0, rfl⟩
