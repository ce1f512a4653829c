/-! METHODS LIFTED (printed by wip/p7/gx.py, parts.py) -/
def gxT_270_3 (p1 : Int32) (p2 : Int32) (p3 : Int32) (p4 : Int32) (p5 : Int32) (P : Nat → List Int32 → List Int64 → List Nat → fx_X → Unit → fx_X → Prop) (y6 : Int32) (X : fx_X) (v : Unit) (X' : fx_X) : Prop :=
  (if (y6).toInt < ((X.1 117 56)).toInt then ((0 ≤ (p2).toInt ∧ (p2).toInt < ((30 : Nat) : Int)) ∧ (0 ≤ (y6).toInt ∧ (y6).toInt < ((16 : Nat) : Int)) ∧ ∃ (w22 : Int32) (X21 : fx_X), gx_258 p1 (X.1 143 (p2).toInt.toNat) (X.1 142 (y6).toInt.toNat) p5 X w22 X21 ∧ (0 ≤ (y6).toInt ∧ (y6).toInt < ((8 : Nat) : Int)) ∧ ∃ X24 : fx_X, X24 = (fx_wI X21 144 (y6).toInt.toNat w22) ∧ ∃ x25 : Int32, x25 = y6 + Int32.ofInt 1 ∧ P 3 [x25] [] [] X24 v X') else ((if (p3).toInt = 6 then (P 81 [(Int32.ofInt 0), p2] [] [] X v X') else ((if (p3).toInt = 9 then (P 81 [(Int32.ofInt 0), p2] [] [] X v X') else ((0 ≤ (p2).toInt ∧ (p2).toInt < ((30 : Nat) : Int)) ∧ ∃ (w11 : Int32) (X10 : fx_X), gx_258 p1 (X.1 143 (p2).toInt.toNat) p4 p5 X w11 X10 ∧ P 81 [w11, p2] [] [] X10 v X'))))))
def gxT_270_81 (p1 : Int32) (p2 : Int32) (p3 : Int32) (p4 : Int32) (p5 : Int32) (P : Nat → List Int32 → List Int64 → List Nat → fx_X → Unit → fx_X → Prop) (y6 : Int32) (y7 : Int32) (X : fx_X) (v : Unit) (X' : fx_X) : Prop :=
  (if (y7).toInt < ((X.1 117 58)).toInt then ((0 ≤ (y7).toInt ∧ (y7).toInt < ((30 : Nat) : Int)) ∧ (0 ≤ (p2).toInt ∧ (p2).toInt < ((30 : Nat) : Int)) ∧ ∃ (w36 : Int32) (X35 : fx_X), gx_269 p1 (X.1 143 (y7).toInt.toNat) (X.1 143 (p2).toInt.toNat) p5 X w36 X35 ∧ (if (w36).toInt = 0 then (∃ x38 : Int32, x38 = y7 + Int32.ofInt 1 ∧ P 81 [y6, x38] [] [] X35 v X') else ((if (p3).toInt = 6 then ((if (p3).toInt = 6 then (∃ x73 : Int32, x73 = (y6 + (Int32.ofInt 1)) ∧ ∃ x75 : Int32, x75 = y7 + Int32.ofInt 1 ∧ P 81 [x73, x75] [] [] X35 v X') else ((if (p3).toInt = 9 then (∃ x93 : Int32, x93 = (y6 + (Int32.ofInt 1)) ∧ ∃ x95 : Int32, x95 = y7 + Int32.ofInt 1 ∧ P 81 [x93, x95] [] [] X35 v X') else ((if (p3).toInt = 7 then ((if 1 < (y6).toInt then (∃ x91 : Int32, x91 = y7 + Int32.ofInt 1 ∧ P 81 [(Int32.ofInt 1), x91] [] [] X35 v X') else (∃ x88 : Int32, x88 = y7 + Int32.ofInt 1 ∧ P 81 [y6, x88] [] [] X35 v X'))) else ((if (y6).toInt < 1 then (∃ x84 : Int32, x84 = y7 + Int32.ofInt 1 ∧ P 81 [(Int32.ofInt 1), x84] [] [] X35 v X') else (∃ x81 : Int32, x81 = y7 + Int32.ofInt 1 ∧ P 81 [y6, x81] [] [] X35 v X'))))))))) else ((0 ≤ (y7).toInt ∧ (y7).toInt < ((30 : Nat) : Int)) ∧ ∃ (w44 : Int32) (X43 : fx_X), gx_258 p1 (X35.1 143 (y7).toInt.toNat) p4 p5 X35 w44 X43 ∧ (if (p3).toInt = 6 then (∃ x47 : Int32, x47 = (y6 + w44) ∧ ∃ x49 : Int32, x49 = y7 + Int32.ofInt 1 ∧ P 81 [x47, x49] [] [] X43 v X') else ((if (p3).toInt = 9 then (∃ x67 : Int32, x67 = (y6 + w44) ∧ ∃ x69 : Int32, x69 = y7 + Int32.ofInt 1 ∧ P 81 [x67, x69] [] [] X43 v X') else ((if (p3).toInt = 7 then ((if (w44).toInt < (y6).toInt then (∃ x65 : Int32, x65 = y7 + Int32.ofInt 1 ∧ P 81 [w44, x65] [] [] X43 v X') else (∃ x62 : Int32, x62 = y7 + Int32.ofInt 1 ∧ P 81 [y6, x62] [] [] X43 v X'))) else ((if (y6).toInt < (w44).toInt then (∃ x58 : Int32, x58 = y7 + Int32.ofInt 1 ∧ P 81 [w44, x58] [] [] X43 v X') else (∃ x55 : Int32, x55 = y7 + Int32.ofInt 1 ∧ P 81 [y6, x55] [] [] X43 v X'))))))))))))) else ((0 ≤ ((X.1 117 56)).toInt ∧ ((X.1 117 56)).toInt < ((8 : Nat) : Int)) ∧ ∃ X30 : fx_X, X30 = (fx_wI X 144 ((X.1 117 56)).toInt.toNat y6) ∧ X' = X30))
def gxE_270 (p1 : Int32) (p2 : Int32) (p3 : Int32) (p4 : Int32) (p5 : Int32) (P : Nat → List Int32 → List Int64 → List Nat → fx_X → Unit → fx_X → Prop) (X : fx_X) (v : Unit) (X' : fx_X) : Prop :=
  P 3 [(Int32.ofInt 0)] [] [] X v X'
noncomputable def gxF_270 (p1 : Int32) (p2 : Int32) (p3 : Int32) (p4 : Int32) (p5 : Int32) (n : Nat) : Nat → List Int32 → List Int64 → List Nat → fx_X → Unit → fx_X → Prop := Nat.rec (motive := fun _ => Nat → List Int32 → List Int64 → List Nat → fx_X → Unit → fx_X → Prop) (fun _ _ _ _ _ _ _ => False) (fun _ P l is ls rs X v X' => (l = 3 ∧ ∃ (y6 : Int32), is = [y6] ∧ ls = [] ∧ rs = [] ∧ gxT_270_3 p1 p2 p3 p4 p5 P y6 X v X') ∨ (l = 81 ∧ ∃ (y6 : Int32) (y7 : Int32), is = [y6, y7] ∧ ls = [] ∧ rs = [] ∧ gxT_270_81 p1 p2 p3 p4 p5 P y6 y7 X v X')) n
theorem gxI_270_3 {p1 : Int32} {p2 : Int32} {p3 : Int32} {p4 : Int32} {p5 : Int32} {n : Nat} {y6 : Int32} {X : fx_X} {v : Unit} {X' : fx_X} (h : gxT_270_3 p1 p2 p3 p4 p5 (gxF_270 p1 p2 p3 p4 p5 n) y6 X v X') : gxF_270 p1 p2 p3 p4 p5 (n + 1) 3 [y6] [] [] X v X' := Or.inl ⟨rfl, y6, rfl, rfl, rfl, h⟩
theorem gxO_270_3 {p1 : Int32} {p2 : Int32} {p3 : Int32} {p4 : Int32} {p5 : Int32} {n : Nat} {y6 : Int32} {X : fx_X} {v : Unit} {X' : fx_X} (h : gxF_270 p1 p2 p3 p4 p5 (n + 1) 3 [y6] [] [] X v X') : gxT_270_3 p1 p2 p3 p4 p5 (gxF_270 p1 p2 p3 p4 p5 n) y6 X v X' := by
  rcases h with ⟨-, _, e1, e2, e3, h⟩ | ⟨e, -⟩
  · cases e1; cases e2; cases e3; exact h
  · exact absurd e (by decide)
theorem gxI_270_81 {p1 : Int32} {p2 : Int32} {p3 : Int32} {p4 : Int32} {p5 : Int32} {n : Nat} {y6 : Int32} {y7 : Int32} {X : fx_X} {v : Unit} {X' : fx_X} (h : gxT_270_81 p1 p2 p3 p4 p5 (gxF_270 p1 p2 p3 p4 p5 n) y6 y7 X v X') : gxF_270 p1 p2 p3 p4 p5 (n + 1) 81 [y6, y7] [] [] X v X' := Or.inr (⟨rfl, y6, y7, rfl, rfl, rfl, h⟩)
theorem gxO_270_81 {p1 : Int32} {p2 : Int32} {p3 : Int32} {p4 : Int32} {p5 : Int32} {n : Nat} {y6 : Int32} {y7 : Int32} {X : fx_X} {v : Unit} {X' : fx_X} (h : gxF_270 p1 p2 p3 p4 p5 (n + 1) 81 [y6, y7] [] [] X v X') : gxT_270_81 p1 p2 p3 p4 p5 (gxF_270 p1 p2 p3 p4 p5 n) y6 y7 X v X' := by
  rcases h with ⟨e, -⟩ | ⟨-, _, _, e1, e2, e3, h⟩
  · exact absurd e (by decide)
  · cases e1; cases e2; cases e3; exact h
def gx_270 (p1 : Int32) (p2 : Int32) (p3 : Int32) (p4 : Int32) (p5 : Int32) (X : fx_X) (v : Unit) (X' : fx_X) : Prop := ∃ n : Nat, gxE_270 p1 p2 p3 p4 p5 (gxF_270 p1 p2 p3 p4 p5 n) X v X'
theorem gxL_270 {tb : aj_T} (p1 : Int32) (p2 : Int32) (p3 : Int32) (p4 : Int32) (p5 : Int32) : ∀ N : Nat, (∀ (lv : aj_V) (y6 : Int32) (X : fx_X), aj_lv lv 0 = some (.ref 117) → aj_lv lv 1 = some (.int p1) → aj_lv lv 2 = some (.int p2) → aj_lv lv 3 = some (.int p3) → aj_lv lv 4 = some (.int p4) → aj_lv lv 5 = some (.int p5) → aj_lv lv 6 = some (.int y6) → fx_W tb aj_m270 N 3 lv [] X (fx_Q fx_qN (fun v X' => ∃ n : Nat, gxF_270 p1 p2 p3 p4 p5 n 3 [y6] [] [] X v X'))) ∧ (∀ (lv : aj_V) (y6 : Int32) (y7 : Int32) (X : fx_X), aj_lv lv 0 = some (.ref 117) → aj_lv lv 1 = some (.int p1) → aj_lv lv 2 = some (.int p2) → aj_lv lv 3 = some (.int p3) → aj_lv lv 4 = some (.int p4) → aj_lv lv 5 = some (.int p5) → aj_lv lv 6 = some (.int y6) → aj_lv lv 7 = some (.int y7) → fx_W tb aj_m270 N 81 lv [] X (fx_Q fx_qN (fun v X' => ∃ n : Nat, gxF_270 p1 p2 p3 p4 p5 n 81 [y6, y7] [] [] X v X'))) := by
  intro N
  induction N with
  | zero => exact ⟨(by intros; exact fx_z), (by intros; exact fx_z)⟩
  | succ N ih =>
    refine ⟨?_, ?_⟩
    · intro lv y6 X hlv_0 hlv_1 hlv_2 hlv_3 hlv_4 hlv_5 hlv_6
      refine fx_mono (Q := fx_Q fx_qN (fun v X' => ∃ n : Nat, gxT_270_3 p1 p2 p3 p4 p5 (gxF_270 p1 p2 p3 p4 p5 n) y6 X v X')) (fun r X' ⟨v, e, n, z⟩ => ⟨v, e, n + 1, gxI_270_3 z⟩) ?_
      unfold gxT_270_3
      refine fx_i0 aj_d270 rfl (Nat.le_refl _) (fun _ => rfl) hlv_6 ?_
      refine fx_i2 aj_d270 rfl (Nat.le_succ _) (fun _ => rfl) hlv_0 ?_
      refine fx_gI aj_d270 rfl (Nat.le_succ _) rfl rfl (Or.inl rfl) ?_
      refine fx_b (tgt := 45) aj_d270 rfl (Nat.le_succ _) rfl (fun q3 => ?_) (fun q3 => ?_)
      · skip
        refine fx_qe (c := (y6).toInt < ((X.1 117 56)).toInt) (fx_t_ge q3) ?_
        show fx_W _ _ _ 45 lv [] _ _
        refine fx_i0 aj_d270 rfl (Nat.le_succ _) (fun _ => rfl) hlv_3 ?_
        refine fx_n (pc' := 48) (lv' := lv) (st' := [.int ((Int8.ofInt 6).toInt32), .int p3]) aj_d270 rfl (Nat.le_succ _) (fun _ => rfl) ?_
        refine fx_b (tgt := 57) aj_d270 rfl (Nat.le_succ _) rfl (fun q4 => ?_) (fun q4 => ?_)
        · skip
          refine fx_qi (c := (p3).toInt = 6) (fx_t_eq q4) ?_
          show fx_W _ _ _ 57 lv [] _ _
          refine fx_n (pc' := 58) (lv' := lv) (st' := [.int (Int32.ofInt 0)]) aj_d270 rfl (Nat.le_succ _) (fun _ => rfl) ?_
          refine fx_n (pc' := 76) (lv' := lv) (st' := [.int (Int32.ofInt 0)]) aj_d270 rfl (Nat.le_succ _) (fun _ => rfl) ?_
          refine fx_s0 (j := 6) aj_d270 rfl (Nat.le_succ _) (by decide) (fun _ => rfl) ?_
          obtain ⟨lv5, elv5⟩ : ∃ l, l = aj_set1 lv 6 (.int (Int32.ofInt 0)) := ⟨_, rfl⟩
          rw [← elv5]
          have hlv5_0 : aj_lv lv5 0 = some (.ref 117) := fx_e1 elv5 hlv_0 (by decide) (Or.inl (by decide))
          have hlv5_1 : aj_lv lv5 1 = some (.int p1) := fx_e1 elv5 hlv_1 (by decide) (Or.inl (by decide))
          have hlv5_2 : aj_lv lv5 2 = some (.int p2) := fx_e1 elv5 hlv_2 (by decide) (Or.inl (by decide))
          have hlv5_3 : aj_lv lv5 3 = some (.int p3) := fx_e1 elv5 hlv_3 (by decide) (Or.inl (by decide))
          have hlv5_4 : aj_lv lv5 4 = some (.int p4) := fx_e1 elv5 hlv_4 (by decide) (Or.inl (by decide))
          have hlv5_5 : aj_lv lv5 5 = some (.int p5) := fx_e1 elv5 hlv_5 (by decide) (Or.inr rfl)
          have hlv5_6 : aj_lv lv5 6 = some (.int (Int32.ofInt 0)) := by rw [elv5]; exact ak_set1_eq _ _ _
          show fx_W _ _ _ 78 lv5 [] _ _
          refine fx_i0 aj_d270 rfl (Nat.le_succ _) (fun _ => rfl) hlv5_2 ?_
          refine fx_s0 (j := 7) aj_d270 rfl (Nat.le_succ _) (by decide) (fun _ => rfl) ?_
          obtain ⟨lv6, elv6⟩ : ∃ l, l = aj_set1 lv5 7 (.int p2) := ⟨_, rfl⟩
          rw [← elv6]
          have hlv6_0 : aj_lv lv6 0 = some (.ref 117) := fx_e1 elv6 hlv5_0 (by decide) (Or.inl (by decide))
          have hlv6_1 : aj_lv lv6 1 = some (.int p1) := fx_e1 elv6 hlv5_1 (by decide) (Or.inl (by decide))
          have hlv6_2 : aj_lv lv6 2 = some (.int p2) := fx_e1 elv6 hlv5_2 (by decide) (Or.inl (by decide))
          have hlv6_3 : aj_lv lv6 3 = some (.int p3) := fx_e1 elv6 hlv5_3 (by decide) (Or.inl (by decide))
          have hlv6_4 : aj_lv lv6 4 = some (.int p4) := fx_e1 elv6 hlv5_4 (by decide) (Or.inl (by decide))
          have hlv6_5 : aj_lv lv6 5 = some (.int p5) := fx_e1 elv6 hlv5_5 (by decide) (Or.inl (by decide))
          have hlv6_6 : aj_lv lv6 6 = some (.int (Int32.ofInt 0)) := fx_e1 elv6 hlv5_6 (by decide) (Or.inr rfl)
          have hlv6_7 : aj_lv lv6 7 = some (.int p2) := by rw [elv6]; exact ak_set1_eq _ _ _
          show fx_W _ _ _ 81 lv6 [] _ _
          exact (ih.2) lv6 ((Int32.ofInt 0)) (p2) X  hlv6_0 hlv6_1 hlv6_2 hlv6_3 hlv6_4 hlv6_5 hlv6_6 hlv6_7
        · skip
          refine fx_qe (c := (p3).toInt = 6) (fx_f_eq q4) ?_
          show fx_W _ _ _ 51 lv [] _ _
          refine fx_i0 aj_d270 rfl (Nat.le_succ _) (fun _ => rfl) hlv_3 ?_
          refine fx_n (pc' := 54) (lv' := lv) (st' := [.int ((Int8.ofInt 9).toInt32), .int p3]) aj_d270 rfl (Nat.le_succ _) (fun _ => rfl) ?_
          refine fx_b (tgt := 61) aj_d270 rfl (Nat.le_succ _) rfl (fun q7 => ?_) (fun q7 => ?_)
          · skip
            refine fx_qe (c := (p3).toInt = 9) (fx_t_ne q7) ?_
            show fx_W _ _ _ 61 lv [] _ _
            refine fx_i2 aj_d270 rfl (Nat.le_succ _) (fun _ => rfl) hlv_0 ?_
            refine fx_i0 aj_d270 rfl (Nat.le_succ _) (fun _ => rfl) hlv_1 ?_
            refine fx_i2 aj_d270 rfl (Nat.le_succ _) (fun _ => rfl) hlv_0 ?_
            refine fx_gF aj_d270 rfl (Nat.le_succ _) rfl rfl fx_in_11_57 (t := 143) rfl (fun hA8 => ?_)
            refine fx_i0 aj_d270 rfl (Nat.le_succ _) (fun _ => rfl) hlv_2 ?_
            refine fx_ld aj_d270 (Or.inl rfl) rfl (Nat.le_succ _) (fun g90 g91 => ?_)
            show fx_W _ _ _ 69 lv [.int (X.1 143 (p2).toInt.toNat), .int p1, .ref 117] _ _
            refine fx_qa (c := 0 ≤ (p2).toInt ∧ (p2).toInt < ((30 : Nat) : Int)) ⟨g90, fx_lnk g91 hA8⟩ ?_
            refine fx_i0 aj_d270 rfl (Nat.le_succ _) (fun _ => rfl) hlv_4 ?_
            refine fx_i0 aj_d270 rfl (Nat.le_succ _) (fun _ => rfl) hlv_5 ?_
            refine fx_cv aj_d270 rfl (Nat.le_succ _) rfl [_, _, _, _] rfl rfl (gx_258_ok p1 (X.1 143 (p2).toInt.toNat) p4 p5) ?_
            rintro _ X10 ⟨w11, rfl, hR10⟩ hok10 hle10
            refine fx_qc hR10 ?_
            show fx_W _ _ _ 76 lv [.int w11] _ _
            refine fx_s0 (j := 6) aj_d270 rfl (Nat.le_succ _) (by decide) (fun _ => rfl) ?_
            obtain ⟨lv12, elv12⟩ : ∃ l, l = aj_set1 lv 6 (.int w11) := ⟨_, rfl⟩
            rw [← elv12]
            have hlv12_0 : aj_lv lv12 0 = some (.ref 117) := fx_e1 elv12 hlv_0 (by decide) (Or.inl (by decide))
            have hlv12_1 : aj_lv lv12 1 = some (.int p1) := fx_e1 elv12 hlv_1 (by decide) (Or.inl (by decide))
            have hlv12_2 : aj_lv lv12 2 = some (.int p2) := fx_e1 elv12 hlv_2 (by decide) (Or.inl (by decide))
            have hlv12_3 : aj_lv lv12 3 = some (.int p3) := fx_e1 elv12 hlv_3 (by decide) (Or.inl (by decide))
            have hlv12_4 : aj_lv lv12 4 = some (.int p4) := fx_e1 elv12 hlv_4 (by decide) (Or.inl (by decide))
            have hlv12_5 : aj_lv lv12 5 = some (.int p5) := fx_e1 elv12 hlv_5 (by decide) (Or.inr rfl)
            have hlv12_6 : aj_lv lv12 6 = some (.int w11) := by rw [elv12]; exact ak_set1_eq _ _ _
            show fx_W _ _ _ 78 lv12 [] _ _
            refine fx_i0 aj_d270 rfl (Nat.le_succ _) (fun _ => rfl) hlv12_2 ?_
            refine fx_s0 (j := 7) aj_d270 rfl (Nat.le_succ _) (by decide) (fun _ => rfl) ?_
            obtain ⟨lv13, elv13⟩ : ∃ l, l = aj_set1 lv12 7 (.int p2) := ⟨_, rfl⟩
            rw [← elv13]
            have hlv13_0 : aj_lv lv13 0 = some (.ref 117) := fx_e1 elv13 hlv12_0 (by decide) (Or.inl (by decide))
            have hlv13_1 : aj_lv lv13 1 = some (.int p1) := fx_e1 elv13 hlv12_1 (by decide) (Or.inl (by decide))
            have hlv13_2 : aj_lv lv13 2 = some (.int p2) := fx_e1 elv13 hlv12_2 (by decide) (Or.inl (by decide))
            have hlv13_3 : aj_lv lv13 3 = some (.int p3) := fx_e1 elv13 hlv12_3 (by decide) (Or.inl (by decide))
            have hlv13_4 : aj_lv lv13 4 = some (.int p4) := fx_e1 elv13 hlv12_4 (by decide) (Or.inl (by decide))
            have hlv13_5 : aj_lv lv13 5 = some (.int p5) := fx_e1 elv13 hlv12_5 (by decide) (Or.inl (by decide))
            have hlv13_6 : aj_lv lv13 6 = some (.int w11) := fx_e1 elv13 hlv12_6 (by decide) (Or.inr rfl)
            have hlv13_7 : aj_lv lv13 7 = some (.int p2) := by rw [elv13]; exact ak_set1_eq _ _ _
            show fx_W _ _ _ 81 lv13 [] _ _
            exact (ih.2) lv13 (w11) (p2) X10  hlv13_0 hlv13_1 hlv13_2 hlv13_3 hlv13_4 hlv13_5 hlv13_6 hlv13_7
          · skip
            refine fx_qi (c := (p3).toInt = 9) (fx_f_ne q7) ?_
            show fx_W _ _ _ 57 lv [] _ _
            refine fx_n (pc' := 58) (lv' := lv) (st' := [.int (Int32.ofInt 0)]) aj_d270 rfl (Nat.le_succ _) (fun _ => rfl) ?_
            refine fx_n (pc' := 76) (lv' := lv) (st' := [.int (Int32.ofInt 0)]) aj_d270 rfl (Nat.le_succ _) (fun _ => rfl) ?_
            refine fx_s0 (j := 6) aj_d270 rfl (Nat.le_succ _) (by decide) (fun _ => rfl) ?_
            obtain ⟨lv14, elv14⟩ : ∃ l, l = aj_set1 lv 6 (.int (Int32.ofInt 0)) := ⟨_, rfl⟩
            rw [← elv14]
            have hlv14_0 : aj_lv lv14 0 = some (.ref 117) := fx_e1 elv14 hlv_0 (by decide) (Or.inl (by decide))
            have hlv14_1 : aj_lv lv14 1 = some (.int p1) := fx_e1 elv14 hlv_1 (by decide) (Or.inl (by decide))
            have hlv14_2 : aj_lv lv14 2 = some (.int p2) := fx_e1 elv14 hlv_2 (by decide) (Or.inl (by decide))
            have hlv14_3 : aj_lv lv14 3 = some (.int p3) := fx_e1 elv14 hlv_3 (by decide) (Or.inl (by decide))
            have hlv14_4 : aj_lv lv14 4 = some (.int p4) := fx_e1 elv14 hlv_4 (by decide) (Or.inl (by decide))
            have hlv14_5 : aj_lv lv14 5 = some (.int p5) := fx_e1 elv14 hlv_5 (by decide) (Or.inr rfl)
            have hlv14_6 : aj_lv lv14 6 = some (.int (Int32.ofInt 0)) := by rw [elv14]; exact ak_set1_eq _ _ _
            show fx_W _ _ _ 78 lv14 [] _ _
            refine fx_i0 aj_d270 rfl (Nat.le_succ _) (fun _ => rfl) hlv14_2 ?_
            refine fx_s0 (j := 7) aj_d270 rfl (Nat.le_succ _) (by decide) (fun _ => rfl) ?_
            obtain ⟨lv15, elv15⟩ : ∃ l, l = aj_set1 lv14 7 (.int p2) := ⟨_, rfl⟩
            rw [← elv15]
            have hlv15_0 : aj_lv lv15 0 = some (.ref 117) := fx_e1 elv15 hlv14_0 (by decide) (Or.inl (by decide))
            have hlv15_1 : aj_lv lv15 1 = some (.int p1) := fx_e1 elv15 hlv14_1 (by decide) (Or.inl (by decide))
            have hlv15_2 : aj_lv lv15 2 = some (.int p2) := fx_e1 elv15 hlv14_2 (by decide) (Or.inl (by decide))
            have hlv15_3 : aj_lv lv15 3 = some (.int p3) := fx_e1 elv15 hlv14_3 (by decide) (Or.inl (by decide))
            have hlv15_4 : aj_lv lv15 4 = some (.int p4) := fx_e1 elv15 hlv14_4 (by decide) (Or.inl (by decide))
            have hlv15_5 : aj_lv lv15 5 = some (.int p5) := fx_e1 elv15 hlv14_5 (by decide) (Or.inl (by decide))
            have hlv15_6 : aj_lv lv15 6 = some (.int (Int32.ofInt 0)) := fx_e1 elv15 hlv14_6 (by decide) (Or.inr rfl)
            have hlv15_7 : aj_lv lv15 7 = some (.int p2) := by rw [elv15]; exact ak_set1_eq _ _ _
            show fx_W _ _ _ 81 lv15 [] _ _
            exact (ih.2) lv15 ((Int32.ofInt 0)) (p2) X  hlv15_0 hlv15_1 hlv15_2 hlv15_3 hlv15_4 hlv15_5 hlv15_6 hlv15_7
      · skip
        refine fx_qi (c := (y6).toInt < ((X.1 117 56)).toInt) (fx_f_ge q3) ?_
        show fx_W _ _ _ 12 lv [] _ _
        refine fx_i2 aj_d270 rfl (Nat.le_succ _) (fun _ => rfl) hlv_0 ?_
        refine fx_gF aj_d270 rfl (Nat.le_succ _) rfl rfl fx_in_11_59 (t := 144) rfl (fun hA16 => ?_)
        refine fx_i0 aj_d270 rfl (Nat.le_succ _) (fun _ => rfl) hlv_6 ?_
        refine fx_i2 aj_d270 rfl (Nat.le_succ _) (fun _ => rfl) hlv_0 ?_
        refine fx_i0 aj_d270 rfl (Nat.le_succ _) (fun _ => rfl) hlv_1 ?_
        refine fx_i2 aj_d270 rfl (Nat.le_succ _) (fun _ => rfl) hlv_0 ?_
        refine fx_gF aj_d270 rfl (Nat.le_succ _) rfl rfl fx_in_11_57 (t := 143) rfl (fun hA17 => ?_)
        refine fx_i0 aj_d270 rfl (Nat.le_succ _) (fun _ => rfl) hlv_2 ?_
        refine fx_ld aj_d270 (Or.inl rfl) rfl (Nat.le_succ _) (fun g180 g181 => ?_)
        show fx_W _ _ _ 26 lv [.int (X.1 143 (p2).toInt.toNat), .int p1, .ref 117, .int y6, .ref 144] _ _
        refine fx_qa (c := 0 ≤ (p2).toInt ∧ (p2).toInt < ((30 : Nat) : Int)) ⟨g180, fx_lnk g181 hA17⟩ ?_
        refine fx_i2 aj_d270 rfl (Nat.le_succ _) (fun _ => rfl) hlv_0 ?_
        refine fx_gF aj_d270 rfl (Nat.le_succ _) rfl rfl fx_in_11_55 (t := 142) rfl (fun hA19 => ?_)
        refine fx_i0 aj_d270 rfl (Nat.le_succ _) (fun _ => rfl) hlv_6 ?_
        refine fx_ld aj_d270 (Or.inl rfl) rfl (Nat.le_succ _) (fun g200 g201 => ?_)
        show fx_W _ _ _ 33 lv [.int (X.1 142 (y6).toInt.toNat), .int (X.1 143 (p2).toInt.toNat), .int p1, .ref 117, .int y6, .ref 144] _ _
        refine fx_qa (c := 0 ≤ (y6).toInt ∧ (y6).toInt < ((16 : Nat) : Int)) ⟨g200, fx_lnk g201 hA19⟩ ?_
        refine fx_i0 aj_d270 rfl (Nat.le_succ _) (fun _ => rfl) hlv_5 ?_
        refine fx_cv aj_d270 rfl (Nat.le_succ _) rfl [_, _, _, _] rfl rfl (gx_258_ok p1 (X.1 143 (p2).toInt.toNat) (X.1 142 (y6).toInt.toNat) p5) ?_
        rintro _ X21 ⟨w22, rfl, hR21⟩ hok21 hle21
        refine fx_qc hR21 ?_
        show fx_W _ _ _ 38 lv [.int w22, .int y6, .ref 144] _ _
        refine fx_st aj_d270 (Or.inl ⟨rfl, rfl⟩) rfl (Nat.le_succ _) (fun g230 g231 => ?_)
        show fx_W _ _ _ _ _ _ (fx_wI X21 144 (y6).toInt.toNat w22) _
        refine fx_qa (c := 0 ≤ (y6).toInt ∧ (y6).toInt < ((8 : Nat) : Int)) ⟨g230, fx_lnk g231 ((hle21.2 _ (by rw [hA16]; decide)).trans hA16)⟩ ?_
        refine fx_qX (fun X24 eX24 => ?_)
        show fx_W _ _ _ 39 lv [] _ _
        refine fx_incq aj_d270 rfl (Nat.le_succ _) hlv_6 (by decide) (fun x25 ex25 => ?_)
        obtain ⟨lv26, elv26⟩ : ∃ l, l = aj_set1 lv 6 (.int x25) := ⟨_, rfl⟩
        rw [← elv26]
        have hlv26_0 : aj_lv lv26 0 = some (.ref 117) := fx_e1 elv26 hlv_0 (by decide) (Or.inl (by decide))
        have hlv26_1 : aj_lv lv26 1 = some (.int p1) := fx_e1 elv26 hlv_1 (by decide) (Or.inl (by decide))
        have hlv26_2 : aj_lv lv26 2 = some (.int p2) := fx_e1 elv26 hlv_2 (by decide) (Or.inl (by decide))
        have hlv26_3 : aj_lv lv26 3 = some (.int p3) := fx_e1 elv26 hlv_3 (by decide) (Or.inl (by decide))
        have hlv26_4 : aj_lv lv26 4 = some (.int p4) := fx_e1 elv26 hlv_4 (by decide) (Or.inl (by decide))
        have hlv26_5 : aj_lv lv26 5 = some (.int p5) := fx_e1 elv26 hlv_5 (by decide) (Or.inr rfl)
        have hlv26_6 : aj_lv lv26 6 = some (.int x25) := by rw [elv26]; exact ak_set1_eq _ _ _
        show fx_W _ _ _ 42 lv26 [] _ _
        refine fx_n (pc' := 3) (lv' := lv26) (st' := []) aj_d270 rfl (Nat.le_succ _) (fun _ => rfl) ?_
        exact (ih.1) lv26 (x25) X24  hlv26_0 hlv26_1 hlv26_2 hlv26_3 hlv26_4 hlv26_5 hlv26_6
    · intro lv y6 y7 X hlv_0 hlv_1 hlv_2 hlv_3 hlv_4 hlv_5 hlv_6 hlv_7
      refine fx_mono (Q := fx_Q fx_qN (fun v X' => ∃ n : Nat, gxT_270_81 p1 p2 p3 p4 p5 (gxF_270 p1 p2 p3 p4 p5 n) y6 y7 X v X')) (fun r X' ⟨v, e, n, z⟩ => ⟨v, e, n + 1, gxI_270_81 z⟩) ?_
      unfold gxT_270_81
      refine fx_i0 aj_d270 rfl (Nat.le_refl _) (fun _ => rfl) hlv_7 ?_
      refine fx_i2 aj_d270 rfl (Nat.le_succ _) (fun _ => rfl) hlv_0 ?_
      refine fx_gI aj_d270 rfl (Nat.le_succ _) rfl rfl (Or.inl rfl) ?_
      refine fx_b (tgt := 206) aj_d270 rfl (Nat.le_succ _) rfl (fun q27 => ?_) (fun q27 => ?_)
      · skip
        refine fx_qe (c := (y7).toInt < ((X.1 117 58)).toInt) (fx_t_ge q27) ?_
        show fx_W _ _ _ 206 lv [] _ _
        refine fx_i2 aj_d270 rfl (Nat.le_succ _) (fun _ => rfl) hlv_0 ?_
        refine fx_gF aj_d270 rfl (Nat.le_succ _) rfl rfl fx_in_11_59 (t := 144) rfl (fun hA28 => ?_)
        refine fx_i2 aj_d270 rfl (Nat.le_succ _) (fun _ => rfl) hlv_0 ?_
        refine fx_gI aj_d270 rfl (Nat.le_succ _) rfl rfl (Or.inl rfl) ?_
        refine fx_i0 aj_d270 rfl (Nat.le_succ _) (fun _ => rfl) hlv_6 ?_
        refine fx_st aj_d270 (Or.inl ⟨rfl, rfl⟩) rfl (Nat.le_succ _) (fun g290 g291 => ?_)
        show fx_W _ _ _ _ _ _ (fx_wI X 144 ((X.1 117 56)).toInt.toNat y6) _
        refine fx_qa (c := 0 ≤ ((X.1 117 56)).toInt ∧ ((X.1 117 56)).toInt < ((8 : Nat) : Int)) ⟨g290, fx_lnk g291 hA28⟩ ?_
        refine fx_qX (fun X30 eX30 => ?_)
        show fx_W _ _ _ 217 lv [] _ _
        exact fx_rn aj_d270 rfl ⟨(), rfl, 0, rfl⟩
      · skip
        refine fx_qi (c := (y7).toInt < ((X.1 117 58)).toInt) (fx_f_ge q27) ?_
        show fx_W _ _ _ 90 lv [] _ _
        refine fx_i2 aj_d270 rfl (Nat.le_succ _) (fun _ => rfl) hlv_0 ?_
        refine fx_i0 aj_d270 rfl (Nat.le_succ _) (fun _ => rfl) hlv_1 ?_
        refine fx_i2 aj_d270 rfl (Nat.le_succ _) (fun _ => rfl) hlv_0 ?_
        refine fx_gF aj_d270 rfl (Nat.le_succ _) rfl rfl fx_in_11_57 (t := 143) rfl (fun hA31 => ?_)
        refine fx_i0 aj_d270 rfl (Nat.le_succ _) (fun _ => rfl) hlv_7 ?_
        refine fx_ld aj_d270 (Or.inl rfl) rfl (Nat.le_succ _) (fun g320 g321 => ?_)
        show fx_W _ _ _ 99 lv [.int (X.1 143 (y7).toInt.toNat), .int p1, .ref 117] _ _
        refine fx_qa (c := 0 ≤ (y7).toInt ∧ (y7).toInt < ((30 : Nat) : Int)) ⟨g320, fx_lnk g321 hA31⟩ ?_
        refine fx_i2 aj_d270 rfl (Nat.le_succ _) (fun _ => rfl) hlv_0 ?_
        refine fx_gF aj_d270 rfl (Nat.le_succ _) rfl rfl fx_in_11_57 (t := 143) rfl (fun hA33 => ?_)
        refine fx_i0 aj_d270 rfl (Nat.le_succ _) (fun _ => rfl) hlv_2 ?_
        refine fx_ld aj_d270 (Or.inl rfl) rfl (Nat.le_succ _) (fun g340 g341 => ?_)
        show fx_W _ _ _ 105 lv [.int (X.1 143 (p2).toInt.toNat), .int (X.1 143 (y7).toInt.toNat), .int p1, .ref 117] _ _
        refine fx_qa (c := 0 ≤ (p2).toInt ∧ (p2).toInt < ((30 : Nat) : Int)) ⟨g340, fx_lnk g341 hA33⟩ ?_
        refine fx_i0 aj_d270 rfl (Nat.le_succ _) (fun _ => rfl) hlv_5 ?_
        refine fx_cv aj_d270 rfl (Nat.le_succ _) rfl [_, _, _, _] rfl rfl (gx_269_ok p1 (X.1 143 (y7).toInt.toNat) (X.1 143 (p2).toInt.toNat) p5) ?_
        rintro _ X35 ⟨w36, rfl, hR35⟩ hok35 hle35
        refine fx_qc hR35 ?_
        show fx_W _ _ _ 110 lv [.int w36] _ _
        refine fx_b0 (tgt := 200) aj_d270 rfl (Nat.le_succ _) rfl (fun q37 => ?_) (fun q37 => ?_)
        · skip
          refine fx_qi (c := (w36).toInt = 0) (fx_t_eq q37) ?_
          show fx_W _ _ _ 200 lv [] _ _
          refine fx_incq aj_d270 rfl (Nat.le_succ _) hlv_7 (by decide) (fun x38 ex38 => ?_)
          obtain ⟨lv39, elv39⟩ : ∃ l, l = aj_set1 lv 7 (.int x38) := ⟨_, rfl⟩
          rw [← elv39]
          have hlv39_0 : aj_lv lv39 0 = some (.ref 117) := fx_e1 elv39 hlv_0 (by decide) (Or.inl (by decide))
          have hlv39_1 : aj_lv lv39 1 = some (.int p1) := fx_e1 elv39 hlv_1 (by decide) (Or.inl (by decide))
          have hlv39_2 : aj_lv lv39 2 = some (.int p2) := fx_e1 elv39 hlv_2 (by decide) (Or.inl (by decide))
          have hlv39_3 : aj_lv lv39 3 = some (.int p3) := fx_e1 elv39 hlv_3 (by decide) (Or.inl (by decide))
          have hlv39_4 : aj_lv lv39 4 = some (.int p4) := fx_e1 elv39 hlv_4 (by decide) (Or.inl (by decide))
          have hlv39_5 : aj_lv lv39 5 = some (.int p5) := fx_e1 elv39 hlv_5 (by decide) (Or.inl (by decide))
          have hlv39_6 : aj_lv lv39 6 = some (.int y6) := fx_e1 elv39 hlv_6 (by decide) (Or.inr rfl)
          have hlv39_7 : aj_lv lv39 7 = some (.int x38) := by rw [elv39]; exact ak_set1_eq _ _ _
          show fx_W _ _ _ 203 lv39 [] _ _
          refine fx_n (pc' := 81) (lv' := lv39) (st' := []) aj_d270 rfl (Nat.le_succ _) (fun _ => rfl) ?_
          exact (ih.2) lv39 (y6) (x38) X35  hlv39_0 hlv39_1 hlv39_2 hlv39_3 hlv39_4 hlv39_5 hlv39_6 hlv39_7
        · skip
          refine fx_qe (c := (w36).toInt = 0) (fx_f_eq q37) ?_
          show fx_W _ _ _ 113 lv [] _ _
          refine fx_i0 aj_d270 rfl (Nat.le_succ _) (fun _ => rfl) hlv_3 ?_
          refine fx_n (pc' := 116) (lv' := lv) (st' := [.int ((Int8.ofInt 6).toInt32), .int p3]) aj_d270 rfl (Nat.le_succ _) (fun _ => rfl) ?_
          refine fx_b (tgt := 123) aj_d270 rfl (Nat.le_succ _) rfl (fun q40 => ?_) (fun q40 => ?_)
          · skip
            refine fx_qe (c := (p3).toInt = 6) (fx_t_ne q40) ?_
            show fx_W _ _ _ 123 lv [] _ _
            refine fx_i2 aj_d270 rfl (Nat.le_succ _) (fun _ => rfl) hlv_0 ?_
            refine fx_i0 aj_d270 rfl (Nat.le_succ _) (fun _ => rfl) hlv_1 ?_
            refine fx_i2 aj_d270 rfl (Nat.le_succ _) (fun _ => rfl) hlv_0 ?_
            refine fx_gF aj_d270 rfl (Nat.le_succ _) rfl rfl fx_in_11_57 (t := 143) rfl (fun hA41 => ?_)
            refine fx_i0 aj_d270 rfl (Nat.le_succ _) (fun _ => rfl) hlv_7 ?_
            refine fx_ld aj_d270 (Or.inl rfl) rfl (Nat.le_succ _) (fun g420 g421 => ?_)
            show fx_W _ _ _ 132 lv [.int (X35.1 143 (y7).toInt.toNat), .int p1, .ref 117] _ _
            refine fx_qa (c := 0 ≤ (y7).toInt ∧ (y7).toInt < ((30 : Nat) : Int)) ⟨g420, fx_lnk g421 hA41⟩ ?_
            refine fx_i0 aj_d270 rfl (Nat.le_succ _) (fun _ => rfl) hlv_4 ?_
            refine fx_i0 aj_d270 rfl (Nat.le_succ _) (fun _ => rfl) hlv_5 ?_
            refine fx_cv aj_d270 rfl (Nat.le_succ _) rfl [_, _, _, _] rfl rfl (gx_258_ok p1 (X35.1 143 (y7).toInt.toNat) p4 p5) ?_
            rintro _ X43 ⟨w44, rfl, hR43⟩ hok43 hle43
            refine fx_qc hR43 ?_
            show fx_W _ _ _ 139 lv [.int w44] _ _
            refine fx_s0 (j := 8) aj_d270 rfl (Nat.le_succ _) (by decide) (fun _ => rfl) ?_
            obtain ⟨lv45, elv45⟩ : ∃ l, l = aj_set1 lv 8 (.int w44) := ⟨_, rfl⟩
            rw [← elv45]
            have hlv45_0 : aj_lv lv45 0 = some (.ref 117) := fx_e1 elv45 hlv_0 (by decide) (Or.inl (by decide))
            have hlv45_1 : aj_lv lv45 1 = some (.int p1) := fx_e1 elv45 hlv_1 (by decide) (Or.inl (by decide))
            have hlv45_2 : aj_lv lv45 2 = some (.int p2) := fx_e1 elv45 hlv_2 (by decide) (Or.inl (by decide))
            have hlv45_3 : aj_lv lv45 3 = some (.int p3) := fx_e1 elv45 hlv_3 (by decide) (Or.inl (by decide))
            have hlv45_4 : aj_lv lv45 4 = some (.int p4) := fx_e1 elv45 hlv_4 (by decide) (Or.inl (by decide))
            have hlv45_5 : aj_lv lv45 5 = some (.int p5) := fx_e1 elv45 hlv_5 (by decide) (Or.inl (by decide))
            have hlv45_6 : aj_lv lv45 6 = some (.int y6) := fx_e1 elv45 hlv_6 (by decide) (Or.inl (by decide))
            have hlv45_7 : aj_lv lv45 7 = some (.int y7) := fx_e1 elv45 hlv_7 (by decide) (Or.inr rfl)
            have hlv45_8 : aj_lv lv45 8 = some (.int w44) := by rw [elv45]; exact ak_set1_eq _ _ _
            show fx_W _ _ _ 141 lv45 [] _ _
            refine fx_i0 aj_d270 rfl (Nat.le_succ _) (fun _ => rfl) hlv45_3 ?_
            refine fx_n (pc' := 144) (lv' := lv45) (st' := [.int ((Int8.ofInt 6).toInt32), .int p3]) aj_d270 rfl (Nat.le_succ _) (fun _ => rfl) ?_
            refine fx_b (tgt := 153) aj_d270 rfl (Nat.le_succ _) rfl (fun q46 => ?_) (fun q46 => ?_)
            · skip
              refine fx_qi (c := (p3).toInt = 6) (fx_t_eq q46) ?_
              show fx_W _ _ _ 153 lv45 [] _ _
              refine fx_i0 aj_d270 rfl (Nat.le_succ _) (fun _ => rfl) hlv45_6 ?_
              refine fx_i0 aj_d270 rfl (Nat.le_succ _) (fun _ => rfl) hlv45_8 ?_
              refine fx_n (pc' := 158) (lv' := lv45) (st' := [.int (y6 + w44)]) aj_d270 rfl (Nat.le_succ _) (fun _ => rfl) ?_
              refine fx_n (pc' := 198) (lv' := lv45) (st' := [.int (y6 + w44)]) aj_d270 rfl (Nat.le_succ _) (fun _ => rfl) ?_
              refine fx_qxI (fun x47 ex47 => ?_)
              refine fx_s0 (j := 6) aj_d270 rfl (Nat.le_succ _) (by decide) (fun _ => rfl) ?_
              obtain ⟨lv48, elv48⟩ : ∃ l, l = aj_set1 lv45 6 (.int x47) := ⟨_, rfl⟩
              rw [← elv48]
              have hlv48_0 : aj_lv lv48 0 = some (.ref 117) := fx_e1 elv48 hlv45_0 (by decide) (Or.inl (by decide))
              have hlv48_1 : aj_lv lv48 1 = some (.int p1) := fx_e1 elv48 hlv45_1 (by decide) (Or.inl (by decide))
              have hlv48_2 : aj_lv lv48 2 = some (.int p2) := fx_e1 elv48 hlv45_2 (by decide) (Or.inl (by decide))
              have hlv48_3 : aj_lv lv48 3 = some (.int p3) := fx_e1 elv48 hlv45_3 (by decide) (Or.inl (by decide))
              have hlv48_4 : aj_lv lv48 4 = some (.int p4) := fx_e1 elv48 hlv45_4 (by decide) (Or.inl (by decide))
              have hlv48_5 : aj_lv lv48 5 = some (.int p5) := fx_e1 elv48 hlv45_5 (by decide) (Or.inr rfl)
              have hlv48_7 : aj_lv lv48 7 = some (.int y7) := fx_e1 elv48 hlv45_7 (by decide) (Or.inl (by decide))
              have hlv48_6 : aj_lv lv48 6 = some (.int x47) := by rw [elv48]; exact ak_set1_eq _ _ _
              show fx_W _ _ _ 200 lv48 [] _ _
              refine fx_incq aj_d270 rfl (Nat.le_succ _) hlv48_7 (by decide) (fun x49 ex49 => ?_)
              obtain ⟨lv50, elv50⟩ : ∃ l, l = aj_set1 lv48 7 (.int x49) := ⟨_, rfl⟩
              rw [← elv50]
              have hlv50_0 : aj_lv lv50 0 = some (.ref 117) := fx_e1 elv50 hlv48_0 (by decide) (Or.inl (by decide))
              have hlv50_1 : aj_lv lv50 1 = some (.int p1) := fx_e1 elv50 hlv48_1 (by decide) (Or.inl (by decide))
              have hlv50_2 : aj_lv lv50 2 = some (.int p2) := fx_e1 elv50 hlv48_2 (by decide) (Or.inl (by decide))
              have hlv50_3 : aj_lv lv50 3 = some (.int p3) := fx_e1 elv50 hlv48_3 (by decide) (Or.inl (by decide))
              have hlv50_4 : aj_lv lv50 4 = some (.int p4) := fx_e1 elv50 hlv48_4 (by decide) (Or.inl (by decide))
              have hlv50_5 : aj_lv lv50 5 = some (.int p5) := fx_e1 elv50 hlv48_5 (by decide) (Or.inl (by decide))
              have hlv50_6 : aj_lv lv50 6 = some (.int x47) := fx_e1 elv50 hlv48_6 (by decide) (Or.inr rfl)
              have hlv50_7 : aj_lv lv50 7 = some (.int x49) := by rw [elv50]; exact ak_set1_eq _ _ _
              show fx_W _ _ _ 203 lv50 [] _ _
              refine fx_n (pc' := 81) (lv' := lv50) (st' := []) aj_d270 rfl (Nat.le_succ _) (fun _ => rfl) ?_
              exact (ih.2) lv50 (x47) (x49) X43  hlv50_0 hlv50_1 hlv50_2 hlv50_3 hlv50_4 hlv50_5 hlv50_6 hlv50_7
            · skip
              refine fx_qe (c := (p3).toInt = 6) (fx_f_eq q46) ?_
              show fx_W _ _ _ 147 lv45 [] _ _
              refine fx_i0 aj_d270 rfl (Nat.le_succ _) (fun _ => rfl) hlv45_3 ?_
              refine fx_n (pc' := 150) (lv' := lv45) (st' := [.int ((Int8.ofInt 9).toInt32), .int p3]) aj_d270 rfl (Nat.le_succ _) (fun _ => rfl) ?_
              refine fx_b (tgt := 161) aj_d270 rfl (Nat.le_succ _) rfl (fun q51 => ?_) (fun q51 => ?_)
              · skip
                refine fx_qe (c := (p3).toInt = 9) (fx_t_ne q51) ?_
                show fx_W _ _ _ 161 lv45 [] _ _
                refine fx_i0 aj_d270 rfl (Nat.le_succ _) (fun _ => rfl) hlv45_3 ?_
                refine fx_n (pc' := 164) (lv' := lv45) (st' := [.int ((Int8.ofInt 7).toInt32), .int p3]) aj_d270 rfl (Nat.le_succ _) (fun _ => rfl) ?_
                refine fx_b (tgt := 184) aj_d270 rfl (Nat.le_succ _) rfl (fun q52 => ?_) (fun q52 => ?_)
                · skip
                  refine fx_qe (c := (p3).toInt = 7) (fx_t_ne q52) ?_
                  show fx_W _ _ _ 184 lv45 [] _ _
                  refine fx_i0 aj_d270 rfl (Nat.le_succ _) (fun _ => rfl) hlv45_8 ?_
                  refine fx_i0 aj_d270 rfl (Nat.le_succ _) (fun _ => rfl) hlv45_6 ?_
                  refine fx_b (tgt := 196) aj_d270 rfl (Nat.le_succ _) rfl (fun q53 => ?_) (fun q53 => ?_)
                  · skip
                    refine fx_qe (c := (y6).toInt < (w44).toInt) (fx_t_le q53) ?_
                    show fx_W _ _ _ 196 lv45 [] _ _
                    refine fx_i0 aj_d270 rfl (Nat.le_succ _) (fun _ => rfl) hlv45_6 ?_
                    refine fx_s0 (j := 6) aj_d270 rfl (Nat.le_succ _) (by decide) (fun _ => rfl) ?_
                    obtain ⟨lv54, elv54⟩ : ∃ l, l = aj_set1 lv45 6 (.int y6) := ⟨_, rfl⟩
                    rw [← elv54]
                    have hlv54_0 : aj_lv lv54 0 = some (.ref 117) := fx_e1 elv54 hlv45_0 (by decide) (Or.inl (by decide))
                    have hlv54_1 : aj_lv lv54 1 = some (.int p1) := fx_e1 elv54 hlv45_1 (by decide) (Or.inl (by decide))
                    have hlv54_2 : aj_lv lv54 2 = some (.int p2) := fx_e1 elv54 hlv45_2 (by decide) (Or.inl (by decide))
                    have hlv54_3 : aj_lv lv54 3 = some (.int p3) := fx_e1 elv54 hlv45_3 (by decide) (Or.inl (by decide))
                    have hlv54_4 : aj_lv lv54 4 = some (.int p4) := fx_e1 elv54 hlv45_4 (by decide) (Or.inl (by decide))
                    have hlv54_5 : aj_lv lv54 5 = some (.int p5) := fx_e1 elv54 hlv45_5 (by decide) (Or.inr rfl)
                    have hlv54_7 : aj_lv lv54 7 = some (.int y7) := fx_e1 elv54 hlv45_7 (by decide) (Or.inl (by decide))
                    have hlv54_6 : aj_lv lv54 6 = some (.int y6) := by rw [elv54]; exact ak_set1_eq _ _ _
                    show fx_W _ _ _ 200 lv54 [] _ _
                    refine fx_incq aj_d270 rfl (Nat.le_succ _) hlv54_7 (by decide) (fun x55 ex55 => ?_)
                    obtain ⟨lv56, elv56⟩ : ∃ l, l = aj_set1 lv54 7 (.int x55) := ⟨_, rfl⟩
                    rw [← elv56]
                    have hlv56_0 : aj_lv lv56 0 = some (.ref 117) := fx_e1 elv56 hlv54_0 (by decide) (Or.inl (by decide))
                    have hlv56_1 : aj_lv lv56 1 = some (.int p1) := fx_e1 elv56 hlv54_1 (by decide) (Or.inl (by decide))
                    have hlv56_2 : aj_lv lv56 2 = some (.int p2) := fx_e1 elv56 hlv54_2 (by decide) (Or.inl (by decide))
                    have hlv56_3 : aj_lv lv56 3 = some (.int p3) := fx_e1 elv56 hlv54_3 (by decide) (Or.inl (by decide))
                    have hlv56_4 : aj_lv lv56 4 = some (.int p4) := fx_e1 elv56 hlv54_4 (by decide) (Or.inl (by decide))
                    have hlv56_5 : aj_lv lv56 5 = some (.int p5) := fx_e1 elv56 hlv54_5 (by decide) (Or.inl (by decide))
                    have hlv56_6 : aj_lv lv56 6 = some (.int y6) := fx_e1 elv56 hlv54_6 (by decide) (Or.inr rfl)
                    have hlv56_7 : aj_lv lv56 7 = some (.int x55) := by rw [elv56]; exact ak_set1_eq _ _ _
                    show fx_W _ _ _ 203 lv56 [] _ _
                    refine fx_n (pc' := 81) (lv' := lv56) (st' := []) aj_d270 rfl (Nat.le_succ _) (fun _ => rfl) ?_
                    exact (ih.2) lv56 (y6) (x55) X43  hlv56_0 hlv56_1 hlv56_2 hlv56_3 hlv56_4 hlv56_5 hlv56_6 hlv56_7
                  · skip
                    refine fx_qi (c := (y6).toInt < (w44).toInt) (fx_f_le q53) ?_
                    show fx_W _ _ _ 191 lv45 [] _ _
                    refine fx_i0 aj_d270 rfl (Nat.le_succ _) (fun _ => rfl) hlv45_8 ?_
                    refine fx_n (pc' := 198) (lv' := lv45) (st' := [.int w44]) aj_d270 rfl (Nat.le_succ _) (fun _ => rfl) ?_
                    refine fx_s0 (j := 6) aj_d270 rfl (Nat.le_succ _) (by decide) (fun _ => rfl) ?_
                    obtain ⟨lv57, elv57⟩ : ∃ l, l = aj_set1 lv45 6 (.int w44) := ⟨_, rfl⟩
                    rw [← elv57]
                    have hlv57_0 : aj_lv lv57 0 = some (.ref 117) := fx_e1 elv57 hlv45_0 (by decide) (Or.inl (by decide))
                    have hlv57_1 : aj_lv lv57 1 = some (.int p1) := fx_e1 elv57 hlv45_1 (by decide) (Or.inl (by decide))
                    have hlv57_2 : aj_lv lv57 2 = some (.int p2) := fx_e1 elv57 hlv45_2 (by decide) (Or.inl (by decide))
                    have hlv57_3 : aj_lv lv57 3 = some (.int p3) := fx_e1 elv57 hlv45_3 (by decide) (Or.inl (by decide))
                    have hlv57_4 : aj_lv lv57 4 = some (.int p4) := fx_e1 elv57 hlv45_4 (by decide) (Or.inl (by decide))
                    have hlv57_5 : aj_lv lv57 5 = some (.int p5) := fx_e1 elv57 hlv45_5 (by decide) (Or.inr rfl)
                    have hlv57_7 : aj_lv lv57 7 = some (.int y7) := fx_e1 elv57 hlv45_7 (by decide) (Or.inl (by decide))
                    have hlv57_6 : aj_lv lv57 6 = some (.int w44) := by rw [elv57]; exact ak_set1_eq _ _ _
                    show fx_W _ _ _ 200 lv57 [] _ _
                    refine fx_incq aj_d270 rfl (Nat.le_succ _) hlv57_7 (by decide) (fun x58 ex58 => ?_)
                    obtain ⟨lv59, elv59⟩ : ∃ l, l = aj_set1 lv57 7 (.int x58) := ⟨_, rfl⟩
                    rw [← elv59]
                    have hlv59_0 : aj_lv lv59 0 = some (.ref 117) := fx_e1 elv59 hlv57_0 (by decide) (Or.inl (by decide))
                    have hlv59_1 : aj_lv lv59 1 = some (.int p1) := fx_e1 elv59 hlv57_1 (by decide) (Or.inl (by decide))
                    have hlv59_2 : aj_lv lv59 2 = some (.int p2) := fx_e1 elv59 hlv57_2 (by decide) (Or.inl (by decide))
                    have hlv59_3 : aj_lv lv59 3 = some (.int p3) := fx_e1 elv59 hlv57_3 (by decide) (Or.inl (by decide))
                    have hlv59_4 : aj_lv lv59 4 = some (.int p4) := fx_e1 elv59 hlv57_4 (by decide) (Or.inl (by decide))
                    have hlv59_5 : aj_lv lv59 5 = some (.int p5) := fx_e1 elv59 hlv57_5 (by decide) (Or.inl (by decide))
                    have hlv59_6 : aj_lv lv59 6 = some (.int w44) := fx_e1 elv59 hlv57_6 (by decide) (Or.inr rfl)
                    have hlv59_7 : aj_lv lv59 7 = some (.int x58) := by rw [elv59]; exact ak_set1_eq _ _ _
                    show fx_W _ _ _ 203 lv59 [] _ _
                    refine fx_n (pc' := 81) (lv' := lv59) (st' := []) aj_d270 rfl (Nat.le_succ _) (fun _ => rfl) ?_
                    exact (ih.2) lv59 (w44) (x58) X43  hlv59_0 hlv59_1 hlv59_2 hlv59_3 hlv59_4 hlv59_5 hlv59_6 hlv59_7
                · skip
                  refine fx_qi (c := (p3).toInt = 7) (fx_f_ne q52) ?_
                  show fx_W _ _ _ 167 lv45 [] _ _
                  refine fx_i0 aj_d270 rfl (Nat.le_succ _) (fun _ => rfl) hlv45_8 ?_
                  refine fx_i0 aj_d270 rfl (Nat.le_succ _) (fun _ => rfl) hlv45_6 ?_
                  refine fx_b (tgt := 179) aj_d270 rfl (Nat.le_succ _) rfl (fun q60 => ?_) (fun q60 => ?_)
                  · skip
                    refine fx_qe (c := (w44).toInt < (y6).toInt) (fx_t_ge q60) ?_
                    show fx_W _ _ _ 179 lv45 [] _ _
                    refine fx_i0 aj_d270 rfl (Nat.le_succ _) (fun _ => rfl) hlv45_6 ?_
                    refine fx_n (pc' := 198) (lv' := lv45) (st' := [.int y6]) aj_d270 rfl (Nat.le_succ _) (fun _ => rfl) ?_
                    refine fx_s0 (j := 6) aj_d270 rfl (Nat.le_succ _) (by decide) (fun _ => rfl) ?_
                    obtain ⟨lv61, elv61⟩ : ∃ l, l = aj_set1 lv45 6 (.int y6) := ⟨_, rfl⟩
                    rw [← elv61]
                    have hlv61_0 : aj_lv lv61 0 = some (.ref 117) := fx_e1 elv61 hlv45_0 (by decide) (Or.inl (by decide))
                    have hlv61_1 : aj_lv lv61 1 = some (.int p1) := fx_e1 elv61 hlv45_1 (by decide) (Or.inl (by decide))
                    have hlv61_2 : aj_lv lv61 2 = some (.int p2) := fx_e1 elv61 hlv45_2 (by decide) (Or.inl (by decide))
                    have hlv61_3 : aj_lv lv61 3 = some (.int p3) := fx_e1 elv61 hlv45_3 (by decide) (Or.inl (by decide))
                    have hlv61_4 : aj_lv lv61 4 = some (.int p4) := fx_e1 elv61 hlv45_4 (by decide) (Or.inl (by decide))
                    have hlv61_5 : aj_lv lv61 5 = some (.int p5) := fx_e1 elv61 hlv45_5 (by decide) (Or.inr rfl)
                    have hlv61_7 : aj_lv lv61 7 = some (.int y7) := fx_e1 elv61 hlv45_7 (by decide) (Or.inl (by decide))
                    have hlv61_6 : aj_lv lv61 6 = some (.int y6) := by rw [elv61]; exact ak_set1_eq _ _ _
                    show fx_W _ _ _ 200 lv61 [] _ _
                    refine fx_incq aj_d270 rfl (Nat.le_succ _) hlv61_7 (by decide) (fun x62 ex62 => ?_)
                    obtain ⟨lv63, elv63⟩ : ∃ l, l = aj_set1 lv61 7 (.int x62) := ⟨_, rfl⟩
                    rw [← elv63]
                    have hlv63_0 : aj_lv lv63 0 = some (.ref 117) := fx_e1 elv63 hlv61_0 (by decide) (Or.inl (by decide))
                    have hlv63_1 : aj_lv lv63 1 = some (.int p1) := fx_e1 elv63 hlv61_1 (by decide) (Or.inl (by decide))
                    have hlv63_2 : aj_lv lv63 2 = some (.int p2) := fx_e1 elv63 hlv61_2 (by decide) (Or.inl (by decide))
                    have hlv63_3 : aj_lv lv63 3 = some (.int p3) := fx_e1 elv63 hlv61_3 (by decide) (Or.inl (by decide))
                    have hlv63_4 : aj_lv lv63 4 = some (.int p4) := fx_e1 elv63 hlv61_4 (by decide) (Or.inl (by decide))
                    have hlv63_5 : aj_lv lv63 5 = some (.int p5) := fx_e1 elv63 hlv61_5 (by decide) (Or.inl (by decide))
                    have hlv63_6 : aj_lv lv63 6 = some (.int y6) := fx_e1 elv63 hlv61_6 (by decide) (Or.inr rfl)
                    have hlv63_7 : aj_lv lv63 7 = some (.int x62) := by rw [elv63]; exact ak_set1_eq _ _ _
                    show fx_W _ _ _ 203 lv63 [] _ _
                    refine fx_n (pc' := 81) (lv' := lv63) (st' := []) aj_d270 rfl (Nat.le_succ _) (fun _ => rfl) ?_
                    exact (ih.2) lv63 (y6) (x62) X43  hlv63_0 hlv63_1 hlv63_2 hlv63_3 hlv63_4 hlv63_5 hlv63_6 hlv63_7
                  · skip
                    refine fx_qi (c := (w44).toInt < (y6).toInt) (fx_f_ge q60) ?_
                    show fx_W _ _ _ 174 lv45 [] _ _
                    refine fx_i0 aj_d270 rfl (Nat.le_succ _) (fun _ => rfl) hlv45_8 ?_
                    refine fx_n (pc' := 198) (lv' := lv45) (st' := [.int w44]) aj_d270 rfl (Nat.le_succ _) (fun _ => rfl) ?_
                    refine fx_s0 (j := 6) aj_d270 rfl (Nat.le_succ _) (by decide) (fun _ => rfl) ?_
                    obtain ⟨lv64, elv64⟩ : ∃ l, l = aj_set1 lv45 6 (.int w44) := ⟨_, rfl⟩
                    rw [← elv64]
                    have hlv64_0 : aj_lv lv64 0 = some (.ref 117) := fx_e1 elv64 hlv45_0 (by decide) (Or.inl (by decide))
                    have hlv64_1 : aj_lv lv64 1 = some (.int p1) := fx_e1 elv64 hlv45_1 (by decide) (Or.inl (by decide))
                    have hlv64_2 : aj_lv lv64 2 = some (.int p2) := fx_e1 elv64 hlv45_2 (by decide) (Or.inl (by decide))
                    have hlv64_3 : aj_lv lv64 3 = some (.int p3) := fx_e1 elv64 hlv45_3 (by decide) (Or.inl (by decide))
                    have hlv64_4 : aj_lv lv64 4 = some (.int p4) := fx_e1 elv64 hlv45_4 (by decide) (Or.inl (by decide))
                    have hlv64_5 : aj_lv lv64 5 = some (.int p5) := fx_e1 elv64 hlv45_5 (by decide) (Or.inr rfl)
                    have hlv64_7 : aj_lv lv64 7 = some (.int y7) := fx_e1 elv64 hlv45_7 (by decide) (Or.inl (by decide))
                    have hlv64_6 : aj_lv lv64 6 = some (.int w44) := by rw [elv64]; exact ak_set1_eq _ _ _
                    show fx_W _ _ _ 200 lv64 [] _ _
                    refine fx_incq aj_d270 rfl (Nat.le_succ _) hlv64_7 (by decide) (fun x65 ex65 => ?_)
                    obtain ⟨lv66, elv66⟩ : ∃ l, l = aj_set1 lv64 7 (.int x65) := ⟨_, rfl⟩
                    rw [← elv66]
                    have hlv66_0 : aj_lv lv66 0 = some (.ref 117) := fx_e1 elv66 hlv64_0 (by decide) (Or.inl (by decide))
                    have hlv66_1 : aj_lv lv66 1 = some (.int p1) := fx_e1 elv66 hlv64_1 (by decide) (Or.inl (by decide))
                    have hlv66_2 : aj_lv lv66 2 = some (.int p2) := fx_e1 elv66 hlv64_2 (by decide) (Or.inl (by decide))
                    have hlv66_3 : aj_lv lv66 3 = some (.int p3) := fx_e1 elv66 hlv64_3 (by decide) (Or.inl (by decide))
                    have hlv66_4 : aj_lv lv66 4 = some (.int p4) := fx_e1 elv66 hlv64_4 (by decide) (Or.inl (by decide))
                    have hlv66_5 : aj_lv lv66 5 = some (.int p5) := fx_e1 elv66 hlv64_5 (by decide) (Or.inl (by decide))
                    have hlv66_6 : aj_lv lv66 6 = some (.int w44) := fx_e1 elv66 hlv64_6 (by decide) (Or.inr rfl)
                    have hlv66_7 : aj_lv lv66 7 = some (.int x65) := by rw [elv66]; exact ak_set1_eq _ _ _
                    show fx_W _ _ _ 203 lv66 [] _ _
                    refine fx_n (pc' := 81) (lv' := lv66) (st' := []) aj_d270 rfl (Nat.le_succ _) (fun _ => rfl) ?_
                    exact (ih.2) lv66 (w44) (x65) X43  hlv66_0 hlv66_1 hlv66_2 hlv66_3 hlv66_4 hlv66_5 hlv66_6 hlv66_7
              · skip
                refine fx_qi (c := (p3).toInt = 9) (fx_f_ne q51) ?_
                show fx_W _ _ _ 153 lv45 [] _ _
                refine fx_i0 aj_d270 rfl (Nat.le_succ _) (fun _ => rfl) hlv45_6 ?_
                refine fx_i0 aj_d270 rfl (Nat.le_succ _) (fun _ => rfl) hlv45_8 ?_
                refine fx_n (pc' := 158) (lv' := lv45) (st' := [.int (y6 + w44)]) aj_d270 rfl (Nat.le_succ _) (fun _ => rfl) ?_
                refine fx_n (pc' := 198) (lv' := lv45) (st' := [.int (y6 + w44)]) aj_d270 rfl (Nat.le_succ _) (fun _ => rfl) ?_
                refine fx_qxI (fun x67 ex67 => ?_)
                refine fx_s0 (j := 6) aj_d270 rfl (Nat.le_succ _) (by decide) (fun _ => rfl) ?_
                obtain ⟨lv68, elv68⟩ : ∃ l, l = aj_set1 lv45 6 (.int x67) := ⟨_, rfl⟩
                rw [← elv68]
                have hlv68_0 : aj_lv lv68 0 = some (.ref 117) := fx_e1 elv68 hlv45_0 (by decide) (Or.inl (by decide))
                have hlv68_1 : aj_lv lv68 1 = some (.int p1) := fx_e1 elv68 hlv45_1 (by decide) (Or.inl (by decide))
                have hlv68_2 : aj_lv lv68 2 = some (.int p2) := fx_e1 elv68 hlv45_2 (by decide) (Or.inl (by decide))
                have hlv68_3 : aj_lv lv68 3 = some (.int p3) := fx_e1 elv68 hlv45_3 (by decide) (Or.inl (by decide))
                have hlv68_4 : aj_lv lv68 4 = some (.int p4) := fx_e1 elv68 hlv45_4 (by decide) (Or.inl (by decide))
                have hlv68_5 : aj_lv lv68 5 = some (.int p5) := fx_e1 elv68 hlv45_5 (by decide) (Or.inr rfl)
                have hlv68_7 : aj_lv lv68 7 = some (.int y7) := fx_e1 elv68 hlv45_7 (by decide) (Or.inl (by decide))
                have hlv68_6 : aj_lv lv68 6 = some (.int x67) := by rw [elv68]; exact ak_set1_eq _ _ _
                show fx_W _ _ _ 200 lv68 [] _ _
                refine fx_incq aj_d270 rfl (Nat.le_succ _) hlv68_7 (by decide) (fun x69 ex69 => ?_)
                obtain ⟨lv70, elv70⟩ : ∃ l, l = aj_set1 lv68 7 (.int x69) := ⟨_, rfl⟩
                rw [← elv70]
                have hlv70_0 : aj_lv lv70 0 = some (.ref 117) := fx_e1 elv70 hlv68_0 (by decide) (Or.inl (by decide))
                have hlv70_1 : aj_lv lv70 1 = some (.int p1) := fx_e1 elv70 hlv68_1 (by decide) (Or.inl (by decide))
                have hlv70_2 : aj_lv lv70 2 = some (.int p2) := fx_e1 elv70 hlv68_2 (by decide) (Or.inl (by decide))
                have hlv70_3 : aj_lv lv70 3 = some (.int p3) := fx_e1 elv70 hlv68_3 (by decide) (Or.inl (by decide))
                have hlv70_4 : aj_lv lv70 4 = some (.int p4) := fx_e1 elv70 hlv68_4 (by decide) (Or.inl (by decide))
                have hlv70_5 : aj_lv lv70 5 = some (.int p5) := fx_e1 elv70 hlv68_5 (by decide) (Or.inl (by decide))
                have hlv70_6 : aj_lv lv70 6 = some (.int x67) := fx_e1 elv70 hlv68_6 (by decide) (Or.inr rfl)
                have hlv70_7 : aj_lv lv70 7 = some (.int x69) := by rw [elv70]; exact ak_set1_eq _ _ _
                show fx_W _ _ _ 203 lv70 [] _ _
                refine fx_n (pc' := 81) (lv' := lv70) (st' := []) aj_d270 rfl (Nat.le_succ _) (fun _ => rfl) ?_
                exact (ih.2) lv70 (x67) (x69) X43  hlv70_0 hlv70_1 hlv70_2 hlv70_3 hlv70_4 hlv70_5 hlv70_6 hlv70_7
          · skip
            refine fx_qi (c := (p3).toInt = 6) (fx_f_ne q40) ?_
            show fx_W _ _ _ 119 lv [] _ _
            refine fx_n (pc' := 120) (lv' := lv) (st' := [.int (Int32.ofInt 1)]) aj_d270 rfl (Nat.le_succ _) (fun _ => rfl) ?_
            refine fx_n (pc' := 139) (lv' := lv) (st' := [.int (Int32.ofInt 1)]) aj_d270 rfl (Nat.le_succ _) (fun _ => rfl) ?_
            refine fx_s0 (j := 8) aj_d270 rfl (Nat.le_succ _) (by decide) (fun _ => rfl) ?_
            obtain ⟨lv71, elv71⟩ : ∃ l, l = aj_set1 lv 8 (.int (Int32.ofInt 1)) := ⟨_, rfl⟩
            rw [← elv71]
            have hlv71_0 : aj_lv lv71 0 = some (.ref 117) := fx_e1 elv71 hlv_0 (by decide) (Or.inl (by decide))
            have hlv71_1 : aj_lv lv71 1 = some (.int p1) := fx_e1 elv71 hlv_1 (by decide) (Or.inl (by decide))
            have hlv71_2 : aj_lv lv71 2 = some (.int p2) := fx_e1 elv71 hlv_2 (by decide) (Or.inl (by decide))
            have hlv71_3 : aj_lv lv71 3 = some (.int p3) := fx_e1 elv71 hlv_3 (by decide) (Or.inl (by decide))
            have hlv71_4 : aj_lv lv71 4 = some (.int p4) := fx_e1 elv71 hlv_4 (by decide) (Or.inl (by decide))
            have hlv71_5 : aj_lv lv71 5 = some (.int p5) := fx_e1 elv71 hlv_5 (by decide) (Or.inl (by decide))
            have hlv71_6 : aj_lv lv71 6 = some (.int y6) := fx_e1 elv71 hlv_6 (by decide) (Or.inl (by decide))
            have hlv71_7 : aj_lv lv71 7 = some (.int y7) := fx_e1 elv71 hlv_7 (by decide) (Or.inr rfl)
            have hlv71_8 : aj_lv lv71 8 = some (.int (Int32.ofInt 1)) := by rw [elv71]; exact ak_set1_eq _ _ _
            show fx_W _ _ _ 141 lv71 [] _ _
            refine fx_i0 aj_d270 rfl (Nat.le_succ _) (fun _ => rfl) hlv71_3 ?_
            refine fx_n (pc' := 144) (lv' := lv71) (st' := [.int ((Int8.ofInt 6).toInt32), .int p3]) aj_d270 rfl (Nat.le_succ _) (fun _ => rfl) ?_
            refine fx_b (tgt := 153) aj_d270 rfl (Nat.le_succ _) rfl (fun q72 => ?_) (fun q72 => ?_)
            · skip
              refine fx_qi (c := (p3).toInt = 6) (fx_t_eq q72) ?_
              show fx_W _ _ _ 153 lv71 [] _ _
              refine fx_i0 aj_d270 rfl (Nat.le_succ _) (fun _ => rfl) hlv71_6 ?_
              refine fx_i0 aj_d270 rfl (Nat.le_succ _) (fun _ => rfl) hlv71_8 ?_
              refine fx_n (pc' := 158) (lv' := lv71) (st' := [.int (y6 + (Int32.ofInt 1))]) aj_d270 rfl (Nat.le_succ _) (fun _ => rfl) ?_
              refine fx_n (pc' := 198) (lv' := lv71) (st' := [.int (y6 + (Int32.ofInt 1))]) aj_d270 rfl (Nat.le_succ _) (fun _ => rfl) ?_
              refine fx_qxI (fun x73 ex73 => ?_)
              refine fx_s0 (j := 6) aj_d270 rfl (Nat.le_succ _) (by decide) (fun _ => rfl) ?_
              obtain ⟨lv74, elv74⟩ : ∃ l, l = aj_set1 lv71 6 (.int x73) := ⟨_, rfl⟩
              rw [← elv74]
              have hlv74_0 : aj_lv lv74 0 = some (.ref 117) := fx_e1 elv74 hlv71_0 (by decide) (Or.inl (by decide))
              have hlv74_1 : aj_lv lv74 1 = some (.int p1) := fx_e1 elv74 hlv71_1 (by decide) (Or.inl (by decide))
              have hlv74_2 : aj_lv lv74 2 = some (.int p2) := fx_e1 elv74 hlv71_2 (by decide) (Or.inl (by decide))
              have hlv74_3 : aj_lv lv74 3 = some (.int p3) := fx_e1 elv74 hlv71_3 (by decide) (Or.inl (by decide))
              have hlv74_4 : aj_lv lv74 4 = some (.int p4) := fx_e1 elv74 hlv71_4 (by decide) (Or.inl (by decide))
              have hlv74_5 : aj_lv lv74 5 = some (.int p5) := fx_e1 elv74 hlv71_5 (by decide) (Or.inr rfl)
              have hlv74_7 : aj_lv lv74 7 = some (.int y7) := fx_e1 elv74 hlv71_7 (by decide) (Or.inl (by decide))
              have hlv74_6 : aj_lv lv74 6 = some (.int x73) := by rw [elv74]; exact ak_set1_eq _ _ _
              show fx_W _ _ _ 200 lv74 [] _ _
              refine fx_incq aj_d270 rfl (Nat.le_succ _) hlv74_7 (by decide) (fun x75 ex75 => ?_)
              obtain ⟨lv76, elv76⟩ : ∃ l, l = aj_set1 lv74 7 (.int x75) := ⟨_, rfl⟩
              rw [← elv76]
              have hlv76_0 : aj_lv lv76 0 = some (.ref 117) := fx_e1 elv76 hlv74_0 (by decide) (Or.inl (by decide))
              have hlv76_1 : aj_lv lv76 1 = some (.int p1) := fx_e1 elv76 hlv74_1 (by decide) (Or.inl (by decide))
              have hlv76_2 : aj_lv lv76 2 = some (.int p2) := fx_e1 elv76 hlv74_2 (by decide) (Or.inl (by decide))
              have hlv76_3 : aj_lv lv76 3 = some (.int p3) := fx_e1 elv76 hlv74_3 (by decide) (Or.inl (by decide))
              have hlv76_4 : aj_lv lv76 4 = some (.int p4) := fx_e1 elv76 hlv74_4 (by decide) (Or.inl (by decide))
              have hlv76_5 : aj_lv lv76 5 = some (.int p5) := fx_e1 elv76 hlv74_5 (by decide) (Or.inl (by decide))
              have hlv76_6 : aj_lv lv76 6 = some (.int x73) := fx_e1 elv76 hlv74_6 (by decide) (Or.inr rfl)
              have hlv76_7 : aj_lv lv76 7 = some (.int x75) := by rw [elv76]; exact ak_set1_eq _ _ _
              show fx_W _ _ _ 203 lv76 [] _ _
              refine fx_n (pc' := 81) (lv' := lv76) (st' := []) aj_d270 rfl (Nat.le_succ _) (fun _ => rfl) ?_
              exact (ih.2) lv76 (x73) (x75) X35  hlv76_0 hlv76_1 hlv76_2 hlv76_3 hlv76_4 hlv76_5 hlv76_6 hlv76_7
            · skip
              refine fx_qe (c := (p3).toInt = 6) (fx_f_eq q72) ?_
              show fx_W _ _ _ 147 lv71 [] _ _
              refine fx_i0 aj_d270 rfl (Nat.le_succ _) (fun _ => rfl) hlv71_3 ?_
              refine fx_n (pc' := 150) (lv' := lv71) (st' := [.int ((Int8.ofInt 9).toInt32), .int p3]) aj_d270 rfl (Nat.le_succ _) (fun _ => rfl) ?_
              refine fx_b (tgt := 161) aj_d270 rfl (Nat.le_succ _) rfl (fun q77 => ?_) (fun q77 => ?_)
              · skip
                refine fx_qe (c := (p3).toInt = 9) (fx_t_ne q77) ?_
                show fx_W _ _ _ 161 lv71 [] _ _
                refine fx_i0 aj_d270 rfl (Nat.le_succ _) (fun _ => rfl) hlv71_3 ?_
                refine fx_n (pc' := 164) (lv' := lv71) (st' := [.int ((Int8.ofInt 7).toInt32), .int p3]) aj_d270 rfl (Nat.le_succ _) (fun _ => rfl) ?_
                refine fx_b (tgt := 184) aj_d270 rfl (Nat.le_succ _) rfl (fun q78 => ?_) (fun q78 => ?_)
                · skip
                  refine fx_qe (c := (p3).toInt = 7) (fx_t_ne q78) ?_
                  show fx_W _ _ _ 184 lv71 [] _ _
                  refine fx_i0 aj_d270 rfl (Nat.le_succ _) (fun _ => rfl) hlv71_8 ?_
                  refine fx_i0 aj_d270 rfl (Nat.le_succ _) (fun _ => rfl) hlv71_6 ?_
                  refine fx_b (tgt := 196) aj_d270 rfl (Nat.le_succ _) rfl (fun q79 => ?_) (fun q79 => ?_)
                  · skip
                    refine fx_qe (c := (y6).toInt < 1) (fx_t_le q79) ?_
                    show fx_W _ _ _ 196 lv71 [] _ _
                    refine fx_i0 aj_d270 rfl (Nat.le_succ _) (fun _ => rfl) hlv71_6 ?_
                    refine fx_s0 (j := 6) aj_d270 rfl (Nat.le_succ _) (by decide) (fun _ => rfl) ?_
                    obtain ⟨lv80, elv80⟩ : ∃ l, l = aj_set1 lv71 6 (.int y6) := ⟨_, rfl⟩
                    rw [← elv80]
                    have hlv80_0 : aj_lv lv80 0 = some (.ref 117) := fx_e1 elv80 hlv71_0 (by decide) (Or.inl (by decide))
                    have hlv80_1 : aj_lv lv80 1 = some (.int p1) := fx_e1 elv80 hlv71_1 (by decide) (Or.inl (by decide))
                    have hlv80_2 : aj_lv lv80 2 = some (.int p2) := fx_e1 elv80 hlv71_2 (by decide) (Or.inl (by decide))
                    have hlv80_3 : aj_lv lv80 3 = some (.int p3) := fx_e1 elv80 hlv71_3 (by decide) (Or.inl (by decide))
                    have hlv80_4 : aj_lv lv80 4 = some (.int p4) := fx_e1 elv80 hlv71_4 (by decide) (Or.inl (by decide))
                    have hlv80_5 : aj_lv lv80 5 = some (.int p5) := fx_e1 elv80 hlv71_5 (by decide) (Or.inr rfl)
                    have hlv80_7 : aj_lv lv80 7 = some (.int y7) := fx_e1 elv80 hlv71_7 (by decide) (Or.inl (by decide))
                    have hlv80_6 : aj_lv lv80 6 = some (.int y6) := by rw [elv80]; exact ak_set1_eq _ _ _
                    show fx_W _ _ _ 200 lv80 [] _ _
                    refine fx_incq aj_d270 rfl (Nat.le_succ _) hlv80_7 (by decide) (fun x81 ex81 => ?_)
                    obtain ⟨lv82, elv82⟩ : ∃ l, l = aj_set1 lv80 7 (.int x81) := ⟨_, rfl⟩
                    rw [← elv82]
                    have hlv82_0 : aj_lv lv82 0 = some (.ref 117) := fx_e1 elv82 hlv80_0 (by decide) (Or.inl (by decide))
                    have hlv82_1 : aj_lv lv82 1 = some (.int p1) := fx_e1 elv82 hlv80_1 (by decide) (Or.inl (by decide))
                    have hlv82_2 : aj_lv lv82 2 = some (.int p2) := fx_e1 elv82 hlv80_2 (by decide) (Or.inl (by decide))
                    have hlv82_3 : aj_lv lv82 3 = some (.int p3) := fx_e1 elv82 hlv80_3 (by decide) (Or.inl (by decide))
                    have hlv82_4 : aj_lv lv82 4 = some (.int p4) := fx_e1 elv82 hlv80_4 (by decide) (Or.inl (by decide))
                    have hlv82_5 : aj_lv lv82 5 = some (.int p5) := fx_e1 elv82 hlv80_5 (by decide) (Or.inl (by decide))
                    have hlv82_6 : aj_lv lv82 6 = some (.int y6) := fx_e1 elv82 hlv80_6 (by decide) (Or.inr rfl)
                    have hlv82_7 : aj_lv lv82 7 = some (.int x81) := by rw [elv82]; exact ak_set1_eq _ _ _
                    show fx_W _ _ _ 203 lv82 [] _ _
                    refine fx_n (pc' := 81) (lv' := lv82) (st' := []) aj_d270 rfl (Nat.le_succ _) (fun _ => rfl) ?_
                    exact (ih.2) lv82 (y6) (x81) X35  hlv82_0 hlv82_1 hlv82_2 hlv82_3 hlv82_4 hlv82_5 hlv82_6 hlv82_7
                  · skip
                    refine fx_qi (c := (y6).toInt < 1) (fx_f_le q79) ?_
                    show fx_W _ _ _ 191 lv71 [] _ _
                    refine fx_i0 aj_d270 rfl (Nat.le_succ _) (fun _ => rfl) hlv71_8 ?_
                    refine fx_n (pc' := 198) (lv' := lv71) (st' := [.int (Int32.ofInt 1)]) aj_d270 rfl (Nat.le_succ _) (fun _ => rfl) ?_
                    refine fx_s0 (j := 6) aj_d270 rfl (Nat.le_succ _) (by decide) (fun _ => rfl) ?_
                    obtain ⟨lv83, elv83⟩ : ∃ l, l = aj_set1 lv71 6 (.int (Int32.ofInt 1)) := ⟨_, rfl⟩
                    rw [← elv83]
                    have hlv83_0 : aj_lv lv83 0 = some (.ref 117) := fx_e1 elv83 hlv71_0 (by decide) (Or.inl (by decide))
                    have hlv83_1 : aj_lv lv83 1 = some (.int p1) := fx_e1 elv83 hlv71_1 (by decide) (Or.inl (by decide))
                    have hlv83_2 : aj_lv lv83 2 = some (.int p2) := fx_e1 elv83 hlv71_2 (by decide) (Or.inl (by decide))
                    have hlv83_3 : aj_lv lv83 3 = some (.int p3) := fx_e1 elv83 hlv71_3 (by decide) (Or.inl (by decide))
                    have hlv83_4 : aj_lv lv83 4 = some (.int p4) := fx_e1 elv83 hlv71_4 (by decide) (Or.inl (by decide))
                    have hlv83_5 : aj_lv lv83 5 = some (.int p5) := fx_e1 elv83 hlv71_5 (by decide) (Or.inr rfl)
                    have hlv83_7 : aj_lv lv83 7 = some (.int y7) := fx_e1 elv83 hlv71_7 (by decide) (Or.inl (by decide))
                    have hlv83_6 : aj_lv lv83 6 = some (.int (Int32.ofInt 1)) := by rw [elv83]; exact ak_set1_eq _ _ _
                    show fx_W _ _ _ 200 lv83 [] _ _
                    refine fx_incq aj_d270 rfl (Nat.le_succ _) hlv83_7 (by decide) (fun x84 ex84 => ?_)
                    obtain ⟨lv85, elv85⟩ : ∃ l, l = aj_set1 lv83 7 (.int x84) := ⟨_, rfl⟩
                    rw [← elv85]
                    have hlv85_0 : aj_lv lv85 0 = some (.ref 117) := fx_e1 elv85 hlv83_0 (by decide) (Or.inl (by decide))
                    have hlv85_1 : aj_lv lv85 1 = some (.int p1) := fx_e1 elv85 hlv83_1 (by decide) (Or.inl (by decide))
                    have hlv85_2 : aj_lv lv85 2 = some (.int p2) := fx_e1 elv85 hlv83_2 (by decide) (Or.inl (by decide))
                    have hlv85_3 : aj_lv lv85 3 = some (.int p3) := fx_e1 elv85 hlv83_3 (by decide) (Or.inl (by decide))
                    have hlv85_4 : aj_lv lv85 4 = some (.int p4) := fx_e1 elv85 hlv83_4 (by decide) (Or.inl (by decide))
                    have hlv85_5 : aj_lv lv85 5 = some (.int p5) := fx_e1 elv85 hlv83_5 (by decide) (Or.inl (by decide))
                    have hlv85_6 : aj_lv lv85 6 = some (.int (Int32.ofInt 1)) := fx_e1 elv85 hlv83_6 (by decide) (Or.inr rfl)
                    have hlv85_7 : aj_lv lv85 7 = some (.int x84) := by rw [elv85]; exact ak_set1_eq _ _ _
                    show fx_W _ _ _ 203 lv85 [] _ _
                    refine fx_n (pc' := 81) (lv' := lv85) (st' := []) aj_d270 rfl (Nat.le_succ _) (fun _ => rfl) ?_
                    exact (ih.2) lv85 ((Int32.ofInt 1)) (x84) X35  hlv85_0 hlv85_1 hlv85_2 hlv85_3 hlv85_4 hlv85_5 hlv85_6 hlv85_7
                · skip
                  refine fx_qi (c := (p3).toInt = 7) (fx_f_ne q78) ?_
                  show fx_W _ _ _ 167 lv71 [] _ _
                  refine fx_i0 aj_d270 rfl (Nat.le_succ _) (fun _ => rfl) hlv71_8 ?_
                  refine fx_i0 aj_d270 rfl (Nat.le_succ _) (fun _ => rfl) hlv71_6 ?_
                  refine fx_b (tgt := 179) aj_d270 rfl (Nat.le_succ _) rfl (fun q86 => ?_) (fun q86 => ?_)
                  · skip
                    refine fx_qe (c := 1 < (y6).toInt) (fx_t_ge q86) ?_
                    show fx_W _ _ _ 179 lv71 [] _ _
                    refine fx_i0 aj_d270 rfl (Nat.le_succ _) (fun _ => rfl) hlv71_6 ?_
                    refine fx_n (pc' := 198) (lv' := lv71) (st' := [.int y6]) aj_d270 rfl (Nat.le_succ _) (fun _ => rfl) ?_
                    refine fx_s0 (j := 6) aj_d270 rfl (Nat.le_succ _) (by decide) (fun _ => rfl) ?_
                    obtain ⟨lv87, elv87⟩ : ∃ l, l = aj_set1 lv71 6 (.int y6) := ⟨_, rfl⟩
                    rw [← elv87]
                    have hlv87_0 : aj_lv lv87 0 = some (.ref 117) := fx_e1 elv87 hlv71_0 (by decide) (Or.inl (by decide))
                    have hlv87_1 : aj_lv lv87 1 = some (.int p1) := fx_e1 elv87 hlv71_1 (by decide) (Or.inl (by decide))
                    have hlv87_2 : aj_lv lv87 2 = some (.int p2) := fx_e1 elv87 hlv71_2 (by decide) (Or.inl (by decide))
                    have hlv87_3 : aj_lv lv87 3 = some (.int p3) := fx_e1 elv87 hlv71_3 (by decide) (Or.inl (by decide))
                    have hlv87_4 : aj_lv lv87 4 = some (.int p4) := fx_e1 elv87 hlv71_4 (by decide) (Or.inl (by decide))
                    have hlv87_5 : aj_lv lv87 5 = some (.int p5) := fx_e1 elv87 hlv71_5 (by decide) (Or.inr rfl)
                    have hlv87_7 : aj_lv lv87 7 = some (.int y7) := fx_e1 elv87 hlv71_7 (by decide) (Or.inl (by decide))
                    have hlv87_6 : aj_lv lv87 6 = some (.int y6) := by rw [elv87]; exact ak_set1_eq _ _ _
                    show fx_W _ _ _ 200 lv87 [] _ _
                    refine fx_incq aj_d270 rfl (Nat.le_succ _) hlv87_7 (by decide) (fun x88 ex88 => ?_)
                    obtain ⟨lv89, elv89⟩ : ∃ l, l = aj_set1 lv87 7 (.int x88) := ⟨_, rfl⟩
                    rw [← elv89]
                    have hlv89_0 : aj_lv lv89 0 = some (.ref 117) := fx_e1 elv89 hlv87_0 (by decide) (Or.inl (by decide))
                    have hlv89_1 : aj_lv lv89 1 = some (.int p1) := fx_e1 elv89 hlv87_1 (by decide) (Or.inl (by decide))
                    have hlv89_2 : aj_lv lv89 2 = some (.int p2) := fx_e1 elv89 hlv87_2 (by decide) (Or.inl (by decide))
                    have hlv89_3 : aj_lv lv89 3 = some (.int p3) := fx_e1 elv89 hlv87_3 (by decide) (Or.inl (by decide))
                    have hlv89_4 : aj_lv lv89 4 = some (.int p4) := fx_e1 elv89 hlv87_4 (by decide) (Or.inl (by decide))
                    have hlv89_5 : aj_lv lv89 5 = some (.int p5) := fx_e1 elv89 hlv87_5 (by decide) (Or.inl (by decide))
                    have hlv89_6 : aj_lv lv89 6 = some (.int y6) := fx_e1 elv89 hlv87_6 (by decide) (Or.inr rfl)
                    have hlv89_7 : aj_lv lv89 7 = some (.int x88) := by rw [elv89]; exact ak_set1_eq _ _ _
                    show fx_W _ _ _ 203 lv89 [] _ _
                    refine fx_n (pc' := 81) (lv' := lv89) (st' := []) aj_d270 rfl (Nat.le_succ _) (fun _ => rfl) ?_
                    exact (ih.2) lv89 (y6) (x88) X35  hlv89_0 hlv89_1 hlv89_2 hlv89_3 hlv89_4 hlv89_5 hlv89_6 hlv89_7
                  · skip
                    refine fx_qi (c := 1 < (y6).toInt) (fx_f_ge q86) ?_
                    show fx_W _ _ _ 174 lv71 [] _ _
                    refine fx_i0 aj_d270 rfl (Nat.le_succ _) (fun _ => rfl) hlv71_8 ?_
                    refine fx_n (pc' := 198) (lv' := lv71) (st' := [.int (Int32.ofInt 1)]) aj_d270 rfl (Nat.le_succ _) (fun _ => rfl) ?_
                    refine fx_s0 (j := 6) aj_d270 rfl (Nat.le_succ _) (by decide) (fun _ => rfl) ?_
                    obtain ⟨lv90, elv90⟩ : ∃ l, l = aj_set1 lv71 6 (.int (Int32.ofInt 1)) := ⟨_, rfl⟩
                    rw [← elv90]
                    have hlv90_0 : aj_lv lv90 0 = some (.ref 117) := fx_e1 elv90 hlv71_0 (by decide) (Or.inl (by decide))
                    have hlv90_1 : aj_lv lv90 1 = some (.int p1) := fx_e1 elv90 hlv71_1 (by decide) (Or.inl (by decide))
                    have hlv90_2 : aj_lv lv90 2 = some (.int p2) := fx_e1 elv90 hlv71_2 (by decide) (Or.inl (by decide))
                    have hlv90_3 : aj_lv lv90 3 = some (.int p3) := fx_e1 elv90 hlv71_3 (by decide) (Or.inl (by decide))
                    have hlv90_4 : aj_lv lv90 4 = some (.int p4) := fx_e1 elv90 hlv71_4 (by decide) (Or.inl (by decide))
                    have hlv90_5 : aj_lv lv90 5 = some (.int p5) := fx_e1 elv90 hlv71_5 (by decide) (Or.inr rfl)
                    have hlv90_7 : aj_lv lv90 7 = some (.int y7) := fx_e1 elv90 hlv71_7 (by decide) (Or.inl (by decide))
                    have hlv90_6 : aj_lv lv90 6 = some (.int (Int32.ofInt 1)) := by rw [elv90]; exact ak_set1_eq _ _ _
                    show fx_W _ _ _ 200 lv90 [] _ _
                    refine fx_incq aj_d270 rfl (Nat.le_succ _) hlv90_7 (by decide) (fun x91 ex91 => ?_)
                    obtain ⟨lv92, elv92⟩ : ∃ l, l = aj_set1 lv90 7 (.int x91) := ⟨_, rfl⟩
                    rw [← elv92]
                    have hlv92_0 : aj_lv lv92 0 = some (.ref 117) := fx_e1 elv92 hlv90_0 (by decide) (Or.inl (by decide))
                    have hlv92_1 : aj_lv lv92 1 = some (.int p1) := fx_e1 elv92 hlv90_1 (by decide) (Or.inl (by decide))
                    have hlv92_2 : aj_lv lv92 2 = some (.int p2) := fx_e1 elv92 hlv90_2 (by decide) (Or.inl (by decide))
                    have hlv92_3 : aj_lv lv92 3 = some (.int p3) := fx_e1 elv92 hlv90_3 (by decide) (Or.inl (by decide))
                    have hlv92_4 : aj_lv lv92 4 = some (.int p4) := fx_e1 elv92 hlv90_4 (by decide) (Or.inl (by decide))
                    have hlv92_5 : aj_lv lv92 5 = some (.int p5) := fx_e1 elv92 hlv90_5 (by decide) (Or.inl (by decide))
                    have hlv92_6 : aj_lv lv92 6 = some (.int (Int32.ofInt 1)) := fx_e1 elv92 hlv90_6 (by decide) (Or.inr rfl)
                    have hlv92_7 : aj_lv lv92 7 = some (.int x91) := by rw [elv92]; exact ak_set1_eq _ _ _
                    show fx_W _ _ _ 203 lv92 [] _ _
                    refine fx_n (pc' := 81) (lv' := lv92) (st' := []) aj_d270 rfl (Nat.le_succ _) (fun _ => rfl) ?_
                    exact (ih.2) lv92 ((Int32.ofInt 1)) (x91) X35  hlv92_0 hlv92_1 hlv92_2 hlv92_3 hlv92_4 hlv92_5 hlv92_6 hlv92_7
              · skip
                refine fx_qi (c := (p3).toInt = 9) (fx_f_ne q77) ?_
                show fx_W _ _ _ 153 lv71 [] _ _
                refine fx_i0 aj_d270 rfl (Nat.le_succ _) (fun _ => rfl) hlv71_6 ?_
                refine fx_i0 aj_d270 rfl (Nat.le_succ _) (fun _ => rfl) hlv71_8 ?_
                refine fx_n (pc' := 158) (lv' := lv71) (st' := [.int (y6 + (Int32.ofInt 1))]) aj_d270 rfl (Nat.le_succ _) (fun _ => rfl) ?_
                refine fx_n (pc' := 198) (lv' := lv71) (st' := [.int (y6 + (Int32.ofInt 1))]) aj_d270 rfl (Nat.le_succ _) (fun _ => rfl) ?_
                refine fx_qxI (fun x93 ex93 => ?_)
                refine fx_s0 (j := 6) aj_d270 rfl (Nat.le_succ _) (by decide) (fun _ => rfl) ?_
                obtain ⟨lv94, elv94⟩ : ∃ l, l = aj_set1 lv71 6 (.int x93) := ⟨_, rfl⟩
                rw [← elv94]
                have hlv94_0 : aj_lv lv94 0 = some (.ref 117) := fx_e1 elv94 hlv71_0 (by decide) (Or.inl (by decide))
                have hlv94_1 : aj_lv lv94 1 = some (.int p1) := fx_e1 elv94 hlv71_1 (by decide) (Or.inl (by decide))
                have hlv94_2 : aj_lv lv94 2 = some (.int p2) := fx_e1 elv94 hlv71_2 (by decide) (Or.inl (by decide))
                have hlv94_3 : aj_lv lv94 3 = some (.int p3) := fx_e1 elv94 hlv71_3 (by decide) (Or.inl (by decide))
                have hlv94_4 : aj_lv lv94 4 = some (.int p4) := fx_e1 elv94 hlv71_4 (by decide) (Or.inl (by decide))
                have hlv94_5 : aj_lv lv94 5 = some (.int p5) := fx_e1 elv94 hlv71_5 (by decide) (Or.inr rfl)
                have hlv94_7 : aj_lv lv94 7 = some (.int y7) := fx_e1 elv94 hlv71_7 (by decide) (Or.inl (by decide))
                have hlv94_6 : aj_lv lv94 6 = some (.int x93) := by rw [elv94]; exact ak_set1_eq _ _ _
                show fx_W _ _ _ 200 lv94 [] _ _
                refine fx_incq aj_d270 rfl (Nat.le_succ _) hlv94_7 (by decide) (fun x95 ex95 => ?_)
                obtain ⟨lv96, elv96⟩ : ∃ l, l = aj_set1 lv94 7 (.int x95) := ⟨_, rfl⟩
                rw [← elv96]
                have hlv96_0 : aj_lv lv96 0 = some (.ref 117) := fx_e1 elv96 hlv94_0 (by decide) (Or.inl (by decide))
                have hlv96_1 : aj_lv lv96 1 = some (.int p1) := fx_e1 elv96 hlv94_1 (by decide) (Or.inl (by decide))
                have hlv96_2 : aj_lv lv96 2 = some (.int p2) := fx_e1 elv96 hlv94_2 (by decide) (Or.inl (by decide))
                have hlv96_3 : aj_lv lv96 3 = some (.int p3) := fx_e1 elv96 hlv94_3 (by decide) (Or.inl (by decide))
                have hlv96_4 : aj_lv lv96 4 = some (.int p4) := fx_e1 elv96 hlv94_4 (by decide) (Or.inl (by decide))
                have hlv96_5 : aj_lv lv96 5 = some (.int p5) := fx_e1 elv96 hlv94_5 (by decide) (Or.inl (by decide))
                have hlv96_6 : aj_lv lv96 6 = some (.int x93) := fx_e1 elv96 hlv94_6 (by decide) (Or.inr rfl)
                have hlv96_7 : aj_lv lv96 7 = some (.int x95) := by rw [elv96]; exact ak_set1_eq _ _ _
                show fx_W _ _ _ 203 lv96 [] _ _
                refine fx_n (pc' := 81) (lv' := lv96) (st' := []) aj_d270 rfl (Nat.le_succ _) (fun _ => rfl) ?_
                exact (ih.2) lv96 (x93) (x95) X35  hlv96_0 hlv96_1 hlv96_2 hlv96_3 hlv96_4 hlv96_5 hlv96_6 hlv96_7
theorem gx_270_ok {tb : aj_T} (p1 : Int32) (p2 : Int32) (p3 : Int32) (p4 : Int32) (p5 : Int32) {X : fx_X} : fx_K tb 270 [.ref 117, .int p1, .int p2, .int p3, .int p4, .int p5] X (fx_Q fx_qN (fun v X' => gx_270 p1 p2 p3 p4 p5 X v X')) := by
  refine fx_m aj_m270_at rfl (fun N => ?_)
  refine fx_mono (Q := fx_Q fx_qN (fun v X' => ∃ n : Nat, gxE_270 p1 p2 p3 p4 p5 (gxF_270 p1 p2 p3 p4 p5 n) X v X')) (fun r X' h => h) ?_
  unfold gxE_270
  show fx_W _ _ _ 0 [(0, .ref 117), (1, .int p1), (2, .int p2), (3, .int p3), (4, .int p4), (5, .int p5)] [] _ _
  obtain ⟨lv1, elv1⟩ : ∃ l : aj_V, l = [(0, .ref 117), (1, .int p1), (2, .int p2), (3, .int p3), (4, .int p4), (5, .int p5)] := ⟨_, rfl⟩
  rw [← elv1]
  have hlv1_0 : aj_lv lv1 0 = some (.ref 117) := by rw [elv1]; rfl
  have hlv1_1 : aj_lv lv1 1 = some (.int p1) := by rw [elv1]; rfl
  have hlv1_2 : aj_lv lv1 2 = some (.int p2) := by rw [elv1]; rfl
  have hlv1_3 : aj_lv lv1 3 = some (.int p3) := by rw [elv1]; rfl
  have hlv1_4 : aj_lv lv1 4 = some (.int p4) := by rw [elv1]; rfl
  have hlv1_5 : aj_lv lv1 5 = some (.int p5) := by rw [elv1]; rfl
  refine fx_n (pc' := 1) (lv' := lv1) (st' := [.int (Int32.ofInt 0)]) aj_d270 rfl (Nat.le_succ _) (fun _ => rfl) ?_
  refine fx_s0 (j := 6) aj_d270 rfl (Nat.le_succ _) (by decide) (fun _ => rfl) ?_
  obtain ⟨lv2, elv2⟩ : ∃ l, l = aj_set1 lv1 6 (.int (Int32.ofInt 0)) := ⟨_, rfl⟩
  rw [← elv2]
  have hlv2_0 : aj_lv lv2 0 = some (.ref 117) := fx_e1 elv2 hlv1_0 (by decide) (Or.inl (by decide))
  have hlv2_1 : aj_lv lv2 1 = some (.int p1) := fx_e1 elv2 hlv1_1 (by decide) (Or.inl (by decide))
  have hlv2_2 : aj_lv lv2 2 = some (.int p2) := fx_e1 elv2 hlv1_2 (by decide) (Or.inl (by decide))
  have hlv2_3 : aj_lv lv2 3 = some (.int p3) := fx_e1 elv2 hlv1_3 (by decide) (Or.inl (by decide))
  have hlv2_4 : aj_lv lv2 4 = some (.int p4) := fx_e1 elv2 hlv1_4 (by decide) (Or.inl (by decide))
  have hlv2_5 : aj_lv lv2 5 = some (.int p5) := fx_e1 elv2 hlv1_5 (by decide) (Or.inr rfl)
  have hlv2_6 : aj_lv lv2 6 = some (.int (Int32.ofInt 0)) := by rw [elv2]; exact ak_set1_eq _ _ _
  show fx_W _ _ _ 3 lv2 [] _ _
  exact ((gxL_270 p1 p2 p3 p4 p5 N).1) lv2 ((Int32.ofInt 0)) X  hlv2_0 hlv2_1 hlv2_2 hlv2_3 hlv2_4 hlv2_5 hlv2_6
def gxT_272_2 (p1 : Int32) (p2 : Int32) (P : Nat → List Int32 → List Int64 → List Nat → fx_X → Int32 → fx_X → Prop) (y3 : Int32) (X : fx_X) (v : Int32) (X' : fx_X) : Prop :=
  (if (y3).toInt < (p2).toInt then (∃ (w6 : Int32) (X5 : fx_X), gx_236 ((Int8.ofInt 49).toInt32) p1 y3 X w6 X5 ∧ (0 ≤ (w6).toInt ∧ (w6).toInt < ((12000 : Nat) : Int)) ∧ ∃ x8 : Int32, x8 = (X5.1 135 (w6).toInt.toNat) ∧ (0 ≤ (y3).toInt ∧ (y3).toInt < ((8 : Nat) : Int)) ∧ (if (x8).toInt = ((X5.1 144 (y3).toInt.toNat)).toInt then (∃ x13 : Int32, x13 = y3 + Int32.ofInt 1 ∧ P 2 [x13] [] [] X5 v X') else ((0 ≤ (y3).toInt ∧ (y3).toInt < ((8 : Nat) : Int)) ∧ (if (x8).toInt < ((X5.1 144 (y3).toInt.toNat)).toInt then (v = (Int32.ofInt (-1)) ∧ X' = X5) else (v = (Int32.ofInt 1) ∧ X' = X5))))) else (v = (Int32.ofInt 0) ∧ X' = X))
def gxE_272 (p1 : Int32) (p2 : Int32) (P : Nat → List Int32 → List Int64 → List Nat → fx_X → Int32 → fx_X → Prop) (X : fx_X) (v : Int32) (X' : fx_X) : Prop :=
  P 2 [(Int32.ofInt 0)] [] [] X v X'
noncomputable def gxF_272 (p1 : Int32) (p2 : Int32) (n : Nat) : Nat → List Int32 → List Int64 → List Nat → fx_X → Int32 → fx_X → Prop := Nat.rec (motive := fun _ => Nat → List Int32 → List Int64 → List Nat → fx_X → Int32 → fx_X → Prop) (fun _ _ _ _ _ _ _ => False) (fun _ P l is ls rs X v X' => (l = 2 ∧ ∃ (y3 : Int32), is = [y3] ∧ ls = [] ∧ rs = [] ∧ gxT_272_2 p1 p2 P y3 X v X')) n
theorem gxI_272_2 {p1 : Int32} {p2 : Int32} {n : Nat} {y3 : Int32} {X : fx_X} {v : Int32} {X' : fx_X} (h : gxT_272_2 p1 p2 (gxF_272 p1 p2 n) y3 X v X') : gxF_272 p1 p2 (n + 1) 2 [y3] [] [] X v X' := ⟨rfl, y3, rfl, rfl, rfl, h⟩
theorem gxO_272_2 {p1 : Int32} {p2 : Int32} {n : Nat} {y3 : Int32} {X : fx_X} {v : Int32} {X' : fx_X} (h : gxF_272 p1 p2 (n + 1) 2 [y3] [] [] X v X') : gxT_272_2 p1 p2 (gxF_272 p1 p2 n) y3 X v X' := by
  rcases h with ⟨-, _, e1, e2, e3, h⟩
  · cases e1; cases e2; cases e3; exact h
def gx_272 (p1 : Int32) (p2 : Int32) (X : fx_X) (v : Int32) (X' : fx_X) : Prop := ∃ n : Nat, gxE_272 p1 p2 (gxF_272 p1 p2 n) X v X'
theorem gxL_272 {tb : aj_T} (p1 : Int32) (p2 : Int32) : ∀ N : Nat, (∀ (lv : aj_V) (y3 : Int32) (X : fx_X), aj_lv lv 0 = some (.ref 117) → aj_lv lv 1 = some (.int p1) → aj_lv lv 2 = some (.int p2) → aj_lv lv 3 = some (.int y3) → fx_W tb aj_m272 N 2 lv [] X (fx_Q fx_qI (fun v X' => ∃ n : Nat, gxF_272 p1 p2 n 2 [y3] [] [] X v X'))) := by
  intro N
  induction N with
  | zero => exact (by intros; exact fx_z)
  | succ N ih =>
    skip
    · intro lv y3 X hlv_0 hlv_1 hlv_2 hlv_3
      refine fx_mono (Q := fx_Q fx_qI (fun v X' => ∃ n : Nat, gxT_272_2 p1 p2 (gxF_272 p1 p2 n) y3 X v X')) (fun r X' ⟨v, e, n, z⟩ => ⟨v, e, n + 1, gxI_272_2 z⟩) ?_
      unfold gxT_272_2
      refine fx_i0 aj_d272 rfl (Nat.le_refl _) (fun _ => rfl) hlv_3 ?_
      refine fx_i0 aj_d272 rfl (Nat.le_succ _) (fun _ => rfl) hlv_2 ?_
      refine fx_b (tgt := 55) aj_d272 rfl (Nat.le_succ _) rfl (fun q3 => ?_) (fun q3 => ?_)
      · skip
        refine fx_qe (c := (y3).toInt < (p2).toInt) (fx_t_ge q3) ?_
        show fx_W _ _ _ 55 lv [] _ _
        refine fx_n (pc' := 56) (lv' := lv) (st' := [.int (Int32.ofInt 0)]) aj_d272 rfl (Nat.le_succ _) (fun _ => rfl) ?_
        exact fx_ri aj_d272 rfl ⟨_, rfl, 0, rfl, rfl⟩
      · skip
        refine fx_qi (c := (y3).toInt < (p2).toInt) (fx_f_ge q3) ?_
        show fx_W _ _ _ 7 lv [] _ _
        refine fx_i2 aj_d272 rfl (Nat.le_succ _) (fun _ => rfl) hlv_0 ?_
        refine fx_gF aj_d272 rfl (Nat.le_succ _) rfl rfl fx_in_11_19 (t := 135) rfl (fun hA4 => ?_)
        refine fx_n (pc' := 13) (lv' := lv) (st' := [.int ((Int8.ofInt 49).toInt32), .ref 135]) aj_d272 rfl (Nat.le_succ _) (fun _ => rfl) ?_
        refine fx_i0 aj_d272 rfl (Nat.le_succ _) (fun _ => rfl) hlv_1 ?_
        refine fx_i0 aj_d272 rfl (Nat.le_succ _) (fun _ => rfl) hlv_3 ?_
        refine fx_cs aj_d272 rfl (Nat.le_succ _) rfl rfl [_, _, _] rfl rfl (gx_236_ok ((Int8.ofInt 49).toInt32) p1 y3) ?_
        rintro _ X5 ⟨w6, rfl, hR5⟩ hok5 hle5
        refine fx_qc hR5 ?_
        show fx_W _ _ _ 18 lv [.int w6, .ref 135] _ _
        refine fx_ld aj_d272 (Or.inl rfl) rfl (Nat.le_succ _) (fun g70 g71 => ?_)
        show fx_W _ _ _ 19 lv [.int (X5.1 135 (w6).toInt.toNat)] _ _
        refine fx_qa (c := 0 ≤ (w6).toInt ∧ (w6).toInt < ((12000 : Nat) : Int)) ⟨g70, fx_lnk g71 ((hle5.2 _ (by rw [hA4]; decide)).trans hA4)⟩ ?_
        refine fx_qxI (fun x8 ex8 => ?_)
        refine fx_s0 (j := 4) aj_d272 rfl (Nat.le_succ _) (by decide) (fun _ => rfl) ?_
        obtain ⟨lv9, elv9⟩ : ∃ l, l = aj_set1 lv 4 (.int x8) := ⟨_, rfl⟩
        rw [← elv9]
        have hlv9_0 : aj_lv lv9 0 = some (.ref 117) := fx_e1 elv9 hlv_0 (by decide) (Or.inl (by decide))
        have hlv9_1 : aj_lv lv9 1 = some (.int p1) := fx_e1 elv9 hlv_1 (by decide) (Or.inl (by decide))
        have hlv9_2 : aj_lv lv9 2 = some (.int p2) := fx_e1 elv9 hlv_2 (by decide) (Or.inl (by decide))
        have hlv9_3 : aj_lv lv9 3 = some (.int y3) := fx_e1 elv9 hlv_3 (by decide) (Or.inr rfl)
        have hlv9_4 : aj_lv lv9 4 = some (.int x8) := by rw [elv9]; exact ak_set1_eq _ _ _
        show fx_W _ _ _ 21 lv9 [] _ _
        refine fx_i0 aj_d272 rfl (Nat.le_succ _) (fun _ => rfl) hlv9_4 ?_
        refine fx_i2 aj_d272 rfl (Nat.le_succ _) (fun _ => rfl) hlv9_0 ?_
        refine fx_gF aj_d272 rfl (Nat.le_succ _) rfl rfl fx_in_11_59 (t := 144) rfl (fun hA10 => ?_)
        refine fx_i0 aj_d272 rfl (Nat.le_succ _) (fun _ => rfl) hlv9_3 ?_
        refine fx_ld aj_d272 (Or.inl rfl) rfl (Nat.le_succ _) (fun g110 g111 => ?_)
        show fx_W _ _ _ 29 lv9 [.int (X5.1 144 (y3).toInt.toNat), .int x8] _ _
        refine fx_qa (c := 0 ≤ (y3).toInt ∧ (y3).toInt < ((8 : Nat) : Int)) ⟨g110, fx_lnk g111 hA10⟩ ?_
        refine fx_b (tgt := 49) aj_d272 rfl (Nat.le_succ _) rfl (fun q12 => ?_) (fun q12 => ?_)
        · skip
          refine fx_qi (c := (x8).toInt = ((X5.1 144 (y3).toInt.toNat)).toInt) (fx_t_eq q12) ?_
          show fx_W _ _ _ 49 lv9 [] _ _
          refine fx_incq aj_d272 rfl (Nat.le_succ _) hlv9_3 (by decide) (fun x13 ex13 => ?_)
          obtain ⟨lv14, elv14⟩ : ∃ l, l = aj_set1 lv9 3 (.int x13) := ⟨_, rfl⟩
          rw [← elv14]
          have hlv14_0 : aj_lv lv14 0 = some (.ref 117) := fx_e1 elv14 hlv9_0 (by decide) (Or.inl (by decide))
          have hlv14_1 : aj_lv lv14 1 = some (.int p1) := fx_e1 elv14 hlv9_1 (by decide) (Or.inl (by decide))
          have hlv14_2 : aj_lv lv14 2 = some (.int p2) := fx_e1 elv14 hlv9_2 (by decide) (Or.inr rfl)
          have hlv14_3 : aj_lv lv14 3 = some (.int x13) := by rw [elv14]; exact ak_set1_eq _ _ _
          show fx_W _ _ _ 52 lv14 [] _ _
          refine fx_n (pc' := 2) (lv' := lv14) (st' := []) aj_d272 rfl (Nat.le_succ _) (fun _ => rfl) ?_
          exact (ih) lv14 (x13) X5  hlv14_0 hlv14_1 hlv14_2 hlv14_3
        · skip
          refine fx_qe (c := (x8).toInt = ((X5.1 144 (y3).toInt.toNat)).toInt) (fx_f_eq q12) ?_
          show fx_W _ _ _ 32 lv9 [] _ _
          refine fx_i0 aj_d272 rfl (Nat.le_succ _) (fun _ => rfl) hlv9_4 ?_
          refine fx_i2 aj_d272 rfl (Nat.le_succ _) (fun _ => rfl) hlv9_0 ?_
          refine fx_gF aj_d272 rfl (Nat.le_succ _) rfl rfl fx_in_11_59 (t := 144) rfl (fun hA15 => ?_)
          refine fx_i0 aj_d272 rfl (Nat.le_succ _) (fun _ => rfl) hlv9_3 ?_
          refine fx_ld aj_d272 (Or.inl rfl) rfl (Nat.le_succ _) (fun g160 g161 => ?_)
          show fx_W _ _ _ 40 lv9 [.int (X5.1 144 (y3).toInt.toNat), .int x8] _ _
          refine fx_qa (c := 0 ≤ (y3).toInt ∧ (y3).toInt < ((8 : Nat) : Int)) ⟨g160, fx_lnk g161 hA15⟩ ?_
          refine fx_b (tgt := 47) aj_d272 rfl (Nat.le_succ _) rfl (fun q17 => ?_) (fun q17 => ?_)
          · skip
            refine fx_qe (c := (x8).toInt < ((X5.1 144 (y3).toInt.toNat)).toInt) (fx_t_ge q17) ?_
            show fx_W _ _ _ 47 lv9 [] _ _
            refine fx_n (pc' := 48) (lv' := lv9) (st' := [.int (Int32.ofInt 1)]) aj_d272 rfl (Nat.le_succ _) (fun _ => rfl) ?_
            exact fx_ri aj_d272 rfl ⟨_, rfl, 0, rfl, rfl⟩
          · skip
            refine fx_qi (c := (x8).toInt < ((X5.1 144 (y3).toInt.toNat)).toInt) (fx_f_ge q17) ?_
            show fx_W _ _ _ 43 lv9 [] _ _
            refine fx_n (pc' := 44) (lv' := lv9) (st' := [.int (Int32.ofInt (-1))]) aj_d272 rfl (Nat.le_succ _) (fun _ => rfl) ?_
            refine fx_n (pc' := 48) (lv' := lv9) (st' := [.int (Int32.ofInt (-1))]) aj_d272 rfl (Nat.le_succ _) (fun _ => rfl) ?_
            exact fx_ri aj_d272 rfl ⟨_, rfl, 0, rfl, rfl⟩
theorem gx_272_ok {tb : aj_T} (p1 : Int32) (p2 : Int32) {X : fx_X} : fx_K tb 272 [.ref 117, .int p1, .int p2] X (fx_Q fx_qI (fun v X' => gx_272 p1 p2 X v X')) := by
  refine fx_m aj_m272_at rfl (fun N => ?_)
  refine fx_mono (Q := fx_Q fx_qI (fun v X' => ∃ n : Nat, gxE_272 p1 p2 (gxF_272 p1 p2 n) X v X')) (fun r X' h => h) ?_
  unfold gxE_272
  show fx_W _ _ _ 0 [(0, .ref 117), (1, .int p1), (2, .int p2)] [] _ _
  obtain ⟨lv1, elv1⟩ : ∃ l : aj_V, l = [(0, .ref 117), (1, .int p1), (2, .int p2)] := ⟨_, rfl⟩
  rw [← elv1]
  have hlv1_0 : aj_lv lv1 0 = some (.ref 117) := by rw [elv1]; rfl
  have hlv1_1 : aj_lv lv1 1 = some (.int p1) := by rw [elv1]; rfl
  have hlv1_2 : aj_lv lv1 2 = some (.int p2) := by rw [elv1]; rfl
  refine fx_n (pc' := 1) (lv' := lv1) (st' := [.int (Int32.ofInt 0)]) aj_d272 rfl (Nat.le_succ _) (fun _ => rfl) ?_
  refine fx_s0 (j := 3) aj_d272 rfl (Nat.le_succ _) (by decide) (fun _ => rfl) ?_
  obtain ⟨lv2, elv2⟩ : ∃ l, l = aj_set1 lv1 3 (.int (Int32.ofInt 0)) := ⟨_, rfl⟩
  rw [← elv2]
  have hlv2_0 : aj_lv lv2 0 = some (.ref 117) := fx_e1 elv2 hlv1_0 (by decide) (Or.inl (by decide))
  have hlv2_1 : aj_lv lv2 1 = some (.int p1) := fx_e1 elv2 hlv1_1 (by decide) (Or.inl (by decide))
  have hlv2_2 : aj_lv lv2 2 = some (.int p2) := fx_e1 elv2 hlv1_2 (by decide) (Or.inr rfl)
  have hlv2_3 : aj_lv lv2 3 = some (.int (Int32.ofInt 0)) := by rw [elv2]; exact ak_set1_eq _ _ _
  show fx_W _ _ _ 2 lv2 [] _ _
  exact ((gxL_272 p1 p2 N)) lv2 ((Int32.ofInt 0)) X  hlv2_0 hlv2_1 hlv2_2 hlv2_3
def gxT_271_5 (p1 : Int32) (p2 : Int32) (P : Nat → List Int32 → List Int64 → List Nat → fx_X → Int32 → fx_X → Prop) (y3 : Int32) (y4 : Int32) (X : fx_X) (v : Int32) (X' : fx_X) : Prop :=
  (if (y3).toInt < ((X.1 131 49)).toInt then ((if (y4).toInt < 0 then (∃ (w55 : Int32) (X54 : fx_X), gx_272 y3 p1 X w55 X54 ∧ (if (w55).toInt < 0 then (∃ x58 : Int32, x58 = y3 + Int32.ofInt 1 ∧ P 5 [x58, w55] [] [] X54 v X') else (P 5 [y3, w55] [] [] X54 v X'))) else ((if (y3).toInt = ((X.1 131 49)).toInt then ((if ((X.1 131 49)).toInt = 30 then (v = (Int32.ofInt 0) ∧ X' = X) else (∃ x39 : Int32, x39 = (X.1 131 49) ∧ P 79 [y3, x39] [] [] X v X'))) else ((if 0 < (y4).toInt then ((if ((X.1 131 49)).toInt = 30 then (v = (Int32.ofInt 0) ∧ X' = X) else (∃ x52 : Int32, x52 = (X.1 131 49) ∧ P 79 [y3, x52] [] [] X v X'))) else (∃ (w44 : Int32) (X43 : fx_X), gx_225 ((Int8.ofInt 49).toInt32) y3 X w44 X43 ∧ ∃ (w46 : Unit) (X45 : fx_X), gx_228 136 w44 p2 (Int32.ofInt 1) X43 w46 X45 ∧ v = (Int32.ofInt 1) ∧ X' = X45))))))) else ((if (y3).toInt = ((X.1 131 49)).toInt then ((if ((X.1 131 49)).toInt = 30 then (v = (Int32.ofInt 0) ∧ X' = X) else (∃ x15 : Int32, x15 = (X.1 131 49) ∧ P 79 [y3, x15] [] [] X v X'))) else ((if 0 < (y4).toInt then ((if ((X.1 131 49)).toInt = 30 then (v = (Int32.ofInt 0) ∧ X' = X) else (∃ x28 : Int32, x28 = (X.1 131 49) ∧ P 79 [y3, x28] [] [] X v X'))) else (∃ (w20 : Int32) (X19 : fx_X), gx_225 ((Int8.ofInt 49).toInt32) y3 X w20 X19 ∧ ∃ (w22 : Unit) (X21 : fx_X), gx_228 136 w20 p2 (Int32.ofInt 1) X19 w22 X21 ∧ v = (Int32.ofInt 1) ∧ X' = X21))))))
def gxT_271_79 (p1 : Int32) (p2 : Int32) (P : Nat → List Int32 → List Int64 → List Nat → fx_X → Int32 → fx_X → Prop) (y3 : Int32) (y5 : Int32) (X : fx_X) (v : Int32) (X' : fx_X) : Prop :=
  (if (y3).toInt < (y5).toInt then (∃ (w67 : Unit) (X66 : fx_X), gx_252 ((Int8.ofInt 49).toInt32) (y5 - (Int32.ofInt 1)) ((Int8.ofInt 49).toInt32) y5 X w67 X66 ∧ ∃ x68 : Int32, x68 = y5 + Int32.ofInt (-1) ∧ P 79 [y3, x68] [] [] X66 v X') else (∃ X64 : fx_X, X64 = (fx_wI X 131 49 ((X.1 131 49) + (Int32.ofInt 1))) ∧ P 119 [y3, (Int32.ofInt 0)] [] [] X64 v X'))
def gxT_271_119 (p1 : Int32) (p2 : Int32) (P : Nat → List Int32 → List Int64 → List Nat → fx_X → Int32 → fx_X → Prop) (y3 : Int32) (y5 : Int32) (X : fx_X) (v : Int32) (X' : fx_X) : Prop :=
  (if (y5).toInt < (p1).toInt then (∃ (w74 : Int32) (X73 : fx_X), gx_236 ((Int8.ofInt 49).toInt32) y3 y5 X w74 X73 ∧ (0 ≤ (w74).toInt ∧ (w74).toInt < ((12000 : Nat) : Int)) ∧ ∃ X76 : fx_X, X76 = (fx_wI X73 134 (w74).toInt.toNat (aj_nar 4 (Int32.ofInt 0))) ∧ ∃ (w79 : Int32) (X78 : fx_X), gx_236 ((Int8.ofInt 49).toInt32) y3 y5 X76 w79 X78 ∧ (0 ≤ (y5).toInt ∧ (y5).toInt < ((8 : Nat) : Int)) ∧ (0 ≤ (w79).toInt ∧ (w79).toInt < ((12000 : Nat) : Int)) ∧ ∃ X83 : fx_X, X83 = (fx_wI X78 135 (w79).toInt.toNat (X78.1 144 (y5).toInt.toNat)) ∧ ∃ x84 : Int32, x84 = y5 + Int32.ofInt 1 ∧ P 119 [y3, x84] [] [] X83 v X') else (P 168 [y3, (Int32.ofInt 0)] [] [] X v X'))
def gxT_271_168 (p1 : Int32) (p2 : Int32) (P : Nat → List Int32 → List Int64 → List Nat → fx_X → Int32 → fx_X → Prop) (y3 : Int32) (y5 : Int32) (X : fx_X) (v : Int32) (X' : fx_X) : Prop :=
  (if (y5).toInt < 32 then (∃ (w94 : Int32) (X93 : fx_X), gx_225 ((Int8.ofInt 49).toInt32) y3 X w94 X93 ∧ (0 ≤ ((w94 + y5)).toInt ∧ ((w94 + y5)).toInt < ((48000 : Nat) : Int)) ∧ ∃ X96 : fx_X, X96 = (fx_wI X93 136 ((w94 + y5)).toInt.toNat (Int32.ofInt 0)) ∧ ∃ x97 : Int32, x97 = y5 + Int32.ofInt 1 ∧ P 168 [y3, x97] [] [] X96 v X') else (∃ (w89 : Int32) (X88 : fx_X), gx_225 ((Int8.ofInt 49).toInt32) y3 X w89 X88 ∧ ∃ (w91 : Unit) (X90 : fx_X), gx_228 136 w89 p2 (Int32.ofInt 1) X88 w91 X90 ∧ v = (Int32.ofInt 1) ∧ X' = X90))
def gxE_271 (p1 : Int32) (p2 : Int32) (P : Nat → List Int32 → List Int64 → List Nat → fx_X → Int32 → fx_X → Prop) (X : fx_X) (v : Int32) (X' : fx_X) : Prop :=
  P 5 [(Int32.ofInt 0), (Int32.ofInt (-1))] [] [] X v X'
noncomputable def gxF_271 (p1 : Int32) (p2 : Int32) (n : Nat) : Nat → List Int32 → List Int64 → List Nat → fx_X → Int32 → fx_X → Prop := Nat.rec (motive := fun _ => Nat → List Int32 → List Int64 → List Nat → fx_X → Int32 → fx_X → Prop) (fun _ _ _ _ _ _ _ => False) (fun _ P l is ls rs X v X' => (l = 5 ∧ ∃ (y3 : Int32) (y4 : Int32), is = [y3, y4] ∧ ls = [] ∧ rs = [] ∧ gxT_271_5 p1 p2 P y3 y4 X v X') ∨ (l = 79 ∧ ∃ (y3 : Int32) (y5 : Int32), is = [y3, y5] ∧ ls = [] ∧ rs = [] ∧ gxT_271_79 p1 p2 P y3 y5 X v X') ∨ (l = 119 ∧ ∃ (y3 : Int32) (y5 : Int32), is = [y3, y5] ∧ ls = [] ∧ rs = [] ∧ gxT_271_119 p1 p2 P y3 y5 X v X') ∨ (l = 168 ∧ ∃ (y3 : Int32) (y5 : Int32), is = [y3, y5] ∧ ls = [] ∧ rs = [] ∧ gxT_271_168 p1 p2 P y3 y5 X v X')) n
theorem gxI_271_5 {p1 : Int32} {p2 : Int32} {n : Nat} {y3 : Int32} {y4 : Int32} {X : fx_X} {v : Int32} {X' : fx_X} (h : gxT_271_5 p1 p2 (gxF_271 p1 p2 n) y3 y4 X v X') : gxF_271 p1 p2 (n + 1) 5 [y3, y4] [] [] X v X' := Or.inl ⟨rfl, y3, y4, rfl, rfl, rfl, h⟩
theorem gxO_271_5 {p1 : Int32} {p2 : Int32} {n : Nat} {y3 : Int32} {y4 : Int32} {X : fx_X} {v : Int32} {X' : fx_X} (h : gxF_271 p1 p2 (n + 1) 5 [y3, y4] [] [] X v X') : gxT_271_5 p1 p2 (gxF_271 p1 p2 n) y3 y4 X v X' := by
  rcases h with ⟨-, _, _, e1, e2, e3, h⟩ | ⟨e, -⟩ | ⟨e, -⟩ | ⟨e, -⟩
  · cases e1; cases e2; cases e3; exact h
  · exact absurd e (by decide)
  · exact absurd e (by decide)
  · exact absurd e (by decide)
theorem gxI_271_79 {p1 : Int32} {p2 : Int32} {n : Nat} {y3 : Int32} {y5 : Int32} {X : fx_X} {v : Int32} {X' : fx_X} (h : gxT_271_79 p1 p2 (gxF_271 p1 p2 n) y3 y5 X v X') : gxF_271 p1 p2 (n + 1) 79 [y3, y5] [] [] X v X' := Or.inr (Or.inl ⟨rfl, y3, y5, rfl, rfl, rfl, h⟩)
theorem gxO_271_79 {p1 : Int32} {p2 : Int32} {n : Nat} {y3 : Int32} {y5 : Int32} {X : fx_X} {v : Int32} {X' : fx_X} (h : gxF_271 p1 p2 (n + 1) 79 [y3, y5] [] [] X v X') : gxT_271_79 p1 p2 (gxF_271 p1 p2 n) y3 y5 X v X' := by
  rcases h with ⟨e, -⟩ | ⟨-, _, _, e1, e2, e3, h⟩ | ⟨e, -⟩ | ⟨e, -⟩
  · exact absurd e (by decide)
  · cases e1; cases e2; cases e3; exact h
  · exact absurd e (by decide)
  · exact absurd e (by decide)
theorem gxI_271_119 {p1 : Int32} {p2 : Int32} {n : Nat} {y3 : Int32} {y5 : Int32} {X : fx_X} {v : Int32} {X' : fx_X} (h : gxT_271_119 p1 p2 (gxF_271 p1 p2 n) y3 y5 X v X') : gxF_271 p1 p2 (n + 1) 119 [y3, y5] [] [] X v X' := Or.inr (Or.inr (Or.inl ⟨rfl, y3, y5, rfl, rfl, rfl, h⟩))
theorem gxO_271_119 {p1 : Int32} {p2 : Int32} {n : Nat} {y3 : Int32} {y5 : Int32} {X : fx_X} {v : Int32} {X' : fx_X} (h : gxF_271 p1 p2 (n + 1) 119 [y3, y5] [] [] X v X') : gxT_271_119 p1 p2 (gxF_271 p1 p2 n) y3 y5 X v X' := by
  rcases h with ⟨e, -⟩ | ⟨e, -⟩ | ⟨-, _, _, e1, e2, e3, h⟩ | ⟨e, -⟩
  · exact absurd e (by decide)
  · exact absurd e (by decide)
  · cases e1; cases e2; cases e3; exact h
  · exact absurd e (by decide)
theorem gxI_271_168 {p1 : Int32} {p2 : Int32} {n : Nat} {y3 : Int32} {y5 : Int32} {X : fx_X} {v : Int32} {X' : fx_X} (h : gxT_271_168 p1 p2 (gxF_271 p1 p2 n) y3 y5 X v X') : gxF_271 p1 p2 (n + 1) 168 [y3, y5] [] [] X v X' := Or.inr (Or.inr (Or.inr (⟨rfl, y3, y5, rfl, rfl, rfl, h⟩)))
theorem gxO_271_168 {p1 : Int32} {p2 : Int32} {n : Nat} {y3 : Int32} {y5 : Int32} {X : fx_X} {v : Int32} {X' : fx_X} (h : gxF_271 p1 p2 (n + 1) 168 [y3, y5] [] [] X v X') : gxT_271_168 p1 p2 (gxF_271 p1 p2 n) y3 y5 X v X' := by
  rcases h with ⟨e, -⟩ | ⟨e, -⟩ | ⟨e, -⟩ | ⟨-, _, _, e1, e2, e3, h⟩
  · exact absurd e (by decide)
  · exact absurd e (by decide)
  · exact absurd e (by decide)
  · cases e1; cases e2; cases e3; exact h
def gx_271 (p1 : Int32) (p2 : Int32) (X : fx_X) (v : Int32) (X' : fx_X) : Prop := ∃ n : Nat, gxE_271 p1 p2 (gxF_271 p1 p2 n) X v X'
theorem gxL_271 {tb : aj_T} (p1 : Int32) (p2 : Int32) : ∀ N : Nat, (∀ (lv : aj_V) (y3 : Int32) (y4 : Int32) (X : fx_X), aj_lv lv 0 = some (.ref 117) → aj_lv lv 1 = some (.int p1) → aj_lv lv 2 = some (.int p2) → aj_lv lv 3 = some (.int y3) → aj_lv lv 4 = some (.int y4) → fx_W tb aj_m271 N 5 lv [] X (fx_Q fx_qI (fun v X' => ∃ n : Nat, gxF_271 p1 p2 n 5 [y3, y4] [] [] X v X'))) ∧ (∀ (lv : aj_V) (y3 : Int32) (y5 : Int32) (X : fx_X), aj_lv lv 0 = some (.ref 117) → aj_lv lv 1 = some (.int p1) → aj_lv lv 2 = some (.int p2) → aj_lv lv 3 = some (.int y3) → aj_lv lv 5 = some (.int y5) → fx_W tb aj_m271 N 79 lv [] X (fx_Q fx_qI (fun v X' => ∃ n : Nat, gxF_271 p1 p2 n 79 [y3, y5] [] [] X v X'))) ∧ (∀ (lv : aj_V) (y3 : Int32) (y5 : Int32) (X : fx_X), aj_lv lv 0 = some (.ref 117) → aj_lv lv 1 = some (.int p1) → aj_lv lv 2 = some (.int p2) → aj_lv lv 3 = some (.int y3) → aj_lv lv 5 = some (.int y5) → fx_W tb aj_m271 N 119 lv [] X (fx_Q fx_qI (fun v X' => ∃ n : Nat, gxF_271 p1 p2 n 119 [y3, y5] [] [] X v X'))) ∧ (∀ (lv : aj_V) (y3 : Int32) (y5 : Int32) (X : fx_X), aj_lv lv 0 = some (.ref 117) → aj_lv lv 2 = some (.int p2) → aj_lv lv 3 = some (.int y3) → aj_lv lv 5 = some (.int y5) → fx_W tb aj_m271 N 168 lv [] X (fx_Q fx_qI (fun v X' => ∃ n : Nat, gxF_271 p1 p2 n 168 [y3, y5] [] [] X v X'))) := by
  intro N
  induction N with
  | zero => exact ⟨(by intros; exact fx_z), (by intros; exact fx_z), (by intros; exact fx_z), (by intros; exact fx_z)⟩
  | succ N ih =>
    refine ⟨?_, ?_, ?_, ?_⟩
    · intro lv y3 y4 X hlv_0 hlv_1 hlv_2 hlv_3 hlv_4
      refine fx_mono (Q := fx_Q fx_qI (fun v X' => ∃ n : Nat, gxT_271_5 p1 p2 (gxF_271 p1 p2 n) y3 y4 X v X')) (fun r X' ⟨v, e, n, z⟩ => ⟨v, e, n + 1, gxI_271_5 z⟩) ?_
      unfold gxT_271_5
      refine fx_i0 aj_d271 rfl (Nat.le_refl _) (fun _ => rfl) hlv_3 ?_
      refine fx_i2 aj_d271 rfl (Nat.le_succ _) (fun _ => rfl) hlv_0 ?_
      refine fx_gF aj_d271 rfl (Nat.le_succ _) rfl rfl fx_in_11_15 (t := 131) rfl (fun hA4 => ?_)
      refine fx_n (pc' := 12) (lv' := lv) (st' := [.int ((Int8.ofInt 49).toInt32), .ref 131, .int y3]) aj_d271 rfl (Nat.le_succ _) (fun _ => rfl) ?_
      refine fx_ld aj_d271 (Or.inl rfl) rfl (Nat.le_succ _) (fun g50 g51 => ?_)
      show fx_W _ _ _ 13 lv [.int (X.1 131 49), .int y3] _ _
      refine fx_b (tgt := 40) aj_d271 rfl (Nat.le_succ _) rfl (fun q6 => ?_) (fun q6 => ?_)
      · skip
        refine fx_qe (c := (y3).toInt < ((X.1 131 49)).toInt) (fx_t_ge q6) ?_
        show fx_W _ _ _ 40 lv [] _ _
        refine fx_i0 aj_d271 rfl (Nat.le_succ _) (fun _ => rfl) hlv_3 ?_
        refine fx_i2 aj_d271 rfl (Nat.le_succ _) (fun _ => rfl) hlv_0 ?_
        refine fx_gF aj_d271 rfl (Nat.le_succ _) rfl rfl fx_in_11_15 (t := 131) rfl (fun hA7 => ?_)
        refine fx_n (pc' := 47) (lv' := lv) (st' := [.int ((Int8.ofInt 49).toInt32), .ref 131, .int y3]) aj_d271 rfl (Nat.le_succ _) (fun _ => rfl) ?_
        refine fx_ld aj_d271 (Or.inl rfl) rfl (Nat.le_succ _) (fun g80 g81 => ?_)
        show fx_W _ _ _ 48 lv [.int (X.1 131 49), .int y3] _ _
        refine fx_b (tgt := 56) aj_d271 rfl (Nat.le_succ _) rfl (fun q9 => ?_) (fun q9 => ?_)
        · skip
          refine fx_qi (c := (y3).toInt = ((X.1 131 49)).toInt) (fx_t_eq q9) ?_
          show fx_W _ _ _ 56 lv [] _ _
          refine fx_i2 aj_d271 rfl (Nat.le_succ _) (fun _ => rfl) hlv_0 ?_
          refine fx_gF aj_d271 rfl (Nat.le_succ _) rfl rfl fx_in_11_15 (t := 131) rfl (fun hA10 => ?_)
          refine fx_n (pc' := 62) (lv' := lv) (st' := [.int ((Int8.ofInt 49).toInt32), .ref 131]) aj_d271 rfl (Nat.le_succ _) (fun _ => rfl) ?_
          refine fx_ld aj_d271 (Or.inl rfl) rfl (Nat.le_succ _) (fun g110 g111 => ?_)
          show fx_W _ _ _ 63 lv [.int (X.1 131 49)] _ _
          refine fx_n (pc' := 65) (lv' := lv) (st' := [.int ((Int8.ofInt 30).toInt32), .int (X.1 131 49)]) aj_d271 rfl (Nat.le_succ _) (fun _ => rfl) ?_
          refine fx_b (tgt := 70) aj_d271 rfl (Nat.le_succ _) rfl (fun q12 => ?_) (fun q12 => ?_)
          · skip
            refine fx_qe (c := ((X.1 131 49)).toInt = 30) (fx_t_ne q12) ?_
            show fx_W _ _ _ 70 lv [] _ _
            refine fx_i2 aj_d271 rfl (Nat.le_succ _) (fun _ => rfl) hlv_0 ?_
            refine fx_gF aj_d271 rfl (Nat.le_succ _) rfl rfl fx_in_11_15 (t := 131) rfl (fun hA13 => ?_)
            refine fx_n (pc' := 76) (lv' := lv) (st' := [.int ((Int8.ofInt 49).toInt32), .ref 131]) aj_d271 rfl (Nat.le_succ _) (fun _ => rfl) ?_
            refine fx_ld aj_d271 (Or.inl rfl) rfl (Nat.le_succ _) (fun g140 g141 => ?_)
            show fx_W _ _ _ 77 lv [.int (X.1 131 49)] _ _
            refine fx_qxI (fun x15 ex15 => ?_)
            refine fx_s0 (j := 5) aj_d271 rfl (Nat.le_succ _) (by decide) (fun _ => rfl) ?_
            obtain ⟨lv16, elv16⟩ : ∃ l, l = aj_set1 lv 5 (.int x15) := ⟨_, rfl⟩
            rw [← elv16]
            have hlv16_0 : aj_lv lv16 0 = some (.ref 117) := fx_e1 elv16 hlv_0 (by decide) (Or.inl (by decide))
            have hlv16_1 : aj_lv lv16 1 = some (.int p1) := fx_e1 elv16 hlv_1 (by decide) (Or.inl (by decide))
            have hlv16_2 : aj_lv lv16 2 = some (.int p2) := fx_e1 elv16 hlv_2 (by decide) (Or.inl (by decide))
            have hlv16_3 : aj_lv lv16 3 = some (.int y3) := fx_e1 elv16 hlv_3 (by decide) (Or.inl (by decide))
            have hlv16_5 : aj_lv lv16 5 = some (.int x15) := by rw [elv16]; exact ak_set1_eq _ _ _
            show fx_W _ _ _ 79 lv16 [] _ _
            exact (ih.2.1) lv16 (y3) (x15) X  hlv16_0 hlv16_1 hlv16_2 hlv16_3 hlv16_5
          · skip
            refine fx_qi (c := ((X.1 131 49)).toInt = 30) (fx_f_ne q12) ?_
            show fx_W _ _ _ 68 lv [] _ _
            refine fx_n (pc' := 69) (lv' := lv) (st' := [.int (Int32.ofInt 0)]) aj_d271 rfl (Nat.le_succ _) (fun _ => rfl) ?_
            exact fx_ri aj_d271 rfl ⟨_, rfl, 0, rfl, rfl⟩
        · skip
          refine fx_qe (c := (y3).toInt = ((X.1 131 49)).toInt) (fx_f_eq q9) ?_
          show fx_W _ _ _ 51 lv [] _ _
          refine fx_i0 aj_d271 rfl (Nat.le_succ _) (fun _ => rfl) hlv_4 ?_
          refine fx_b0 (tgt := 197) aj_d271 rfl (Nat.le_succ _) rfl (fun q17 => ?_) (fun q17 => ?_)
          · skip
            refine fx_qe (c := 0 < (y4).toInt) (fx_t_le q17) ?_
            show fx_W _ _ _ 197 lv [] _ _
            refine fx_i2 aj_d271 rfl (Nat.le_succ _) (fun _ => rfl) hlv_0 ?_
            refine fx_gF aj_d271 rfl (Nat.le_succ _) rfl rfl fx_in_11_20 (t := 136) rfl (fun hA18 => ?_)
            refine fx_i2 aj_d271 rfl (Nat.le_succ _) (fun _ => rfl) hlv_0 ?_
            refine fx_n (pc' := 204) (lv' := lv) (st' := [.int ((Int8.ofInt 49).toInt32), .ref 117, .ref 136]) aj_d271 rfl (Nat.le_succ _) (fun _ => rfl) ?_
            refine fx_i0 aj_d271 rfl (Nat.le_succ _) (fun _ => rfl) hlv_3 ?_
            refine fx_cv aj_d271 rfl (Nat.le_succ _) rfl [_, _] rfl rfl (gx_225_ok ((Int8.ofInt 49).toInt32) y3) ?_
            rintro _ X19 ⟨w20, rfl, hR19⟩ hok19 hle19
            refine fx_qc hR19 ?_
            show fx_W _ _ _ 208 lv [.int w20, .ref 136] _ _
            refine fx_i0 aj_d271 rfl (Nat.le_succ _) (fun _ => rfl) hlv_2 ?_
            refine fx_n (pc' := 210) (lv' := lv) (st' := [.int (Int32.ofInt 1), .int p2, .int w20, .ref 136]) aj_d271 rfl (Nat.le_succ _) (fun _ => rfl) ?_
            refine fx_cs aj_d271 rfl (Nat.le_succ _) rfl rfl [_, _, _, _] rfl rfl (gx_228_ok 136 w20 p2 (Int32.ofInt 1)) ?_
            rintro _ X21 ⟨w22, rfl, hR21⟩ hok21 hle21
            refine fx_qc hR21 ?_
            show fx_W _ _ _ 213 lv [] _ _
            refine fx_n (pc' := 214) (lv' := lv) (st' := [.int (Int32.ofInt 1)]) aj_d271 rfl (Nat.le_succ _) (fun _ => rfl) ?_
            exact fx_ri aj_d271 rfl ⟨_, rfl, 0, rfl, rfl⟩
          · skip
            refine fx_qi (c := 0 < (y4).toInt) (fx_f_le q17) ?_
            show fx_W _ _ _ 56 lv [] _ _
            refine fx_i2 aj_d271 rfl (Nat.le_succ _) (fun _ => rfl) hlv_0 ?_
            refine fx_gF aj_d271 rfl (Nat.le_succ _) rfl rfl fx_in_11_15 (t := 131) rfl (fun hA23 => ?_)
            refine fx_n (pc' := 62) (lv' := lv) (st' := [.int ((Int8.ofInt 49).toInt32), .ref 131]) aj_d271 rfl (Nat.le_succ _) (fun _ => rfl) ?_
            refine fx_ld aj_d271 (Or.inl rfl) rfl (Nat.le_succ _) (fun g240 g241 => ?_)
            show fx_W _ _ _ 63 lv [.int (X.1 131 49)] _ _
            refine fx_n (pc' := 65) (lv' := lv) (st' := [.int ((Int8.ofInt 30).toInt32), .int (X.1 131 49)]) aj_d271 rfl (Nat.le_succ _) (fun _ => rfl) ?_
            refine fx_b (tgt := 70) aj_d271 rfl (Nat.le_succ _) rfl (fun q25 => ?_) (fun q25 => ?_)
            · skip
              refine fx_qe (c := ((X.1 131 49)).toInt = 30) (fx_t_ne q25) ?_
              show fx_W _ _ _ 70 lv [] _ _
              refine fx_i2 aj_d271 rfl (Nat.le_succ _) (fun _ => rfl) hlv_0 ?_
              refine fx_gF aj_d271 rfl (Nat.le_succ _) rfl rfl fx_in_11_15 (t := 131) rfl (fun hA26 => ?_)
              refine fx_n (pc' := 76) (lv' := lv) (st' := [.int ((Int8.ofInt 49).toInt32), .ref 131]) aj_d271 rfl (Nat.le_succ _) (fun _ => rfl) ?_
              refine fx_ld aj_d271 (Or.inl rfl) rfl (Nat.le_succ _) (fun g270 g271 => ?_)
              show fx_W _ _ _ 77 lv [.int (X.1 131 49)] _ _
              refine fx_qxI (fun x28 ex28 => ?_)
              refine fx_s0 (j := 5) aj_d271 rfl (Nat.le_succ _) (by decide) (fun _ => rfl) ?_
              obtain ⟨lv29, elv29⟩ : ∃ l, l = aj_set1 lv 5 (.int x28) := ⟨_, rfl⟩
              rw [← elv29]
              have hlv29_0 : aj_lv lv29 0 = some (.ref 117) := fx_e1 elv29 hlv_0 (by decide) (Or.inl (by decide))
              have hlv29_1 : aj_lv lv29 1 = some (.int p1) := fx_e1 elv29 hlv_1 (by decide) (Or.inl (by decide))
              have hlv29_2 : aj_lv lv29 2 = some (.int p2) := fx_e1 elv29 hlv_2 (by decide) (Or.inl (by decide))
              have hlv29_3 : aj_lv lv29 3 = some (.int y3) := fx_e1 elv29 hlv_3 (by decide) (Or.inl (by decide))
              have hlv29_5 : aj_lv lv29 5 = some (.int x28) := by rw [elv29]; exact ak_set1_eq _ _ _
              show fx_W _ _ _ 79 lv29 [] _ _
              exact (ih.2.1) lv29 (y3) (x28) X  hlv29_0 hlv29_1 hlv29_2 hlv29_3 hlv29_5
            · skip
              refine fx_qi (c := ((X.1 131 49)).toInt = 30) (fx_f_ne q25) ?_
              show fx_W _ _ _ 68 lv [] _ _
              refine fx_n (pc' := 69) (lv' := lv) (st' := [.int (Int32.ofInt 0)]) aj_d271 rfl (Nat.le_succ _) (fun _ => rfl) ?_
              exact fx_ri aj_d271 rfl ⟨_, rfl, 0, rfl, rfl⟩
      · skip
        refine fx_qi (c := (y3).toInt < ((X.1 131 49)).toInt) (fx_f_ge q6) ?_
        show fx_W _ _ _ 16 lv [] _ _
        refine fx_i0 aj_d271 rfl (Nat.le_succ _) (fun _ => rfl) hlv_4 ?_
        refine fx_b0 (tgt := 40) aj_d271 rfl (Nat.le_succ _) rfl (fun q30 => ?_) (fun q30 => ?_)
        · skip
          refine fx_qe (c := (y4).toInt < 0) (fx_t_ge q30) ?_
          show fx_W _ _ _ 40 lv [] _ _
          refine fx_i0 aj_d271 rfl (Nat.le_succ _) (fun _ => rfl) hlv_3 ?_
          refine fx_i2 aj_d271 rfl (Nat.le_succ _) (fun _ => rfl) hlv_0 ?_
          refine fx_gF aj_d271 rfl (Nat.le_succ _) rfl rfl fx_in_11_15 (t := 131) rfl (fun hA31 => ?_)
          refine fx_n (pc' := 47) (lv' := lv) (st' := [.int ((Int8.ofInt 49).toInt32), .ref 131, .int y3]) aj_d271 rfl (Nat.le_succ _) (fun _ => rfl) ?_
          refine fx_ld aj_d271 (Or.inl rfl) rfl (Nat.le_succ _) (fun g320 g321 => ?_)
          show fx_W _ _ _ 48 lv [.int (X.1 131 49), .int y3] _ _
          refine fx_b (tgt := 56) aj_d271 rfl (Nat.le_succ _) rfl (fun q33 => ?_) (fun q33 => ?_)
          · skip
            refine fx_qi (c := (y3).toInt = ((X.1 131 49)).toInt) (fx_t_eq q33) ?_
            show fx_W _ _ _ 56 lv [] _ _
            refine fx_i2 aj_d271 rfl (Nat.le_succ _) (fun _ => rfl) hlv_0 ?_
            refine fx_gF aj_d271 rfl (Nat.le_succ _) rfl rfl fx_in_11_15 (t := 131) rfl (fun hA34 => ?_)
            refine fx_n (pc' := 62) (lv' := lv) (st' := [.int ((Int8.ofInt 49).toInt32), .ref 131]) aj_d271 rfl (Nat.le_succ _) (fun _ => rfl) ?_
            refine fx_ld aj_d271 (Or.inl rfl) rfl (Nat.le_succ _) (fun g350 g351 => ?_)
            show fx_W _ _ _ 63 lv [.int (X.1 131 49)] _ _
            refine fx_n (pc' := 65) (lv' := lv) (st' := [.int ((Int8.ofInt 30).toInt32), .int (X.1 131 49)]) aj_d271 rfl (Nat.le_succ _) (fun _ => rfl) ?_
            refine fx_b (tgt := 70) aj_d271 rfl (Nat.le_succ _) rfl (fun q36 => ?_) (fun q36 => ?_)
            · skip
              refine fx_qe (c := ((X.1 131 49)).toInt = 30) (fx_t_ne q36) ?_
              show fx_W _ _ _ 70 lv [] _ _
              refine fx_i2 aj_d271 rfl (Nat.le_succ _) (fun _ => rfl) hlv_0 ?_
              refine fx_gF aj_d271 rfl (Nat.le_succ _) rfl rfl fx_in_11_15 (t := 131) rfl (fun hA37 => ?_)
              refine fx_n (pc' := 76) (lv' := lv) (st' := [.int ((Int8.ofInt 49).toInt32), .ref 131]) aj_d271 rfl (Nat.le_succ _) (fun _ => rfl) ?_
              refine fx_ld aj_d271 (Or.inl rfl) rfl (Nat.le_succ _) (fun g380 g381 => ?_)
              show fx_W _ _ _ 77 lv [.int (X.1 131 49)] _ _
              refine fx_qxI (fun x39 ex39 => ?_)
              refine fx_s0 (j := 5) aj_d271 rfl (Nat.le_succ _) (by decide) (fun _ => rfl) ?_
              obtain ⟨lv40, elv40⟩ : ∃ l, l = aj_set1 lv 5 (.int x39) := ⟨_, rfl⟩
              rw [← elv40]
              have hlv40_0 : aj_lv lv40 0 = some (.ref 117) := fx_e1 elv40 hlv_0 (by decide) (Or.inl (by decide))
              have hlv40_1 : aj_lv lv40 1 = some (.int p1) := fx_e1 elv40 hlv_1 (by decide) (Or.inl (by decide))
              have hlv40_2 : aj_lv lv40 2 = some (.int p2) := fx_e1 elv40 hlv_2 (by decide) (Or.inl (by decide))
              have hlv40_3 : aj_lv lv40 3 = some (.int y3) := fx_e1 elv40 hlv_3 (by decide) (Or.inl (by decide))
              have hlv40_5 : aj_lv lv40 5 = some (.int x39) := by rw [elv40]; exact ak_set1_eq _ _ _
              show fx_W _ _ _ 79 lv40 [] _ _
              exact (ih.2.1) lv40 (y3) (x39) X  hlv40_0 hlv40_1 hlv40_2 hlv40_3 hlv40_5
            · skip
              refine fx_qi (c := ((X.1 131 49)).toInt = 30) (fx_f_ne q36) ?_
              show fx_W _ _ _ 68 lv [] _ _
              refine fx_n (pc' := 69) (lv' := lv) (st' := [.int (Int32.ofInt 0)]) aj_d271 rfl (Nat.le_succ _) (fun _ => rfl) ?_
              exact fx_ri aj_d271 rfl ⟨_, rfl, 0, rfl, rfl⟩
          · skip
            refine fx_qe (c := (y3).toInt = ((X.1 131 49)).toInt) (fx_f_eq q33) ?_
            show fx_W _ _ _ 51 lv [] _ _
            refine fx_i0 aj_d271 rfl (Nat.le_succ _) (fun _ => rfl) hlv_4 ?_
            refine fx_b0 (tgt := 197) aj_d271 rfl (Nat.le_succ _) rfl (fun q41 => ?_) (fun q41 => ?_)
            · skip
              refine fx_qe (c := 0 < (y4).toInt) (fx_t_le q41) ?_
              show fx_W _ _ _ 197 lv [] _ _
              refine fx_i2 aj_d271 rfl (Nat.le_succ _) (fun _ => rfl) hlv_0 ?_
              refine fx_gF aj_d271 rfl (Nat.le_succ _) rfl rfl fx_in_11_20 (t := 136) rfl (fun hA42 => ?_)
              refine fx_i2 aj_d271 rfl (Nat.le_succ _) (fun _ => rfl) hlv_0 ?_
              refine fx_n (pc' := 204) (lv' := lv) (st' := [.int ((Int8.ofInt 49).toInt32), .ref 117, .ref 136]) aj_d271 rfl (Nat.le_succ _) (fun _ => rfl) ?_
              refine fx_i0 aj_d271 rfl (Nat.le_succ _) (fun _ => rfl) hlv_3 ?_
              refine fx_cv aj_d271 rfl (Nat.le_succ _) rfl [_, _] rfl rfl (gx_225_ok ((Int8.ofInt 49).toInt32) y3) ?_
              rintro _ X43 ⟨w44, rfl, hR43⟩ hok43 hle43
              refine fx_qc hR43 ?_
              show fx_W _ _ _ 208 lv [.int w44, .ref 136] _ _
              refine fx_i0 aj_d271 rfl (Nat.le_succ _) (fun _ => rfl) hlv_2 ?_
              refine fx_n (pc' := 210) (lv' := lv) (st' := [.int (Int32.ofInt 1), .int p2, .int w44, .ref 136]) aj_d271 rfl (Nat.le_succ _) (fun _ => rfl) ?_
              refine fx_cs aj_d271 rfl (Nat.le_succ _) rfl rfl [_, _, _, _] rfl rfl (gx_228_ok 136 w44 p2 (Int32.ofInt 1)) ?_
              rintro _ X45 ⟨w46, rfl, hR45⟩ hok45 hle45
              refine fx_qc hR45 ?_
              show fx_W _ _ _ 213 lv [] _ _
              refine fx_n (pc' := 214) (lv' := lv) (st' := [.int (Int32.ofInt 1)]) aj_d271 rfl (Nat.le_succ _) (fun _ => rfl) ?_
              exact fx_ri aj_d271 rfl ⟨_, rfl, 0, rfl, rfl⟩
            · skip
              refine fx_qi (c := 0 < (y4).toInt) (fx_f_le q41) ?_
              show fx_W _ _ _ 56 lv [] _ _
              refine fx_i2 aj_d271 rfl (Nat.le_succ _) (fun _ => rfl) hlv_0 ?_
              refine fx_gF aj_d271 rfl (Nat.le_succ _) rfl rfl fx_in_11_15 (t := 131) rfl (fun hA47 => ?_)
              refine fx_n (pc' := 62) (lv' := lv) (st' := [.int ((Int8.ofInt 49).toInt32), .ref 131]) aj_d271 rfl (Nat.le_succ _) (fun _ => rfl) ?_
              refine fx_ld aj_d271 (Or.inl rfl) rfl (Nat.le_succ _) (fun g480 g481 => ?_)
              show fx_W _ _ _ 63 lv [.int (X.1 131 49)] _ _
              refine fx_n (pc' := 65) (lv' := lv) (st' := [.int ((Int8.ofInt 30).toInt32), .int (X.1 131 49)]) aj_d271 rfl (Nat.le_succ _) (fun _ => rfl) ?_
              refine fx_b (tgt := 70) aj_d271 rfl (Nat.le_succ _) rfl (fun q49 => ?_) (fun q49 => ?_)
              · skip
                refine fx_qe (c := ((X.1 131 49)).toInt = 30) (fx_t_ne q49) ?_
                show fx_W _ _ _ 70 lv [] _ _
                refine fx_i2 aj_d271 rfl (Nat.le_succ _) (fun _ => rfl) hlv_0 ?_
                refine fx_gF aj_d271 rfl (Nat.le_succ _) rfl rfl fx_in_11_15 (t := 131) rfl (fun hA50 => ?_)
                refine fx_n (pc' := 76) (lv' := lv) (st' := [.int ((Int8.ofInt 49).toInt32), .ref 131]) aj_d271 rfl (Nat.le_succ _) (fun _ => rfl) ?_
                refine fx_ld aj_d271 (Or.inl rfl) rfl (Nat.le_succ _) (fun g510 g511 => ?_)
                show fx_W _ _ _ 77 lv [.int (X.1 131 49)] _ _
                refine fx_qxI (fun x52 ex52 => ?_)
                refine fx_s0 (j := 5) aj_d271 rfl (Nat.le_succ _) (by decide) (fun _ => rfl) ?_
                obtain ⟨lv53, elv53⟩ : ∃ l, l = aj_set1 lv 5 (.int x52) := ⟨_, rfl⟩
                rw [← elv53]
                have hlv53_0 : aj_lv lv53 0 = some (.ref 117) := fx_e1 elv53 hlv_0 (by decide) (Or.inl (by decide))
                have hlv53_1 : aj_lv lv53 1 = some (.int p1) := fx_e1 elv53 hlv_1 (by decide) (Or.inl (by decide))
                have hlv53_2 : aj_lv lv53 2 = some (.int p2) := fx_e1 elv53 hlv_2 (by decide) (Or.inl (by decide))
                have hlv53_3 : aj_lv lv53 3 = some (.int y3) := fx_e1 elv53 hlv_3 (by decide) (Or.inl (by decide))
                have hlv53_5 : aj_lv lv53 5 = some (.int x52) := by rw [elv53]; exact ak_set1_eq _ _ _
                show fx_W _ _ _ 79 lv53 [] _ _
                exact (ih.2.1) lv53 (y3) (x52) X  hlv53_0 hlv53_1 hlv53_2 hlv53_3 hlv53_5
              · skip
                refine fx_qi (c := ((X.1 131 49)).toInt = 30) (fx_f_ne q49) ?_
                show fx_W _ _ _ 68 lv [] _ _
                refine fx_n (pc' := 69) (lv' := lv) (st' := [.int (Int32.ofInt 0)]) aj_d271 rfl (Nat.le_succ _) (fun _ => rfl) ?_
                exact fx_ri aj_d271 rfl ⟨_, rfl, 0, rfl, rfl⟩
        · skip
          refine fx_qi (c := (y4).toInt < 0) (fx_f_ge q30) ?_
          show fx_W _ _ _ 21 lv [] _ _
          refine fx_i2 aj_d271 rfl (Nat.le_succ _) (fun _ => rfl) hlv_0 ?_
          refine fx_i0 aj_d271 rfl (Nat.le_succ _) (fun _ => rfl) hlv_3 ?_
          refine fx_i0 aj_d271 rfl (Nat.le_succ _) (fun _ => rfl) hlv_1 ?_
          refine fx_cv aj_d271 rfl (Nat.le_succ _) rfl [_, _] rfl rfl (gx_272_ok y3 p1) ?_
          rintro _ X54 ⟨w55, rfl, hR54⟩ hok54 hle54
          refine fx_qc hR54 ?_
          show fx_W _ _ _ 27 lv [.int w55] _ _
          refine fx_s0 (j := 4) aj_d271 rfl (Nat.le_succ _) (by decide) (fun _ => rfl) ?_
          obtain ⟨lv56, elv56⟩ : ∃ l, l = aj_set1 lv 4 (.int w55) := ⟨_, rfl⟩
          rw [← elv56]
          have hlv56_0 : aj_lv lv56 0 = some (.ref 117) := fx_e1 elv56 hlv_0 (by decide) (Or.inl (by decide))
          have hlv56_1 : aj_lv lv56 1 = some (.int p1) := fx_e1 elv56 hlv_1 (by decide) (Or.inl (by decide))
          have hlv56_2 : aj_lv lv56 2 = some (.int p2) := fx_e1 elv56 hlv_2 (by decide) (Or.inl (by decide))
          have hlv56_3 : aj_lv lv56 3 = some (.int y3) := fx_e1 elv56 hlv_3 (by decide) (Or.inr rfl)
          have hlv56_4 : aj_lv lv56 4 = some (.int w55) := by rw [elv56]; exact ak_set1_eq _ _ _
          show fx_W _ _ _ 29 lv56 [] _ _
          refine fx_i0 aj_d271 rfl (Nat.le_succ _) (fun _ => rfl) hlv56_4 ?_
          refine fx_b0 (tgt := 5) aj_d271 rfl (Nat.le_succ _) rfl (fun q57 => ?_) (fun q57 => ?_)
          · skip
            refine fx_qe (c := (w55).toInt < 0) (fx_t_ge q57) ?_
            show fx_W _ _ _ 5 lv56 [] _ _
            exact (ih.1) lv56 (y3) (w55) X54  hlv56_0 hlv56_1 hlv56_2 hlv56_3 hlv56_4
          · skip
            refine fx_qi (c := (w55).toInt < 0) (fx_f_ge q57) ?_
            show fx_W _ _ _ 34 lv56 [] _ _
            refine fx_incq aj_d271 rfl (Nat.le_succ _) hlv56_3 (by decide) (fun x58 ex58 => ?_)
            obtain ⟨lv59, elv59⟩ : ∃ l, l = aj_set1 lv56 3 (.int x58) := ⟨_, rfl⟩
            rw [← elv59]
            have hlv59_0 : aj_lv lv59 0 = some (.ref 117) := fx_e1 elv59 hlv56_0 (by decide) (Or.inl (by decide))
            have hlv59_1 : aj_lv lv59 1 = some (.int p1) := fx_e1 elv59 hlv56_1 (by decide) (Or.inl (by decide))
            have hlv59_2 : aj_lv lv59 2 = some (.int p2) := fx_e1 elv59 hlv56_2 (by decide) (Or.inr rfl)
            have hlv59_4 : aj_lv lv59 4 = some (.int w55) := fx_e1 elv59 hlv56_4 (by decide) (Or.inl (by decide))
            have hlv59_3 : aj_lv lv59 3 = some (.int x58) := by rw [elv59]; exact ak_set1_eq _ _ _
            show fx_W _ _ _ 37 lv59 [] _ _
            refine fx_n (pc' := 5) (lv' := lv59) (st' := []) aj_d271 rfl (Nat.le_succ _) (fun _ => rfl) ?_
            exact (ih.1) lv59 (x58) (w55) X54  hlv59_0 hlv59_1 hlv59_2 hlv59_3 hlv59_4
    · intro lv y3 y5 X hlv_0 hlv_1 hlv_2 hlv_3 hlv_5
      refine fx_mono (Q := fx_Q fx_qI (fun v X' => ∃ n : Nat, gxT_271_79 p1 p2 (gxF_271 p1 p2 n) y3 y5 X v X')) (fun r X' ⟨v, e, n, z⟩ => ⟨v, e, n + 1, gxI_271_79 z⟩) ?_
      unfold gxT_271_79
      refine fx_i0 aj_d271 rfl (Nat.le_refl _) (fun _ => rfl) hlv_5 ?_
      refine fx_i0 aj_d271 rfl (Nat.le_succ _) (fun _ => rfl) hlv_3 ?_
      refine fx_b (tgt := 105) aj_d271 rfl (Nat.le_succ _) rfl (fun q60 => ?_) (fun q60 => ?_)
      · skip
        refine fx_qe (c := (y3).toInt < (y5).toInt) (fx_t_le q60) ?_
        show fx_W _ _ _ 105 lv [] _ _
        refine fx_i2 aj_d271 rfl (Nat.le_succ _) (fun _ => rfl) hlv_0 ?_
        refine fx_gF aj_d271 rfl (Nat.le_succ _) rfl rfl fx_in_11_15 (t := 131) rfl (fun hA61 => ?_)
        refine fx_n (pc' := 111) (lv' := lv) (st' := [.int ((Int8.ofInt 49).toInt32), .ref 131]) aj_d271 rfl (Nat.le_succ _) (fun _ => rfl) ?_
        refine fx_n (pc' := 112) (lv' := lv) (st' := [.int ((Int8.ofInt 49).toInt32), .ref 131, .int ((Int8.ofInt 49).toInt32), .ref 131]) aj_d271 rfl (Nat.le_succ _) (fun _ => rfl) ?_
        refine fx_ld aj_d271 (Or.inl rfl) rfl (Nat.le_succ _) (fun g620 g621 => ?_)
        show fx_W _ _ _ 113 lv [.int (X.1 131 49), .int ((Int8.ofInt 49).toInt32), .ref 131] _ _
        refine fx_n (pc' := 114) (lv' := lv) (st' := [.int (Int32.ofInt 1), .int (X.1 131 49), .int ((Int8.ofInt 49).toInt32), .ref 131]) aj_d271 rfl (Nat.le_succ _) (fun _ => rfl) ?_
        refine fx_n (pc' := 115) (lv' := lv) (st' := [.int ((X.1 131 49) + (Int32.ofInt 1)), .int ((Int8.ofInt 49).toInt32), .ref 131]) aj_d271 rfl (Nat.le_succ _) (fun _ => rfl) ?_
        refine fx_st aj_d271 (Or.inl ⟨rfl, rfl⟩) rfl (Nat.le_succ _) (fun g630 g631 => ?_)
        show fx_W _ _ _ _ _ _ (fx_wI X 131 49 ((X.1 131 49) + (Int32.ofInt 1))) _
        refine fx_qX (fun X64 eX64 => ?_)
        show fx_W _ _ _ 116 lv [] _ _
        refine fx_n (pc' := 117) (lv' := lv) (st' := [.int (Int32.ofInt 0)]) aj_d271 rfl (Nat.le_succ _) (fun _ => rfl) ?_
        refine fx_s0 (j := 5) aj_d271 rfl (Nat.le_succ _) (by decide) (fun _ => rfl) ?_
        obtain ⟨lv65, elv65⟩ : ∃ l, l = aj_set1 lv 5 (.int (Int32.ofInt 0)) := ⟨_, rfl⟩
        rw [← elv65]
        have hlv65_0 : aj_lv lv65 0 = some (.ref 117) := fx_e1 elv65 hlv_0 (by decide) (Or.inl (by decide))
        have hlv65_1 : aj_lv lv65 1 = some (.int p1) := fx_e1 elv65 hlv_1 (by decide) (Or.inl (by decide))
        have hlv65_2 : aj_lv lv65 2 = some (.int p2) := fx_e1 elv65 hlv_2 (by decide) (Or.inl (by decide))
        have hlv65_3 : aj_lv lv65 3 = some (.int y3) := fx_e1 elv65 hlv_3 (by decide) (Or.inl (by decide))
        have hlv65_5 : aj_lv lv65 5 = some (.int (Int32.ofInt 0)) := by rw [elv65]; exact ak_set1_eq _ _ _
        show fx_W _ _ _ 119 lv65 [] _ _
        exact (ih.2.2.1) lv65 (y3) ((Int32.ofInt 0)) X64  hlv65_0 hlv65_1 hlv65_2 hlv65_3 hlv65_5
      · skip
        refine fx_qi (c := (y3).toInt < (y5).toInt) (fx_f_le q60) ?_
        show fx_W _ _ _ 85 lv [] _ _
        refine fx_i2 aj_d271 rfl (Nat.le_succ _) (fun _ => rfl) hlv_0 ?_
        refine fx_n (pc' := 88) (lv' := lv) (st' := [.int ((Int8.ofInt 49).toInt32), .ref 117]) aj_d271 rfl (Nat.le_succ _) (fun _ => rfl) ?_
        refine fx_i0 aj_d271 rfl (Nat.le_succ _) (fun _ => rfl) hlv_5 ?_
        refine fx_n (pc' := 91) (lv' := lv) (st' := [.int (Int32.ofInt 1), .int y5, .int ((Int8.ofInt 49).toInt32), .ref 117]) aj_d271 rfl (Nat.le_succ _) (fun _ => rfl) ?_
        refine fx_n (pc' := 92) (lv' := lv) (st' := [.int (y5 - (Int32.ofInt 1)), .int ((Int8.ofInt 49).toInt32), .ref 117]) aj_d271 rfl (Nat.le_succ _) (fun _ => rfl) ?_
        refine fx_n (pc' := 94) (lv' := lv) (st' := [.int ((Int8.ofInt 49).toInt32), .int (y5 - (Int32.ofInt 1)), .int ((Int8.ofInt 49).toInt32), .ref 117]) aj_d271 rfl (Nat.le_succ _) (fun _ => rfl) ?_
        refine fx_i0 aj_d271 rfl (Nat.le_succ _) (fun _ => rfl) hlv_5 ?_
        refine fx_cv aj_d271 rfl (Nat.le_succ _) rfl [_, _, _, _] rfl rfl (gx_252_ok ((Int8.ofInt 49).toInt32) (y5 - (Int32.ofInt 1)) ((Int8.ofInt 49).toInt32) y5) ?_
        rintro _ X66 ⟨w67, rfl, hR66⟩ hok66 hle66
        refine fx_qc hR66 ?_
        show fx_W _ _ _ 99 lv [] _ _
        refine fx_incq aj_d271 rfl (Nat.le_succ _) hlv_5 (by decide) (fun x68 ex68 => ?_)
        obtain ⟨lv69, elv69⟩ : ∃ l, l = aj_set1 lv 5 (.int x68) := ⟨_, rfl⟩
        rw [← elv69]
        have hlv69_0 : aj_lv lv69 0 = some (.ref 117) := fx_e1 elv69 hlv_0 (by decide) (Or.inl (by decide))
        have hlv69_1 : aj_lv lv69 1 = some (.int p1) := fx_e1 elv69 hlv_1 (by decide) (Or.inl (by decide))
        have hlv69_2 : aj_lv lv69 2 = some (.int p2) := fx_e1 elv69 hlv_2 (by decide) (Or.inl (by decide))
        have hlv69_3 : aj_lv lv69 3 = some (.int y3) := fx_e1 elv69 hlv_3 (by decide) (Or.inl (by decide))
        have hlv69_5 : aj_lv lv69 5 = some (.int x68) := by rw [elv69]; exact ak_set1_eq _ _ _
        show fx_W _ _ _ 102 lv69 [] _ _
        refine fx_n (pc' := 79) (lv' := lv69) (st' := []) aj_d271 rfl (Nat.le_succ _) (fun _ => rfl) ?_
        exact (ih.2.1) lv69 (y3) (x68) X66  hlv69_0 hlv69_1 hlv69_2 hlv69_3 hlv69_5
    · intro lv y3 y5 X hlv_0 hlv_1 hlv_2 hlv_3 hlv_5
      refine fx_mono (Q := fx_Q fx_qI (fun v X' => ∃ n : Nat, gxT_271_119 p1 p2 (gxF_271 p1 p2 n) y3 y5 X v X')) (fun r X' ⟨v, e, n, z⟩ => ⟨v, e, n + 1, gxI_271_119 z⟩) ?_
      unfold gxT_271_119
      refine fx_i0 aj_d271 rfl (Nat.le_refl _) (fun _ => rfl) hlv_5 ?_
      refine fx_i0 aj_d271 rfl (Nat.le_succ _) (fun _ => rfl) hlv_1 ?_
      refine fx_b (tgt := 165) aj_d271 rfl (Nat.le_succ _) rfl (fun q70 => ?_) (fun q70 => ?_)
      · skip
        refine fx_qe (c := (y5).toInt < (p1).toInt) (fx_t_ge q70) ?_
        show fx_W _ _ _ 165 lv [] _ _
        refine fx_n (pc' := 166) (lv' := lv) (st' := [.int (Int32.ofInt 0)]) aj_d271 rfl (Nat.le_succ _) (fun _ => rfl) ?_
        refine fx_s0 (j := 5) aj_d271 rfl (Nat.le_succ _) (by decide) (fun _ => rfl) ?_
        obtain ⟨lv71, elv71⟩ : ∃ l, l = aj_set1 lv 5 (.int (Int32.ofInt 0)) := ⟨_, rfl⟩
        rw [← elv71]
        have hlv71_0 : aj_lv lv71 0 = some (.ref 117) := fx_e1 elv71 hlv_0 (by decide) (Or.inl (by decide))
        have hlv71_2 : aj_lv lv71 2 = some (.int p2) := fx_e1 elv71 hlv_2 (by decide) (Or.inl (by decide))
        have hlv71_3 : aj_lv lv71 3 = some (.int y3) := fx_e1 elv71 hlv_3 (by decide) (Or.inl (by decide))
        have hlv71_5 : aj_lv lv71 5 = some (.int (Int32.ofInt 0)) := by rw [elv71]; exact ak_set1_eq _ _ _
        show fx_W _ _ _ 168 lv71 [] _ _
        exact (ih.2.2.2) lv71 (y3) ((Int32.ofInt 0)) X  hlv71_0 hlv71_2 hlv71_3 hlv71_5
      · skip
        refine fx_qi (c := (y5).toInt < (p1).toInt) (fx_f_ge q70) ?_
        show fx_W _ _ _ 125 lv [] _ _
        refine fx_i2 aj_d271 rfl (Nat.le_succ _) (fun _ => rfl) hlv_0 ?_
        refine fx_gF aj_d271 rfl (Nat.le_succ _) rfl rfl fx_in_11_18 (t := 134) rfl (fun hA72 => ?_)
        refine fx_n (pc' := 131) (lv' := lv) (st' := [.int ((Int8.ofInt 49).toInt32), .ref 134]) aj_d271 rfl (Nat.le_succ _) (fun _ => rfl) ?_
        refine fx_i0 aj_d271 rfl (Nat.le_succ _) (fun _ => rfl) hlv_3 ?_
        refine fx_i0 aj_d271 rfl (Nat.le_succ _) (fun _ => rfl) hlv_5 ?_
        refine fx_cs aj_d271 rfl (Nat.le_succ _) rfl rfl [_, _, _] rfl rfl (gx_236_ok ((Int8.ofInt 49).toInt32) y3 y5) ?_
        rintro _ X73 ⟨w74, rfl, hR73⟩ hok73 hle73
        refine fx_qc hR73 ?_
        show fx_W _ _ _ 137 lv [.int w74, .ref 134] _ _
        refine fx_n (pc' := 138) (lv' := lv) (st' := [.int (Int32.ofInt 0), .int w74, .ref 134]) aj_d271 rfl (Nat.le_succ _) (fun _ => rfl) ?_
        refine fx_sb (kd := 4) aj_d271 rfl (Nat.le_succ _) ((hle73.2 _ (by rw [hA72]; decide)).trans hA72) (fun g750 g751 => ?_)
        refine fx_qa (c := 0 ≤ (w74).toInt ∧ (w74).toInt < ((12000 : Nat) : Int)) ⟨g750, fx_lnk g751 ((hle73.2 _ (by rw [hA72]; decide)).trans hA72)⟩ ?_
        refine fx_qX (fun X76 eX76 => ?_)
        show fx_W _ _ _ 139 lv [] _ _
        refine fx_i2 aj_d271 rfl (Nat.le_succ _) (fun _ => rfl) hlv_0 ?_
        refine fx_gF aj_d271 rfl (Nat.le_succ _) rfl rfl fx_in_11_19 (t := 135) rfl (fun hA77 => ?_)
        refine fx_n (pc' := 145) (lv' := lv) (st' := [.int ((Int8.ofInt 49).toInt32), .ref 135]) aj_d271 rfl (Nat.le_succ _) (fun _ => rfl) ?_
        refine fx_i0 aj_d271 rfl (Nat.le_succ _) (fun _ => rfl) hlv_3 ?_
        refine fx_i0 aj_d271 rfl (Nat.le_succ _) (fun _ => rfl) hlv_5 ?_
        refine fx_cs aj_d271 rfl (Nat.le_succ _) rfl rfl [_, _, _] rfl rfl (gx_236_ok ((Int8.ofInt 49).toInt32) y3 y5) ?_
        rintro _ X78 ⟨w79, rfl, hR78⟩ hok78 hle78
        refine fx_qc hR78 ?_
        show fx_W _ _ _ 151 lv [.int w79, .ref 135] _ _
        refine fx_i2 aj_d271 rfl (Nat.le_succ _) (fun _ => rfl) hlv_0 ?_
        refine fx_gF aj_d271 rfl (Nat.le_succ _) rfl rfl fx_in_11_59 (t := 144) rfl (fun hA80 => ?_)
        refine fx_i0 aj_d271 rfl (Nat.le_succ _) (fun _ => rfl) hlv_5 ?_
        refine fx_ld aj_d271 (Or.inl rfl) rfl (Nat.le_succ _) (fun g810 g811 => ?_)
        show fx_W _ _ _ 158 lv [.int (X78.1 144 (y5).toInt.toNat), .int w79, .ref 135] _ _
        refine fx_qa (c := 0 ≤ (y5).toInt ∧ (y5).toInt < ((8 : Nat) : Int)) ⟨g810, fx_lnk g811 hA80⟩ ?_
        refine fx_st aj_d271 (Or.inl ⟨rfl, rfl⟩) rfl (Nat.le_succ _) (fun g820 g821 => ?_)
        show fx_W _ _ _ _ _ _ (fx_wI X78 135 (w79).toInt.toNat (X78.1 144 (y5).toInt.toNat)) _
        refine fx_qa (c := 0 ≤ (w79).toInt ∧ (w79).toInt < ((12000 : Nat) : Int)) ⟨g820, fx_lnk g821 ((hle78.2 _ (by rw [hA77]; decide)).trans hA77)⟩ ?_
        refine fx_qX (fun X83 eX83 => ?_)
        show fx_W _ _ _ 159 lv [] _ _
        refine fx_incq aj_d271 rfl (Nat.le_succ _) hlv_5 (by decide) (fun x84 ex84 => ?_)
        obtain ⟨lv85, elv85⟩ : ∃ l, l = aj_set1 lv 5 (.int x84) := ⟨_, rfl⟩
        rw [← elv85]
        have hlv85_0 : aj_lv lv85 0 = some (.ref 117) := fx_e1 elv85 hlv_0 (by decide) (Or.inl (by decide))
        have hlv85_1 : aj_lv lv85 1 = some (.int p1) := fx_e1 elv85 hlv_1 (by decide) (Or.inl (by decide))
        have hlv85_2 : aj_lv lv85 2 = some (.int p2) := fx_e1 elv85 hlv_2 (by decide) (Or.inl (by decide))
        have hlv85_3 : aj_lv lv85 3 = some (.int y3) := fx_e1 elv85 hlv_3 (by decide) (Or.inl (by decide))
        have hlv85_5 : aj_lv lv85 5 = some (.int x84) := by rw [elv85]; exact ak_set1_eq _ _ _
        show fx_W _ _ _ 162 lv85 [] _ _
        refine fx_n (pc' := 119) (lv' := lv85) (st' := []) aj_d271 rfl (Nat.le_succ _) (fun _ => rfl) ?_
        exact (ih.2.2.1) lv85 (y3) (x84) X83  hlv85_0 hlv85_1 hlv85_2 hlv85_3 hlv85_5
    · intro lv y3 y5 X hlv_0 hlv_2 hlv_3 hlv_5
      refine fx_mono (Q := fx_Q fx_qI (fun v X' => ∃ n : Nat, gxT_271_168 p1 p2 (gxF_271 p1 p2 n) y3 y5 X v X')) (fun r X' ⟨v, e, n, z⟩ => ⟨v, e, n + 1, gxI_271_168 z⟩) ?_
      unfold gxT_271_168
      refine fx_i0 aj_d271 rfl (Nat.le_refl _) (fun _ => rfl) hlv_5 ?_
      refine fx_n (pc' := 172) (lv' := lv) (st' := [.int ((Int8.ofInt 32).toInt32), .int y5]) aj_d271 rfl (Nat.le_succ _) (fun _ => rfl) ?_
      refine fx_b (tgt := 197) aj_d271 rfl (Nat.le_succ _) rfl (fun q86 => ?_) (fun q86 => ?_)
      · skip
        refine fx_qe (c := (y5).toInt < 32) (fx_t_ge q86) ?_
        show fx_W _ _ _ 197 lv [] _ _
        refine fx_i2 aj_d271 rfl (Nat.le_succ _) (fun _ => rfl) hlv_0 ?_
        refine fx_gF aj_d271 rfl (Nat.le_succ _) rfl rfl fx_in_11_20 (t := 136) rfl (fun hA87 => ?_)
        refine fx_i2 aj_d271 rfl (Nat.le_succ _) (fun _ => rfl) hlv_0 ?_
        refine fx_n (pc' := 204) (lv' := lv) (st' := [.int ((Int8.ofInt 49).toInt32), .ref 117, .ref 136]) aj_d271 rfl (Nat.le_succ _) (fun _ => rfl) ?_
        refine fx_i0 aj_d271 rfl (Nat.le_succ _) (fun _ => rfl) hlv_3 ?_
        refine fx_cv aj_d271 rfl (Nat.le_succ _) rfl [_, _] rfl rfl (gx_225_ok ((Int8.ofInt 49).toInt32) y3) ?_
        rintro _ X88 ⟨w89, rfl, hR88⟩ hok88 hle88
        refine fx_qc hR88 ?_
        show fx_W _ _ _ 208 lv [.int w89, .ref 136] _ _
        refine fx_i0 aj_d271 rfl (Nat.le_succ _) (fun _ => rfl) hlv_2 ?_
        refine fx_n (pc' := 210) (lv' := lv) (st' := [.int (Int32.ofInt 1), .int p2, .int w89, .ref 136]) aj_d271 rfl (Nat.le_succ _) (fun _ => rfl) ?_
        refine fx_cs aj_d271 rfl (Nat.le_succ _) rfl rfl [_, _, _, _] rfl rfl (gx_228_ok 136 w89 p2 (Int32.ofInt 1)) ?_
        rintro _ X90 ⟨w91, rfl, hR90⟩ hok90 hle90
        refine fx_qc hR90 ?_
        show fx_W _ _ _ 213 lv [] _ _
        refine fx_n (pc' := 214) (lv' := lv) (st' := [.int (Int32.ofInt 1)]) aj_d271 rfl (Nat.le_succ _) (fun _ => rfl) ?_
        exact fx_ri aj_d271 rfl ⟨_, rfl, 0, rfl, rfl⟩
      · skip
        refine fx_qi (c := (y5).toInt < 32) (fx_f_ge q86) ?_
        show fx_W _ _ _ 175 lv [] _ _
        refine fx_i2 aj_d271 rfl (Nat.le_succ _) (fun _ => rfl) hlv_0 ?_
        refine fx_gF aj_d271 rfl (Nat.le_succ _) rfl rfl fx_in_11_20 (t := 136) rfl (fun hA92 => ?_)
        refine fx_i2 aj_d271 rfl (Nat.le_succ _) (fun _ => rfl) hlv_0 ?_
        refine fx_n (pc' := 182) (lv' := lv) (st' := [.int ((Int8.ofInt 49).toInt32), .ref 117, .ref 136]) aj_d271 rfl (Nat.le_succ _) (fun _ => rfl) ?_
        refine fx_i0 aj_d271 rfl (Nat.le_succ _) (fun _ => rfl) hlv_3 ?_
        refine fx_cv aj_d271 rfl (Nat.le_succ _) rfl [_, _] rfl rfl (gx_225_ok ((Int8.ofInt 49).toInt32) y3) ?_
        rintro _ X93 ⟨w94, rfl, hR93⟩ hok93 hle93
        refine fx_qc hR93 ?_
        show fx_W _ _ _ 186 lv [.int w94, .ref 136] _ _
        refine fx_i0 aj_d271 rfl (Nat.le_succ _) (fun _ => rfl) hlv_5 ?_
        refine fx_n (pc' := 189) (lv' := lv) (st' := [.int (w94 + y5), .ref 136]) aj_d271 rfl (Nat.le_succ _) (fun _ => rfl) ?_
        refine fx_n (pc' := 190) (lv' := lv) (st' := [.int (Int32.ofInt 0), .int (w94 + y5), .ref 136]) aj_d271 rfl (Nat.le_succ _) (fun _ => rfl) ?_
        refine fx_st aj_d271 (Or.inl ⟨rfl, rfl⟩) rfl (Nat.le_succ _) (fun g950 g951 => ?_)
        show fx_W _ _ _ _ _ _ (fx_wI X93 136 ((w94 + y5)).toInt.toNat (Int32.ofInt 0)) _
        refine fx_qa (c := 0 ≤ ((w94 + y5)).toInt ∧ ((w94 + y5)).toInt < ((48000 : Nat) : Int)) ⟨g950, fx_lnk g951 ((hle93.2 _ (by rw [hA92]; decide)).trans hA92)⟩ ?_
        refine fx_qX (fun X96 eX96 => ?_)
        show fx_W _ _ _ 191 lv [] _ _
        refine fx_incq aj_d271 rfl (Nat.le_succ _) hlv_5 (by decide) (fun x97 ex97 => ?_)
        obtain ⟨lv98, elv98⟩ : ∃ l, l = aj_set1 lv 5 (.int x97) := ⟨_, rfl⟩
        rw [← elv98]
        have hlv98_0 : aj_lv lv98 0 = some (.ref 117) := fx_e1 elv98 hlv_0 (by decide) (Or.inl (by decide))
        have hlv98_2 : aj_lv lv98 2 = some (.int p2) := fx_e1 elv98 hlv_2 (by decide) (Or.inl (by decide))
        have hlv98_3 : aj_lv lv98 3 = some (.int y3) := fx_e1 elv98 hlv_3 (by decide) (Or.inl (by decide))
        have hlv98_5 : aj_lv lv98 5 = some (.int x97) := by rw [elv98]; exact ak_set1_eq _ _ _
        show fx_W _ _ _ 194 lv98 [] _ _
        refine fx_n (pc' := 168) (lv' := lv98) (st' := []) aj_d271 rfl (Nat.le_succ _) (fun _ => rfl) ?_
        exact (ih.2.2.2) lv98 (y3) (x97) X96  hlv98_0 hlv98_2 hlv98_3 hlv98_5
theorem gx_271_ok {tb : aj_T} (p1 : Int32) (p2 : Int32) {X : fx_X} : fx_K tb 271 [.ref 117, .int p1, .int p2] X (fx_Q fx_qI (fun v X' => gx_271 p1 p2 X v X')) := by
  refine fx_m aj_m271_at rfl (fun N => ?_)
  refine fx_mono (Q := fx_Q fx_qI (fun v X' => ∃ n : Nat, gxE_271 p1 p2 (gxF_271 p1 p2 n) X v X')) (fun r X' h => h) ?_
  unfold gxE_271
  show fx_W _ _ _ 0 [(0, .ref 117), (1, .int p1), (2, .int p2)] [] _ _
  obtain ⟨lv1, elv1⟩ : ∃ l : aj_V, l = [(0, .ref 117), (1, .int p1), (2, .int p2)] := ⟨_, rfl⟩
  rw [← elv1]
  have hlv1_0 : aj_lv lv1 0 = some (.ref 117) := by rw [elv1]; rfl
  have hlv1_1 : aj_lv lv1 1 = some (.int p1) := by rw [elv1]; rfl
  have hlv1_2 : aj_lv lv1 2 = some (.int p2) := by rw [elv1]; rfl
  refine fx_n (pc' := 1) (lv' := lv1) (st' := [.int (Int32.ofInt 0)]) aj_d271 rfl (Nat.le_succ _) (fun _ => rfl) ?_
  refine fx_s0 (j := 3) aj_d271 rfl (Nat.le_succ _) (by decide) (fun _ => rfl) ?_
  obtain ⟨lv2, elv2⟩ : ∃ l, l = aj_set1 lv1 3 (.int (Int32.ofInt 0)) := ⟨_, rfl⟩
  rw [← elv2]
  have hlv2_0 : aj_lv lv2 0 = some (.ref 117) := fx_e1 elv2 hlv1_0 (by decide) (Or.inl (by decide))
  have hlv2_1 : aj_lv lv2 1 = some (.int p1) := fx_e1 elv2 hlv1_1 (by decide) (Or.inl (by decide))
  have hlv2_2 : aj_lv lv2 2 = some (.int p2) := fx_e1 elv2 hlv1_2 (by decide) (Or.inr rfl)
  have hlv2_3 : aj_lv lv2 3 = some (.int (Int32.ofInt 0)) := by rw [elv2]; exact ak_set1_eq _ _ _
  show fx_W _ _ _ 2 lv2 [] _ _
  refine fx_n (pc' := 3) (lv' := lv2) (st' := [.int (Int32.ofInt (-1))]) aj_d271 rfl (Nat.le_succ _) (fun _ => rfl) ?_
  refine fx_s0 (j := 4) aj_d271 rfl (Nat.le_succ _) (by decide) (fun _ => rfl) ?_
  obtain ⟨lv3, elv3⟩ : ∃ l, l = aj_set1 lv2 4 (.int (Int32.ofInt (-1))) := ⟨_, rfl⟩
  rw [← elv3]
  have hlv3_0 : aj_lv lv3 0 = some (.ref 117) := fx_e1 elv3 hlv2_0 (by decide) (Or.inl (by decide))
  have hlv3_1 : aj_lv lv3 1 = some (.int p1) := fx_e1 elv3 hlv2_1 (by decide) (Or.inl (by decide))
  have hlv3_2 : aj_lv lv3 2 = some (.int p2) := fx_e1 elv3 hlv2_2 (by decide) (Or.inl (by decide))
  have hlv3_3 : aj_lv lv3 3 = some (.int (Int32.ofInt 0)) := fx_e1 elv3 hlv2_3 (by decide) (Or.inr rfl)
  have hlv3_4 : aj_lv lv3 4 = some (.int (Int32.ofInt (-1))) := by rw [elv3]; exact ak_set1_eq _ _ _
  show fx_W _ _ _ 5 lv3 [] _ _
  exact ((gxL_271 p1 p2 N).1) lv3 ((Int32.ofInt 0)) ((Int32.ofInt (-1))) X  hlv3_0 hlv3_1 hlv3_2 hlv3_3 hlv3_4
def gxT_265_28 (p1 : Int32) (p2 : Int32) (p3 : Int32) (p4 : Int32) (P : Nat → List Int32 → List Int64 → List Nat → fx_X → Int32 → fx_X → Prop) (y5 : Int32) (y6 : Int32) (X : fx_X) (v : Int32) (X' : fx_X) : Prop :=
  (if (y6).toInt < ((X.1 117 56)).toInt then ((0 ≤ (y6).toInt ∧ (y6).toInt < ((16 : Nat) : Int)) ∧ (0 ≤ (((p1 * ((Int8.ofInt 8).toInt32)) + (X.1 142 (y6).toInt.toNat))).toInt ∧ (((p1 * ((Int8.ofInt 8).toInt32)) + (X.1 142 (y6).toInt.toNat))).toInt < ((400 : Nat) : Int)) ∧ (0 ≤ ((((Int16.ofInt 392).toInt32) + y6)).toInt ∧ ((((Int16.ofInt 392).toInt32) + y6)).toInt < ((400 : Nat) : Int)) ∧ ∃ X22 : fx_X, X22 = (fx_wL X 133 ((((Int16.ofInt 392).toInt32) + y6)).toInt.toNat (X.2.1 133 (((p1 * ((Int8.ofInt 8).toInt32)) + (X.1 142 (y6).toInt.toNat))).toInt.toNat)) ∧ ∃ x23 : Int32, x23 = y6 + Int32.ofInt 1 ∧ P 28 [y5, x23] [] [] X22 v X') else ((0 ≤ ((((Int16.ofInt 392).toInt32) + (X.1 117 56))).toInt ∧ ((((Int16.ofInt 392).toInt32) + (X.1 117 56))).toInt < ((400 : Nat) : Int)) ∧ ∃ X14 : fx_X, X14 = (fx_wL X 133 ((((Int16.ofInt 392).toInt32) + (X.1 117 56))).toInt.toNat (X.2.1 117 33)) ∧ P 91 [y5, (Int32.ofInt 0)] [] [] X14 v X'))
def gxT_265_91 (p1 : Int32) (p2 : Int32) (p3 : Int32) (p4 : Int32) (P : Nat → List Int32 → List Int64 → List Nat → fx_X → Int32 → fx_X → Prop) (y5 : Int32) (y6 : Int32) (X : fx_X) (v : Int32) (X' : fx_X) : Prop :=
  (if ((X.1 117 32)).toInt = 0 then (∃ (w27 : Unit) (X26 : fx_X), gx_251 ((Int8.ofInt 49).toInt32) p1 X w27 X26 ∧ v = (Int32.ofInt 1) ∧ X' = X26) else ((0 ≤ ((X.1 117 37)).toInt ∧ ((X.1 117 37)).toInt < ((2 : Nat) : Int)) ∧ (if (y6).toInt < ((X.1 122 ((X.1 117 37)).toInt.toNat)).toInt then (∃ (w34 : Unit) (X33 : fx_X), gx_266 p1 y6 X w34 X33 ∧ P 122 [y5, y6, (Int32.ofInt 0)] [] [] X33 v X') else (∃ (w32 : Unit) (X31 : fx_X), gx_251 ((Int8.ofInt 49).toInt32) p1 X w32 X31 ∧ v = (Int32.ofInt 1) ∧ X' = X31))))
def gxT_265_122 (p1 : Int32) (p2 : Int32) (p3 : Int32) (p4 : Int32) (P : Nat → List Int32 → List Int64 → List Nat → fx_X → Int32 → fx_X → Prop) (y5 : Int32) (y6 : Int32) (y7 : Int32) (X : fx_X) (v : Int32) (X' : fx_X) : Prop :=
  (if (y7).toInt < ((X.1 117 58)).toInt then (∃ (w40 : Int32) (X39 : fx_X), gx_268 p1 y7 y6 X w40 X39 ∧ (if (w40).toInt = 0 then (∃ x42 : Int32, x42 = y7 + Int32.ofInt 1 ∧ P 122 [y5, y6, x42] [] [] X39 v X') else (∃ (w45 : Unit) (X44 : fx_X), gx_270 p1 y7 p2 p3 y6 X39 w45 X44 ∧ ∃ (w47 : Int32) (X46 : fx_X), gx_271 y5 y6 X44 w47 X46 ∧ (if (w47).toInt = 0 then (∃ (w52 : Int32) (X51 : fx_X), gx_215 ((Int8.ofInt 6).toInt32) p4 X46 w52 X51 ∧ v = w52 ∧ X' = X51) else (∃ x49 : Int32, x49 = y7 + Int32.ofInt 1 ∧ P 122 [y5, y6, x49] [] [] X46 v X'))))) else (∃ x37 : Int32, x37 = y6 + Int32.ofInt 1 ∧ P 91 [y5, x37] [] [] X v X'))
def gxE_265 (p1 : Int32) (p2 : Int32) (p3 : Int32) (p4 : Int32) (P : Nat → List Int32 → List Int64 → List Nat → fx_X → Int32 → fx_X → Prop) (X : fx_X) (v : Int32) (X' : fx_X) : Prop :=
  ∃ x2 : Int32, x2 = ((X.1 117 56) + (Int32.ofInt 1)) ∧ ∃ X6 : fx_X, X6 = (fx_wI X 131 49 (Int32.ofInt 0)) ∧ ∃ X9 : fx_X, X9 = (fx_wI X6 132 49 x2) ∧ P 28 [x2, (Int32.ofInt 0)] [] [] X9 v X'
noncomputable def gxF_265 (p1 : Int32) (p2 : Int32) (p3 : Int32) (p4 : Int32) (n : Nat) : Nat → List Int32 → List Int64 → List Nat → fx_X → Int32 → fx_X → Prop := Nat.rec (motive := fun _ => Nat → List Int32 → List Int64 → List Nat → fx_X → Int32 → fx_X → Prop) (fun _ _ _ _ _ _ _ => False) (fun _ P l is ls rs X v X' => (l = 28 ∧ ∃ (y5 : Int32) (y6 : Int32), is = [y5, y6] ∧ ls = [] ∧ rs = [] ∧ gxT_265_28 p1 p2 p3 p4 P y5 y6 X v X') ∨ (l = 91 ∧ ∃ (y5 : Int32) (y6 : Int32), is = [y5, y6] ∧ ls = [] ∧ rs = [] ∧ gxT_265_91 p1 p2 p3 p4 P y5 y6 X v X') ∨ (l = 122 ∧ ∃ (y5 : Int32) (y6 : Int32) (y7 : Int32), is = [y5, y6, y7] ∧ ls = [] ∧ rs = [] ∧ gxT_265_122 p1 p2 p3 p4 P y5 y6 y7 X v X')) n
theorem gxI_265_28 {p1 : Int32} {p2 : Int32} {p3 : Int32} {p4 : Int32} {n : Nat} {y5 : Int32} {y6 : Int32} {X : fx_X} {v : Int32} {X' : fx_X} (h : gxT_265_28 p1 p2 p3 p4 (gxF_265 p1 p2 p3 p4 n) y5 y6 X v X') : gxF_265 p1 p2 p3 p4 (n + 1) 28 [y5, y6] [] [] X v X' := Or.inl ⟨rfl, y5, y6, rfl, rfl, rfl, h⟩
theorem gxO_265_28 {p1 : Int32} {p2 : Int32} {p3 : Int32} {p4 : Int32} {n : Nat} {y5 : Int32} {y6 : Int32} {X : fx_X} {v : Int32} {X' : fx_X} (h : gxF_265 p1 p2 p3 p4 (n + 1) 28 [y5, y6] [] [] X v X') : gxT_265_28 p1 p2 p3 p4 (gxF_265 p1 p2 p3 p4 n) y5 y6 X v X' := by
  rcases h with ⟨-, _, _, e1, e2, e3, h⟩ | ⟨e, -⟩ | ⟨e, -⟩
  · cases e1; cases e2; cases e3; exact h
  · exact absurd e (by decide)
  · exact absurd e (by decide)
theorem gxI_265_91 {p1 : Int32} {p2 : Int32} {p3 : Int32} {p4 : Int32} {n : Nat} {y5 : Int32} {y6 : Int32} {X : fx_X} {v : Int32} {X' : fx_X} (h : gxT_265_91 p1 p2 p3 p4 (gxF_265 p1 p2 p3 p4 n) y5 y6 X v X') : gxF_265 p1 p2 p3 p4 (n + 1) 91 [y5, y6] [] [] X v X' := Or.inr (Or.inl ⟨rfl, y5, y6, rfl, rfl, rfl, h⟩)
theorem gxO_265_91 {p1 : Int32} {p2 : Int32} {p3 : Int32} {p4 : Int32} {n : Nat} {y5 : Int32} {y6 : Int32} {X : fx_X} {v : Int32} {X' : fx_X} (h : gxF_265 p1 p2 p3 p4 (n + 1) 91 [y5, y6] [] [] X v X') : gxT_265_91 p1 p2 p3 p4 (gxF_265 p1 p2 p3 p4 n) y5 y6 X v X' := by
  rcases h with ⟨e, -⟩ | ⟨-, _, _, e1, e2, e3, h⟩ | ⟨e, -⟩
  · exact absurd e (by decide)
  · cases e1; cases e2; cases e3; exact h
  · exact absurd e (by decide)
theorem gxI_265_122 {p1 : Int32} {p2 : Int32} {p3 : Int32} {p4 : Int32} {n : Nat} {y5 : Int32} {y6 : Int32} {y7 : Int32} {X : fx_X} {v : Int32} {X' : fx_X} (h : gxT_265_122 p1 p2 p3 p4 (gxF_265 p1 p2 p3 p4 n) y5 y6 y7 X v X') : gxF_265 p1 p2 p3 p4 (n + 1) 122 [y5, y6, y7] [] [] X v X' := Or.inr (Or.inr (⟨rfl, y5, y6, y7, rfl, rfl, rfl, h⟩))
theorem gxO_265_122 {p1 : Int32} {p2 : Int32} {p3 : Int32} {p4 : Int32} {n : Nat} {y5 : Int32} {y6 : Int32} {y7 : Int32} {X : fx_X} {v : Int32} {X' : fx_X} (h : gxF_265 p1 p2 p3 p4 (n + 1) 122 [y5, y6, y7] [] [] X v X') : gxT_265_122 p1 p2 p3 p4 (gxF_265 p1 p2 p3 p4 n) y5 y6 y7 X v X' := by
  rcases h with ⟨e, -⟩ | ⟨e, -⟩ | ⟨-, _, _, _, e1, e2, e3, h⟩
  · exact absurd e (by decide)
  · exact absurd e (by decide)
  · cases e1; cases e2; cases e3; exact h
def gx_265 (p1 : Int32) (p2 : Int32) (p3 : Int32) (p4 : Int32) (X : fx_X) (v : Int32) (X' : fx_X) : Prop := ∃ n : Nat, gxE_265 p1 p2 p3 p4 (gxF_265 p1 p2 p3 p4 n) X v X'
theorem gxL_265 {tb : aj_T} (p1 : Int32) (p2 : Int32) (p3 : Int32) (p4 : Int32) : ∀ N : Nat, (∀ (lv : aj_V) (y5 : Int32) (y6 : Int32) (X : fx_X), aj_lv lv 0 = some (.ref 117) → aj_lv lv 1 = some (.int p1) → aj_lv lv 2 = some (.int p2) → aj_lv lv 3 = some (.int p3) → aj_lv lv 4 = some (.int p4) → aj_lv lv 5 = some (.int y5) → aj_lv lv 6 = some (.int y6) → fx_W tb aj_m265 N 28 lv [] X (fx_Q fx_qI (fun v X' => ∃ n : Nat, gxF_265 p1 p2 p3 p4 n 28 [y5, y6] [] [] X v X'))) ∧ (∀ (lv : aj_V) (y5 : Int32) (y6 : Int32) (X : fx_X), aj_lv lv 0 = some (.ref 117) → aj_lv lv 1 = some (.int p1) → aj_lv lv 2 = some (.int p2) → aj_lv lv 3 = some (.int p3) → aj_lv lv 4 = some (.int p4) → aj_lv lv 5 = some (.int y5) → aj_lv lv 6 = some (.int y6) → fx_W tb aj_m265 N 91 lv [] X (fx_Q fx_qI (fun v X' => ∃ n : Nat, gxF_265 p1 p2 p3 p4 n 91 [y5, y6] [] [] X v X'))) ∧ (∀ (lv : aj_V) (y5 : Int32) (y6 : Int32) (y7 : Int32) (X : fx_X), aj_lv lv 0 = some (.ref 117) → aj_lv lv 1 = some (.int p1) → aj_lv lv 2 = some (.int p2) → aj_lv lv 3 = some (.int p3) → aj_lv lv 4 = some (.int p4) → aj_lv lv 5 = some (.int y5) → aj_lv lv 6 = some (.int y6) → aj_lv lv 7 = some (.int y7) → fx_W tb aj_m265 N 122 lv [] X (fx_Q fx_qI (fun v X' => ∃ n : Nat, gxF_265 p1 p2 p3 p4 n 122 [y5, y6, y7] [] [] X v X'))) := by
  intro N
  induction N with
  | zero => exact ⟨(by intros; exact fx_z), (by intros; exact fx_z), (by intros; exact fx_z)⟩
  | succ N ih =>
    refine ⟨?_, ?_, ?_⟩
    · intro lv y5 y6 X hlv_0 hlv_1 hlv_2 hlv_3 hlv_4 hlv_5 hlv_6
      refine fx_mono (Q := fx_Q fx_qI (fun v X' => ∃ n : Nat, gxT_265_28 p1 p2 p3 p4 (gxF_265 p1 p2 p3 p4 n) y5 y6 X v X')) (fun r X' ⟨v, e, n, z⟩ => ⟨v, e, n + 1, gxI_265_28 z⟩) ?_
      unfold gxT_265_28
      refine fx_i0 aj_d265 rfl (Nat.le_refl _) (fun _ => rfl) hlv_6 ?_
      refine fx_i2 aj_d265 rfl (Nat.le_succ _) (fun _ => rfl) hlv_0 ?_
      refine fx_gI aj_d265 rfl (Nat.le_succ _) rfl rfl (Or.inl rfl) ?_
      refine fx_b (tgt := 71) aj_d265 rfl (Nat.le_succ _) rfl (fun q11 => ?_) (fun q11 => ?_)
      · skip
        refine fx_qe (c := (y6).toInt < ((X.1 117 56)).toInt) (fx_t_ge q11) ?_
        show fx_W _ _ _ 71 lv [] _ _
        refine fx_i2 aj_d265 rfl (Nat.le_succ _) (fun _ => rfl) hlv_0 ?_
        refine fx_gF aj_d265 rfl (Nat.le_succ _) rfl rfl fx_in_11_17 (t := 133) rfl (fun hA12 => ?_)
        refine fx_n (pc' := 78) (lv' := lv) (st' := [.int ((Int16.ofInt 392).toInt32), .ref 133]) aj_d265 rfl (Nat.le_succ _) (fun _ => rfl) ?_
        refine fx_i2 aj_d265 rfl (Nat.le_succ _) (fun _ => rfl) hlv_0 ?_
        refine fx_gI aj_d265 rfl (Nat.le_succ _) rfl rfl (Or.inl rfl) ?_
        refine fx_n (pc' := 83) (lv' := lv) (st' := [.int (((Int16.ofInt 392).toInt32) + (X.1 117 56)), .ref 133]) aj_d265 rfl (Nat.le_succ _) (fun _ => rfl) ?_
        refine fx_i2 aj_d265 rfl (Nat.le_succ _) (fun _ => rfl) hlv_0 ?_
        refine fx_gL aj_d265 rfl (Nat.le_succ _) rfl rfl rfl ?_
        refine fx_sL aj_d265 rfl (Nat.le_succ _) (fun g130 g131 => ?_)
        refine fx_qa (c := 0 ≤ ((((Int16.ofInt 392).toInt32) + (X.1 117 56))).toInt ∧ ((((Int16.ofInt 392).toInt32) + (X.1 117 56))).toInt < ((400 : Nat) : Int)) ⟨g130, fx_lnk g131 hA12⟩ ?_
        refine fx_qX (fun X14 eX14 => ?_)
        show fx_W _ _ _ 88 lv [] _ _
        refine fx_n (pc' := 89) (lv' := lv) (st' := [.int (Int32.ofInt 0)]) aj_d265 rfl (Nat.le_succ _) (fun _ => rfl) ?_
        refine fx_s0 (j := 6) aj_d265 rfl (Nat.le_succ _) (by decide) (fun _ => rfl) ?_
        obtain ⟨lv15, elv15⟩ : ∃ l, l = aj_set1 lv 6 (.int (Int32.ofInt 0)) := ⟨_, rfl⟩
        rw [← elv15]
        have hlv15_0 : aj_lv lv15 0 = some (.ref 117) := fx_e1 elv15 hlv_0 (by decide) (Or.inl (by decide))
        have hlv15_1 : aj_lv lv15 1 = some (.int p1) := fx_e1 elv15 hlv_1 (by decide) (Or.inl (by decide))
        have hlv15_2 : aj_lv lv15 2 = some (.int p2) := fx_e1 elv15 hlv_2 (by decide) (Or.inl (by decide))
        have hlv15_3 : aj_lv lv15 3 = some (.int p3) := fx_e1 elv15 hlv_3 (by decide) (Or.inl (by decide))
        have hlv15_4 : aj_lv lv15 4 = some (.int p4) := fx_e1 elv15 hlv_4 (by decide) (Or.inl (by decide))
        have hlv15_5 : aj_lv lv15 5 = some (.int y5) := fx_e1 elv15 hlv_5 (by decide) (Or.inr rfl)
        have hlv15_6 : aj_lv lv15 6 = some (.int (Int32.ofInt 0)) := by rw [elv15]; exact ak_set1_eq _ _ _
        show fx_W _ _ _ 91 lv15 [] _ _
        exact (ih.2.1) lv15 (y5) ((Int32.ofInt 0)) X14  hlv15_0 hlv15_1 hlv15_2 hlv15_3 hlv15_4 hlv15_5 hlv15_6
      · skip
        refine fx_qi (c := (y6).toInt < ((X.1 117 56)).toInt) (fx_f_ge q11) ?_
        show fx_W _ _ _ 37 lv [] _ _
        refine fx_i2 aj_d265 rfl (Nat.le_succ _) (fun _ => rfl) hlv_0 ?_
        refine fx_gF aj_d265 rfl (Nat.le_succ _) rfl rfl fx_in_11_17 (t := 133) rfl (fun hA16 => ?_)
        refine fx_n (pc' := 44) (lv' := lv) (st' := [.int ((Int16.ofInt 392).toInt32), .ref 133]) aj_d265 rfl (Nat.le_succ _) (fun _ => rfl) ?_
        refine fx_i0 aj_d265 rfl (Nat.le_succ _) (fun _ => rfl) hlv_6 ?_
        refine fx_n (pc' := 47) (lv' := lv) (st' := [.int (((Int16.ofInt 392).toInt32) + y6), .ref 133]) aj_d265 rfl (Nat.le_succ _) (fun _ => rfl) ?_
        refine fx_i2 aj_d265 rfl (Nat.le_succ _) (fun _ => rfl) hlv_0 ?_
        refine fx_gF aj_d265 rfl (Nat.le_succ _) rfl rfl fx_in_11_17 (t := 133) rfl (fun hA17 => ?_)
        refine fx_i0 aj_d265 rfl (Nat.le_succ _) (fun _ => rfl) hlv_1 ?_
        refine fx_n (pc' := 54) (lv' := lv) (st' := [.int ((Int8.ofInt 8).toInt32), .int p1, .ref 133, .int (((Int16.ofInt 392).toInt32) + y6), .ref 133]) aj_d265 rfl (Nat.le_succ _) (fun _ => rfl) ?_
        refine fx_n (pc' := 55) (lv' := lv) (st' := [.int (p1 * ((Int8.ofInt 8).toInt32)), .ref 133, .int (((Int16.ofInt 392).toInt32) + y6), .ref 133]) aj_d265 rfl (Nat.le_succ _) (fun _ => rfl) ?_
        refine fx_i2 aj_d265 rfl (Nat.le_succ _) (fun _ => rfl) hlv_0 ?_
        refine fx_gF aj_d265 rfl (Nat.le_succ _) rfl rfl fx_in_11_55 (t := 142) rfl (fun hA18 => ?_)
        refine fx_i0 aj_d265 rfl (Nat.le_succ _) (fun _ => rfl) hlv_6 ?_
        refine fx_ld aj_d265 (Or.inl rfl) rfl (Nat.le_succ _) (fun g190 g191 => ?_)
        show fx_W _ _ _ 62 lv [.int (X.1 142 (y6).toInt.toNat), .int (p1 * ((Int8.ofInt 8).toInt32)), .ref 133, .int (((Int16.ofInt 392).toInt32) + y6), .ref 133] _ _
        refine fx_qa (c := 0 ≤ (y6).toInt ∧ (y6).toInt < ((16 : Nat) : Int)) ⟨g190, fx_lnk g191 hA18⟩ ?_
        refine fx_n (pc' := 63) (lv' := lv) (st' := [.int ((p1 * ((Int8.ofInt 8).toInt32)) + (X.1 142 (y6).toInt.toNat)), .ref 133, .int (((Int16.ofInt 392).toInt32) + y6), .ref 133]) aj_d265 rfl (Nat.le_succ _) (fun _ => rfl) ?_
        refine fx_ldL aj_d265 rfl (Nat.le_succ _) (fun g200 g201 => ?_)
        show fx_W _ _ _ 64 lv [.long (X.2.1 133 (((p1 * ((Int8.ofInt 8).toInt32)) + (X.1 142 (y6).toInt.toNat))).toInt.toNat), .int (((Int16.ofInt 392).toInt32) + y6), .ref 133] _ _
        refine fx_qa (c := 0 ≤ (((p1 * ((Int8.ofInt 8).toInt32)) + (X.1 142 (y6).toInt.toNat))).toInt ∧ (((p1 * ((Int8.ofInt 8).toInt32)) + (X.1 142 (y6).toInt.toNat))).toInt < ((400 : Nat) : Int)) ⟨g200, fx_lnk g201 hA17⟩ ?_
        refine fx_sL aj_d265 rfl (Nat.le_succ _) (fun g210 g211 => ?_)
        refine fx_qa (c := 0 ≤ ((((Int16.ofInt 392).toInt32) + y6)).toInt ∧ ((((Int16.ofInt 392).toInt32) + y6)).toInt < ((400 : Nat) : Int)) ⟨g210, fx_lnk g211 hA16⟩ ?_
        refine fx_qX (fun X22 eX22 => ?_)
        show fx_W _ _ _ 65 lv [] _ _
        refine fx_incq aj_d265 rfl (Nat.le_succ _) hlv_6 (by decide) (fun x23 ex23 => ?_)
        obtain ⟨lv24, elv24⟩ : ∃ l, l = aj_set1 lv 6 (.int x23) := ⟨_, rfl⟩
        rw [← elv24]
        have hlv24_0 : aj_lv lv24 0 = some (.ref 117) := fx_e1 elv24 hlv_0 (by decide) (Or.inl (by decide))
        have hlv24_1 : aj_lv lv24 1 = some (.int p1) := fx_e1 elv24 hlv_1 (by decide) (Or.inl (by decide))
        have hlv24_2 : aj_lv lv24 2 = some (.int p2) := fx_e1 elv24 hlv_2 (by decide) (Or.inl (by decide))
        have hlv24_3 : aj_lv lv24 3 = some (.int p3) := fx_e1 elv24 hlv_3 (by decide) (Or.inl (by decide))
        have hlv24_4 : aj_lv lv24 4 = some (.int p4) := fx_e1 elv24 hlv_4 (by decide) (Or.inl (by decide))
        have hlv24_5 : aj_lv lv24 5 = some (.int y5) := fx_e1 elv24 hlv_5 (by decide) (Or.inr rfl)
        have hlv24_6 : aj_lv lv24 6 = some (.int x23) := by rw [elv24]; exact ak_set1_eq _ _ _
        show fx_W _ _ _ 68 lv24 [] _ _
        refine fx_n (pc' := 28) (lv' := lv24) (st' := []) aj_d265 rfl (Nat.le_succ _) (fun _ => rfl) ?_
        exact (ih.1) lv24 (y5) (x23) X22  hlv24_0 hlv24_1 hlv24_2 hlv24_3 hlv24_4 hlv24_5 hlv24_6
    · intro lv y5 y6 X hlv_0 hlv_1 hlv_2 hlv_3 hlv_4 hlv_5 hlv_6
      refine fx_mono (Q := fx_Q fx_qI (fun v X' => ∃ n : Nat, gxT_265_91 p1 p2 p3 p4 (gxF_265 p1 p2 p3 p4 n) y5 y6 X v X')) (fun r X' ⟨v, e, n, z⟩ => ⟨v, e, n + 1, gxI_265_91 z⟩) ?_
      unfold gxT_265_91
      refine fx_i2 aj_d265 rfl (Nat.le_refl _) (fun _ => rfl) hlv_0 ?_
      refine fx_gI aj_d265 rfl (Nat.le_succ _) rfl rfl (Or.inr (Or.inl rfl)) ?_
      refine fx_b0 (tgt := 186) aj_d265 rfl (Nat.le_succ _) rfl (fun q25 => ?_) (fun q25 => ?_)
      · skip
        refine fx_qi (c := ((X.1 117 32)).toInt = 0) (fx_t_eq q25) ?_
        show fx_W _ _ _ 186 lv [] _ _
        refine fx_i2 aj_d265 rfl (Nat.le_succ _) (fun _ => rfl) hlv_0 ?_
        refine fx_n (pc' := 189) (lv' := lv) (st' := [.int ((Int8.ofInt 49).toInt32), .ref 117]) aj_d265 rfl (Nat.le_succ _) (fun _ => rfl) ?_
        refine fx_i0 aj_d265 rfl (Nat.le_succ _) (fun _ => rfl) hlv_1 ?_
        refine fx_cv aj_d265 rfl (Nat.le_succ _) rfl [_, _] rfl rfl (gx_251_ok ((Int8.ofInt 49).toInt32) p1) ?_
        rintro _ X26 ⟨w27, rfl, hR26⟩ hok26 hle26
        refine fx_qc hR26 ?_
        show fx_W _ _ _ 193 lv [] _ _
        refine fx_n (pc' := 194) (lv' := lv) (st' := [.int (Int32.ofInt 1)]) aj_d265 rfl (Nat.le_succ _) (fun _ => rfl) ?_
        exact fx_ri aj_d265 rfl ⟨_, rfl, 0, rfl, rfl⟩
      · skip
        refine fx_qe (c := ((X.1 117 32)).toInt = 0) (fx_f_eq q25) ?_
        show fx_W _ _ _ 98 lv [] _ _
        refine fx_i0 aj_d265 rfl (Nat.le_succ _) (fun _ => rfl) hlv_6 ?_
        refine fx_i2 aj_d265 rfl (Nat.le_succ _) (fun _ => rfl) hlv_0 ?_
        refine fx_gF aj_d265 rfl (Nat.le_succ _) rfl rfl fx_in_11_5 (t := 122) rfl (fun hA28 => ?_)
        refine fx_i2 aj_d265 rfl (Nat.le_succ _) (fun _ => rfl) hlv_0 ?_
        refine fx_gI aj_d265 rfl (Nat.le_succ _) rfl rfl (Or.inl rfl) ?_
        refine fx_ld aj_d265 (Or.inl rfl) rfl (Nat.le_succ _) (fun g290 g291 => ?_)
        show fx_W _ _ _ 109 lv [.int (X.1 122 ((X.1 117 37)).toInt.toNat), .int y6] _ _
        refine fx_qa (c := 0 ≤ ((X.1 117 37)).toInt ∧ ((X.1 117 37)).toInt < ((2 : Nat) : Int)) ⟨g290, fx_lnk g291 hA28⟩ ?_
        refine fx_b (tgt := 186) aj_d265 rfl (Nat.le_succ _) rfl (fun q30 => ?_) (fun q30 => ?_)
        · skip
          refine fx_qe (c := (y6).toInt < ((X.1 122 ((X.1 117 37)).toInt.toNat)).toInt) (fx_t_ge q30) ?_
          show fx_W _ _ _ 186 lv [] _ _
          refine fx_i2 aj_d265 rfl (Nat.le_succ _) (fun _ => rfl) hlv_0 ?_
          refine fx_n (pc' := 189) (lv' := lv) (st' := [.int ((Int8.ofInt 49).toInt32), .ref 117]) aj_d265 rfl (Nat.le_succ _) (fun _ => rfl) ?_
          refine fx_i0 aj_d265 rfl (Nat.le_succ _) (fun _ => rfl) hlv_1 ?_
          refine fx_cv aj_d265 rfl (Nat.le_succ _) rfl [_, _] rfl rfl (gx_251_ok ((Int8.ofInt 49).toInt32) p1) ?_
          rintro _ X31 ⟨w32, rfl, hR31⟩ hok31 hle31
          refine fx_qc hR31 ?_
          show fx_W _ _ _ 193 lv [] _ _
          refine fx_n (pc' := 194) (lv' := lv) (st' := [.int (Int32.ofInt 1)]) aj_d265 rfl (Nat.le_succ _) (fun _ => rfl) ?_
          exact fx_ri aj_d265 rfl ⟨_, rfl, 0, rfl, rfl⟩
        · skip
          refine fx_qi (c := (y6).toInt < ((X.1 122 ((X.1 117 37)).toInt.toNat)).toInt) (fx_f_ge q30) ?_
          show fx_W _ _ _ 112 lv [] _ _
          refine fx_i2 aj_d265 rfl (Nat.le_succ _) (fun _ => rfl) hlv_0 ?_
          refine fx_i0 aj_d265 rfl (Nat.le_succ _) (fun _ => rfl) hlv_1 ?_
          refine fx_i0 aj_d265 rfl (Nat.le_succ _) (fun _ => rfl) hlv_6 ?_
          refine fx_cv aj_d265 rfl (Nat.le_succ _) rfl [_, _] rfl rfl (gx_266_ok p1 y6) ?_
          rintro _ X33 ⟨w34, rfl, hR33⟩ hok33 hle33
          refine fx_qc hR33 ?_
          show fx_W _ _ _ 119 lv [] _ _
          refine fx_n (pc' := 120) (lv' := lv) (st' := [.int (Int32.ofInt 0)]) aj_d265 rfl (Nat.le_succ _) (fun _ => rfl) ?_
          refine fx_s0 (j := 7) aj_d265 rfl (Nat.le_succ _) (by decide) (fun _ => rfl) ?_
          obtain ⟨lv35, elv35⟩ : ∃ l, l = aj_set1 lv 7 (.int (Int32.ofInt 0)) := ⟨_, rfl⟩
          rw [← elv35]
          have hlv35_0 : aj_lv lv35 0 = some (.ref 117) := fx_e1 elv35 hlv_0 (by decide) (Or.inl (by decide))
          have hlv35_1 : aj_lv lv35 1 = some (.int p1) := fx_e1 elv35 hlv_1 (by decide) (Or.inl (by decide))
          have hlv35_2 : aj_lv lv35 2 = some (.int p2) := fx_e1 elv35 hlv_2 (by decide) (Or.inl (by decide))
          have hlv35_3 : aj_lv lv35 3 = some (.int p3) := fx_e1 elv35 hlv_3 (by decide) (Or.inl (by decide))
          have hlv35_4 : aj_lv lv35 4 = some (.int p4) := fx_e1 elv35 hlv_4 (by decide) (Or.inl (by decide))
          have hlv35_5 : aj_lv lv35 5 = some (.int y5) := fx_e1 elv35 hlv_5 (by decide) (Or.inl (by decide))
          have hlv35_6 : aj_lv lv35 6 = some (.int y6) := fx_e1 elv35 hlv_6 (by decide) (Or.inr rfl)
          have hlv35_7 : aj_lv lv35 7 = some (.int (Int32.ofInt 0)) := by rw [elv35]; exact ak_set1_eq _ _ _
          show fx_W _ _ _ 122 lv35 [] _ _
          exact (ih.2.2) lv35 (y5) (y6) ((Int32.ofInt 0)) X33  hlv35_0 hlv35_1 hlv35_2 hlv35_3 hlv35_4 hlv35_5 hlv35_6 hlv35_7
    · intro lv y5 y6 y7 X hlv_0 hlv_1 hlv_2 hlv_3 hlv_4 hlv_5 hlv_6 hlv_7
      refine fx_mono (Q := fx_Q fx_qI (fun v X' => ∃ n : Nat, gxT_265_122 p1 p2 p3 p4 (gxF_265 p1 p2 p3 p4 n) y5 y6 y7 X v X')) (fun r X' ⟨v, e, n, z⟩ => ⟨v, e, n + 1, gxI_265_122 z⟩) ?_
      unfold gxT_265_122
      refine fx_i0 aj_d265 rfl (Nat.le_refl _) (fun _ => rfl) hlv_7 ?_
      refine fx_i2 aj_d265 rfl (Nat.le_succ _) (fun _ => rfl) hlv_0 ?_
      refine fx_gI aj_d265 rfl (Nat.le_succ _) rfl rfl (Or.inl rfl) ?_
      refine fx_b (tgt := 180) aj_d265 rfl (Nat.le_succ _) rfl (fun q36 => ?_) (fun q36 => ?_)
      · skip
        refine fx_qe (c := (y7).toInt < ((X.1 117 58)).toInt) (fx_t_ge q36) ?_
        show fx_W _ _ _ 180 lv [] _ _
        refine fx_incq aj_d265 rfl (Nat.le_succ _) hlv_6 (by decide) (fun x37 ex37 => ?_)
        obtain ⟨lv38, elv38⟩ : ∃ l, l = aj_set1 lv 6 (.int x37) := ⟨_, rfl⟩
        rw [← elv38]
        have hlv38_0 : aj_lv lv38 0 = some (.ref 117) := fx_e1 elv38 hlv_0 (by decide) (Or.inl (by decide))
        have hlv38_1 : aj_lv lv38 1 = some (.int p1) := fx_e1 elv38 hlv_1 (by decide) (Or.inl (by decide))
        have hlv38_2 : aj_lv lv38 2 = some (.int p2) := fx_e1 elv38 hlv_2 (by decide) (Or.inl (by decide))
        have hlv38_3 : aj_lv lv38 3 = some (.int p3) := fx_e1 elv38 hlv_3 (by decide) (Or.inl (by decide))
        have hlv38_4 : aj_lv lv38 4 = some (.int p4) := fx_e1 elv38 hlv_4 (by decide) (Or.inl (by decide))
        have hlv38_5 : aj_lv lv38 5 = some (.int y5) := fx_e1 elv38 hlv_5 (by decide) (Or.inr rfl)
        have hlv38_6 : aj_lv lv38 6 = some (.int x37) := by rw [elv38]; exact ak_set1_eq _ _ _
        show fx_W _ _ _ 183 lv38 [] _ _
        refine fx_n (pc' := 91) (lv' := lv38) (st' := []) aj_d265 rfl (Nat.le_succ _) (fun _ => rfl) ?_
        exact (ih.2.1) lv38 (y5) (x37) X  hlv38_0 hlv38_1 hlv38_2 hlv38_3 hlv38_4 hlv38_5 hlv38_6
      · skip
        refine fx_qi (c := (y7).toInt < ((X.1 117 58)).toInt) (fx_f_ge q36) ?_
        show fx_W _ _ _ 131 lv [] _ _
        refine fx_i2 aj_d265 rfl (Nat.le_succ _) (fun _ => rfl) hlv_0 ?_
        refine fx_i0 aj_d265 rfl (Nat.le_succ _) (fun _ => rfl) hlv_1 ?_
        refine fx_i0 aj_d265 rfl (Nat.le_succ _) (fun _ => rfl) hlv_7 ?_
        refine fx_i0 aj_d265 rfl (Nat.le_succ _) (fun _ => rfl) hlv_6 ?_
        refine fx_cv aj_d265 rfl (Nat.le_succ _) rfl [_, _, _] rfl rfl (gx_268_ok p1 y7 y6) ?_
        rintro _ X39 ⟨w40, rfl, hR39⟩ hok39 hle39
        refine fx_qc hR39 ?_
        show fx_W _ _ _ 140 lv [.int w40] _ _
        refine fx_b0 (tgt := 174) aj_d265 rfl (Nat.le_succ _) rfl (fun q41 => ?_) (fun q41 => ?_)
        · skip
          refine fx_qi (c := (w40).toInt = 0) (fx_t_eq q41) ?_
          show fx_W _ _ _ 174 lv [] _ _
          refine fx_incq aj_d265 rfl (Nat.le_succ _) hlv_7 (by decide) (fun x42 ex42 => ?_)
          obtain ⟨lv43, elv43⟩ : ∃ l, l = aj_set1 lv 7 (.int x42) := ⟨_, rfl⟩
          rw [← elv43]
          have hlv43_0 : aj_lv lv43 0 = some (.ref 117) := fx_e1 elv43 hlv_0 (by decide) (Or.inl (by decide))
          have hlv43_1 : aj_lv lv43 1 = some (.int p1) := fx_e1 elv43 hlv_1 (by decide) (Or.inl (by decide))
          have hlv43_2 : aj_lv lv43 2 = some (.int p2) := fx_e1 elv43 hlv_2 (by decide) (Or.inl (by decide))
          have hlv43_3 : aj_lv lv43 3 = some (.int p3) := fx_e1 elv43 hlv_3 (by decide) (Or.inl (by decide))
          have hlv43_4 : aj_lv lv43 4 = some (.int p4) := fx_e1 elv43 hlv_4 (by decide) (Or.inl (by decide))
          have hlv43_5 : aj_lv lv43 5 = some (.int y5) := fx_e1 elv43 hlv_5 (by decide) (Or.inl (by decide))
          have hlv43_6 : aj_lv lv43 6 = some (.int y6) := fx_e1 elv43 hlv_6 (by decide) (Or.inr rfl)
          have hlv43_7 : aj_lv lv43 7 = some (.int x42) := by rw [elv43]; exact ak_set1_eq _ _ _
          show fx_W _ _ _ 177 lv43 [] _ _
          refine fx_n (pc' := 122) (lv' := lv43) (st' := []) aj_d265 rfl (Nat.le_succ _) (fun _ => rfl) ?_
          exact (ih.2.2) lv43 (y5) (y6) (x42) X39  hlv43_0 hlv43_1 hlv43_2 hlv43_3 hlv43_4 hlv43_5 hlv43_6 hlv43_7
        · skip
          refine fx_qe (c := (w40).toInt = 0) (fx_f_eq q41) ?_
          show fx_W _ _ _ 143 lv [] _ _
          refine fx_i2 aj_d265 rfl (Nat.le_succ _) (fun _ => rfl) hlv_0 ?_
          refine fx_i0 aj_d265 rfl (Nat.le_succ _) (fun _ => rfl) hlv_1 ?_
          refine fx_i0 aj_d265 rfl (Nat.le_succ _) (fun _ => rfl) hlv_7 ?_
          refine fx_i0 aj_d265 rfl (Nat.le_succ _) (fun _ => rfl) hlv_2 ?_
          refine fx_i0 aj_d265 rfl (Nat.le_succ _) (fun _ => rfl) hlv_3 ?_
          refine fx_i0 aj_d265 rfl (Nat.le_succ _) (fun _ => rfl) hlv_6 ?_
          refine fx_cv aj_d265 rfl (Nat.le_succ _) rfl [_, _, _, _, _] rfl rfl (gx_270_ok p1 y7 p2 p3 y6) ?_
          rintro _ X44 ⟨w45, rfl, hR44⟩ hok44 hle44
          refine fx_qc hR44 ?_
          show fx_W _ _ _ 154 lv [] _ _
          refine fx_i2 aj_d265 rfl (Nat.le_succ _) (fun _ => rfl) hlv_0 ?_
          refine fx_i0 aj_d265 rfl (Nat.le_succ _) (fun _ => rfl) hlv_5 ?_
          refine fx_i0 aj_d265 rfl (Nat.le_succ _) (fun _ => rfl) hlv_6 ?_
          refine fx_cv aj_d265 rfl (Nat.le_succ _) rfl [_, _] rfl rfl (gx_271_ok y5 y6) ?_
          rintro _ X46 ⟨w47, rfl, hR46⟩ hok46 hle46
          refine fx_qc hR46 ?_
          show fx_W _ _ _ 162 lv [.int w47] _ _
          refine fx_b0 (tgt := 174) aj_d265 rfl (Nat.le_succ _) rfl (fun q48 => ?_) (fun q48 => ?_)
          · skip
            refine fx_qe (c := (w47).toInt = 0) (fx_t_ne q48) ?_
            show fx_W _ _ _ 174 lv [] _ _
            refine fx_incq aj_d265 rfl (Nat.le_succ _) hlv_7 (by decide) (fun x49 ex49 => ?_)
            obtain ⟨lv50, elv50⟩ : ∃ l, l = aj_set1 lv 7 (.int x49) := ⟨_, rfl⟩
            rw [← elv50]
            have hlv50_0 : aj_lv lv50 0 = some (.ref 117) := fx_e1 elv50 hlv_0 (by decide) (Or.inl (by decide))
            have hlv50_1 : aj_lv lv50 1 = some (.int p1) := fx_e1 elv50 hlv_1 (by decide) (Or.inl (by decide))
            have hlv50_2 : aj_lv lv50 2 = some (.int p2) := fx_e1 elv50 hlv_2 (by decide) (Or.inl (by decide))
            have hlv50_3 : aj_lv lv50 3 = some (.int p3) := fx_e1 elv50 hlv_3 (by decide) (Or.inl (by decide))
            have hlv50_4 : aj_lv lv50 4 = some (.int p4) := fx_e1 elv50 hlv_4 (by decide) (Or.inl (by decide))
            have hlv50_5 : aj_lv lv50 5 = some (.int y5) := fx_e1 elv50 hlv_5 (by decide) (Or.inl (by decide))
            have hlv50_6 : aj_lv lv50 6 = some (.int y6) := fx_e1 elv50 hlv_6 (by decide) (Or.inr rfl)
            have hlv50_7 : aj_lv lv50 7 = some (.int x49) := by rw [elv50]; exact ak_set1_eq _ _ _
            show fx_W _ _ _ 177 lv50 [] _ _
            refine fx_n (pc' := 122) (lv' := lv50) (st' := []) aj_d265 rfl (Nat.le_succ _) (fun _ => rfl) ?_
            exact (ih.2.2) lv50 (y5) (y6) (x49) X46  hlv50_0 hlv50_1 hlv50_2 hlv50_3 hlv50_4 hlv50_5 hlv50_6 hlv50_7
          · skip
            refine fx_qi (c := (w47).toInt = 0) (fx_f_ne q48) ?_
            show fx_W _ _ _ 165 lv [] _ _
            refine fx_i2 aj_d265 rfl (Nat.le_succ _) (fun _ => rfl) hlv_0 ?_
            refine fx_n (pc' := 168) (lv' := lv) (st' := [.int ((Int8.ofInt 6).toInt32), .ref 117]) aj_d265 rfl (Nat.le_succ _) (fun _ => rfl) ?_
            refine fx_i0 aj_d265 rfl (Nat.le_succ _) (fun _ => rfl) hlv_4 ?_
            refine fx_cv aj_d265 rfl (Nat.le_succ _) rfl [_, _] rfl rfl (gx_215_ok ((Int8.ofInt 6).toInt32) p4) ?_
            rintro _ X51 ⟨w52, rfl, hR51⟩ hok51 hle51
            refine fx_qc hR51 ?_
            show fx_W _ _ _ 173 lv [.int w52] _ _
            exact fx_ri aj_d265 rfl ⟨_, rfl, 0, rfl, rfl⟩
theorem gx_265_ok {tb : aj_T} (p1 : Int32) (p2 : Int32) (p3 : Int32) (p4 : Int32) {X : fx_X} : fx_K tb 265 [.ref 117, .int p1, .int p2, .int p3, .int p4] X (fx_Q fx_qI (fun v X' => gx_265 p1 p2 p3 p4 X v X')) := by
  refine fx_m aj_m265_at rfl (fun N => ?_)
  refine fx_mono (Q := fx_Q fx_qI (fun v X' => ∃ n : Nat, gxE_265 p1 p2 p3 p4 (gxF_265 p1 p2 p3 p4 n) X v X')) (fun r X' h => h) ?_
  unfold gxE_265
  show fx_W _ _ _ 0 [(0, .ref 117), (1, .int p1), (2, .int p2), (3, .int p3), (4, .int p4)] [] _ _
  obtain ⟨lv1, elv1⟩ : ∃ l : aj_V, l = [(0, .ref 117), (1, .int p1), (2, .int p2), (3, .int p3), (4, .int p4)] := ⟨_, rfl⟩
  rw [← elv1]
  have hlv1_0 : aj_lv lv1 0 = some (.ref 117) := by rw [elv1]; rfl
  have hlv1_1 : aj_lv lv1 1 = some (.int p1) := by rw [elv1]; rfl
  have hlv1_2 : aj_lv lv1 2 = some (.int p2) := by rw [elv1]; rfl
  have hlv1_3 : aj_lv lv1 3 = some (.int p3) := by rw [elv1]; rfl
  have hlv1_4 : aj_lv lv1 4 = some (.int p4) := by rw [elv1]; rfl
  refine fx_i2 aj_d265 rfl (Nat.le_succ _) (fun _ => rfl) hlv1_0 ?_
  refine fx_gI aj_d265 rfl (Nat.le_succ _) rfl rfl (Or.inl rfl) ?_
  refine fx_n (pc' := 5) (lv' := lv1) (st' := [.int (Int32.ofInt 1), .int (X.1 117 56)]) aj_d265 rfl (Nat.le_succ _) (fun _ => rfl) ?_
  refine fx_n (pc' := 6) (lv' := lv1) (st' := [.int ((X.1 117 56) + (Int32.ofInt 1))]) aj_d265 rfl (Nat.le_succ _) (fun _ => rfl) ?_
  refine fx_qxI (fun x2 ex2 => ?_)
  refine fx_s0 (j := 5) aj_d265 rfl (Nat.le_succ _) (by decide) (fun _ => rfl) ?_
  obtain ⟨lv3, elv3⟩ : ∃ l, l = aj_set1 lv1 5 (.int x2) := ⟨_, rfl⟩
  rw [← elv3]
  have hlv3_0 : aj_lv lv3 0 = some (.ref 117) := fx_e1 elv3 hlv1_0 (by decide) (Or.inl (by decide))
  have hlv3_1 : aj_lv lv3 1 = some (.int p1) := fx_e1 elv3 hlv1_1 (by decide) (Or.inl (by decide))
  have hlv3_2 : aj_lv lv3 2 = some (.int p2) := fx_e1 elv3 hlv1_2 (by decide) (Or.inl (by decide))
  have hlv3_3 : aj_lv lv3 3 = some (.int p3) := fx_e1 elv3 hlv1_3 (by decide) (Or.inl (by decide))
  have hlv3_4 : aj_lv lv3 4 = some (.int p4) := fx_e1 elv3 hlv1_4 (by decide) (Or.inr rfl)
  have hlv3_5 : aj_lv lv3 5 = some (.int x2) := by rw [elv3]; exact ak_set1_eq _ _ _
  show fx_W _ _ _ 8 lv3 [] _ _
  refine fx_i2 aj_d265 rfl (Nat.le_succ _) (fun _ => rfl) hlv3_0 ?_
  refine fx_gF aj_d265 rfl (Nat.le_succ _) rfl rfl fx_in_11_15 (t := 131) rfl (fun hA4 => ?_)
  refine fx_n (pc' := 14) (lv' := lv3) (st' := [.int ((Int8.ofInt 49).toInt32), .ref 131]) aj_d265 rfl (Nat.le_succ _) (fun _ => rfl) ?_
  refine fx_n (pc' := 15) (lv' := lv3) (st' := [.int (Int32.ofInt 0), .int ((Int8.ofInt 49).toInt32), .ref 131]) aj_d265 rfl (Nat.le_succ _) (fun _ => rfl) ?_
  refine fx_st aj_d265 (Or.inl ⟨rfl, rfl⟩) rfl (Nat.le_succ _) (fun g50 g51 => ?_)
  show fx_W _ _ _ _ _ _ (fx_wI X 131 49 (Int32.ofInt 0)) _
  refine fx_qX (fun X6 eX6 => ?_)
  show fx_W _ _ _ 16 lv3 [] _ _
  refine fx_i2 aj_d265 rfl (Nat.le_succ _) (fun _ => rfl) hlv3_0 ?_
  refine fx_gF aj_d265 rfl (Nat.le_succ _) rfl rfl fx_in_11_16 (t := 132) rfl (fun hA7 => ?_)
  refine fx_n (pc' := 22) (lv' := lv3) (st' := [.int ((Int8.ofInt 49).toInt32), .ref 132]) aj_d265 rfl (Nat.le_succ _) (fun _ => rfl) ?_
  refine fx_i0 aj_d265 rfl (Nat.le_succ _) (fun _ => rfl) hlv3_5 ?_
  refine fx_st aj_d265 (Or.inl ⟨rfl, rfl⟩) rfl (Nat.le_succ _) (fun g80 g81 => ?_)
  show fx_W _ _ _ _ _ _ (fx_wI X6 132 49 x2) _
  refine fx_qX (fun X9 eX9 => ?_)
  show fx_W _ _ _ 25 lv3 [] _ _
  refine fx_n (pc' := 26) (lv' := lv3) (st' := [.int (Int32.ofInt 0)]) aj_d265 rfl (Nat.le_succ _) (fun _ => rfl) ?_
  refine fx_s0 (j := 6) aj_d265 rfl (Nat.le_succ _) (by decide) (fun _ => rfl) ?_
  obtain ⟨lv10, elv10⟩ : ∃ l, l = aj_set1 lv3 6 (.int (Int32.ofInt 0)) := ⟨_, rfl⟩
  rw [← elv10]
  have hlv10_0 : aj_lv lv10 0 = some (.ref 117) := fx_e1 elv10 hlv3_0 (by decide) (Or.inl (by decide))
  have hlv10_1 : aj_lv lv10 1 = some (.int p1) := fx_e1 elv10 hlv3_1 (by decide) (Or.inl (by decide))
  have hlv10_2 : aj_lv lv10 2 = some (.int p2) := fx_e1 elv10 hlv3_2 (by decide) (Or.inl (by decide))
  have hlv10_3 : aj_lv lv10 3 = some (.int p3) := fx_e1 elv10 hlv3_3 (by decide) (Or.inl (by decide))
  have hlv10_4 : aj_lv lv10 4 = some (.int p4) := fx_e1 elv10 hlv3_4 (by decide) (Or.inl (by decide))
  have hlv10_5 : aj_lv lv10 5 = some (.int x2) := fx_e1 elv10 hlv3_5 (by decide) (Or.inr rfl)
  have hlv10_6 : aj_lv lv10 6 = some (.int (Int32.ofInt 0)) := by rw [elv10]; exact ak_set1_eq _ _ _
  show fx_W _ _ _ 28 lv10 [] _ _
  exact ((gxL_265 p1 p2 p3 p4 N).1) lv10 (x2) ((Int32.ofInt 0)) X9  hlv10_0 hlv10_1 hlv10_2 hlv10_3 hlv10_4 hlv10_5 hlv10_6
def gxT_263_47 (p1 : Int32) (P : Nat → List Int32 → List Int64 → List Nat → fx_X → Int32 → fx_X → Prop) (y2 : Int32) (X : fx_X) (v : Int32) (X' : fx_X) : Prop :=
  ∃ (w40 : Int32) (X39 : fx_X), gx_215 (Int32.ofInt 1) (X.1 117 27) X w40 X39 ∧ v = w40 ∧ X' = X39
def gxT_263_123 (p1 : Int32) (P : Nat → List Int32 → List Int64 → List Nat → fx_X → Int32 → fx_X → Prop) (y2 : Int32) (y3 : Int32) (y4 : Int32) (y5 : Int32) (y6 : Int32) (X : fx_X) (v : Int32) (X' : fx_X) : Prop :=
  (if 6 < (y3).toInt then (∃ (w47 : Int32) (X46 : fx_X), gx_216 X w47 X46 ∧ (if (w47).toInt = 0 then (v = (Int32.ofInt 0) ∧ X' = X46) else ((if (y5).toInt = 0 then (∃ (w51 : Int32) (X50 : fx_X), gx_256 p1 X46 w51 X50 ∧ (if (y5).toInt = 0 then ((if (w51).toInt < 0 then (∃ (w67 : Int32) (X66 : fx_X), gx_216 X50 w67 X66 ∧ (if (w67).toInt = 0 then (v = (Int32.ofInt 0) ∧ X' = X66) else (P 183 [y2, y3, w51, (Int32.ofInt 1), y6, (Int32.ofInt 0)] [] [] X66 v X'))) else (∃ (w62 : Int32) (X61 : fx_X), gx_216 X50 w62 X61 ∧ (if (w62).toInt = 0 then (v = (Int32.ofInt 0) ∧ X' = X61) else (P 183 [y2, y3, w51, (Int32.ofInt 0), y6, (Int32.ofInt 0)] [] [] X61 v X'))))) else (∃ (w56 : Int32) (X55 : fx_X), gx_216 X50 w56 X55 ∧ (if (w56).toInt = 0 then (v = (Int32.ofInt 0) ∧ X' = X55) else (P 183 [y2, y3, w51, (Int32.ofInt 1), y6, (Int32.ofInt 0)] [] [] X55 v X'))))) else ((if (y5).toInt = 0 then (∃ (w80 : Int32) (X79 : fx_X), gx_216 X46 w80 X79 ∧ (if (w80).toInt = 0 then (v = (Int32.ofInt 0) ∧ X' = X79) else (P 183 [y2, y3, (Int32.ofInt (-1)), (Int32.ofInt 1), y6, (Int32.ofInt 0)] [] [] X79 v X'))) else (∃ (w74 : Int32) (X73 : fx_X), gx_216 X46 w74 X73 ∧ (if (w74).toInt = 0 then (v = (Int32.ofInt 0) ∧ X' = X73) else (P 183 [y2, y3, (Int32.ofInt (-1)), (Int32.ofInt 1), y6, (Int32.ofInt 0)] [] [] X73 v X'))))))))) else (∃ (w43 : Int32) (X42 : fx_X), gx_216 X w43 X42 ∧ (if (w43).toInt = 0 then (v = (Int32.ofInt 0) ∧ X' = X42) else (P 183 [y2, y3, y4, y5, y6, (Int32.ofInt 0)] [] [] X42 v X'))))
def gxT_263_183 (p1 : Int32) (P : Nat → List Int32 → List Int64 → List Nat → fx_X → Int32 → fx_X → Prop) (y2 : Int32) (y3 : Int32) (y4 : Int32) (y5 : Int32) (y6 : Int32) (y7 : Int32) (X : fx_X) (v : Int32) (X' : fx_X) : Prop :=
  (if (y7).toInt < ((X.1 117 56)).toInt then ((if (y5).toInt = 0 then ((0 ≤ (y7).toInt ∧ (y7).toInt < ((16 : Nat) : Int)) ∧ (0 ≤ (((p1 * ((Int8.ofInt 8).toInt32)) + (X.1 142 (y7).toInt.toNat))).toInt ∧ (((p1 * ((Int8.ofInt 8).toInt32)) + (X.1 142 (y7).toInt.toNat))).toInt < ((400 : Nat) : Int)) ∧ (if (X.2.1 133 (((p1 * ((Int8.ofInt 8).toInt32)) + (X.1 142 (y7).toInt.toNat))).toInt.toNat) = (X.2.1 117 33) then (∃ (w113 : Unit) (X112 : fx_X), gx_218 (Int32.ofInt 3) (X.1 117 34) X w113 X112 ∧ ∃ x115 : Int32, x115 = y7 + Int32.ofInt 1 ∧ P 183 [y2, y3, y4, (Int32.ofInt 1), y6, x115] [] [] X112 v X') else (∃ x110 : Int32, x110 = y7 + Int32.ofInt 1 ∧ P 183 [y2, y3, y4, y5, y6, x110] [] [] X v X'))) else ((if (y5).toInt = 0 then ((if (y6).toInt = 0 then (∃ (w101 : Int32) (X100 : fx_X), gx_265 p1 y3 y4 y2 X w101 X100 ∧ v = w101 ∧ X' = X100) else ((0 ≤ (p1).toInt ∧ (p1).toInt < ((50 : Nat) : Int)) ∧ ∃ X104 : fx_X, X104 = (fx_wI X 132 (p1).toInt.toNat (Int32.ofInt (-1))) ∧ v = (Int32.ofInt 1) ∧ X' = X104))) else ((0 ≤ (p1).toInt ∧ (p1).toInt < ((50 : Nat) : Int)) ∧ ∃ X98 : fx_X, X98 = (fx_wI X 132 (p1).toInt.toNat (Int32.ofInt (-1))) ∧ v = (Int32.ofInt 1) ∧ X' = X98))))) else ((if (y5).toInt = 0 then ((if (y6).toInt = 0 then (∃ (w90 : Int32) (X89 : fx_X), gx_265 p1 y3 y4 y2 X w90 X89 ∧ v = w90 ∧ X' = X89) else ((0 ≤ (p1).toInt ∧ (p1).toInt < ((50 : Nat) : Int)) ∧ ∃ X93 : fx_X, X93 = (fx_wI X 132 (p1).toInt.toNat (Int32.ofInt (-1))) ∧ v = (Int32.ofInt 1) ∧ X' = X93))) else ((0 ≤ (p1).toInt ∧ (p1).toInt < ((50 : Nat) : Int)) ∧ ∃ X87 : fx_X, X87 = (fx_wI X 132 (p1).toInt.toNat (Int32.ofInt (-1))) ∧ v = (Int32.ofInt 1) ∧ X' = X87))))
def gxE_263 (p1 : Int32) (P : Nat → List Int32 → List Int64 → List Nat → fx_X → Int32 → fx_X → Prop) (X : fx_X) (v : Int32) (X' : fx_X) : Prop :=
  ∃ x2 : Int32, x2 = (X.1 117 27) ∧ ∃ (w5 : Int32) (X4 : fx_X), gx_264 X w5 X4 ∧ (if (w5).toInt = 0 then (v = (Int32.ofInt 0) ∧ X' = X4) else (∃ (w8 : Int32) (X7 : fx_X), gx_261 p1 (Int32.ofInt 1) X4 w8 X7 ∧ (if (w8).toInt = 0 then (v = (Int32.ofInt 0) ∧ X' = X7) else ((if ((X7.1 117 26)).toInt = 4 then ((if ((X7.1 117 29)).toInt < 6 then (P 47 [x2] [] [] X7 v X') else (∃ x12 : Int32, x12 = (X7.1 117 29) ∧ (if (x12).toInt < 0 then (∃ (w36 : Int32) (X35 : fx_X), gx_215 (Int32.ofInt 1) (X7.1 117 27) X7 w36 X35 ∧ v = w36 ∧ X' = X35) else (∃ (w16 : Int32) (X15 : fx_X), gx_214 X7 w16 X15 ∧ (if (w16).toInt = 0 then (v = (Int32.ofInt 0) ∧ X' = X15) else ((0 ≤ (p1).toInt ∧ (p1).toInt < ((50 : Nat) : Int)) ∧ (if ((X15.1 132 (p1).toInt.toNat)).toInt < 0 then (P 123 [x2, x12, (Int32.ofInt 0), (Int32.ofInt 1), (Int32.ofInt 0)] [] [] X15 v X') else ((if ((X15.1 117 56)).toInt = 6 then (∃ (w30 : Unit) (X29 : fx_X), gx_218 (Int32.ofInt 5) x2 X15 w30 X29 ∧ P 123 [x2, x12, (Int32.ofInt 0), (Int32.ofInt 0), (Int32.ofInt 1)] [] [] X29 v X') else (P 123 [x2, x12, (Int32.ofInt 0), (Int32.ofInt 0), (Int32.ofInt 0)] [] [] X15 v X'))))))))))) else (P 47 [x2] [] [] X7 v X'))))))
noncomputable def gxF_263 (p1 : Int32) (n : Nat) : Nat → List Int32 → List Int64 → List Nat → fx_X → Int32 → fx_X → Prop := Nat.rec (motive := fun _ => Nat → List Int32 → List Int64 → List Nat → fx_X → Int32 → fx_X → Prop) (fun _ _ _ _ _ _ _ => False) (fun _ P l is ls rs X v X' => (l = 47 ∧ ∃ (y2 : Int32), is = [y2] ∧ ls = [] ∧ rs = [] ∧ gxT_263_47 p1 P y2 X v X') ∨ (l = 123 ∧ ∃ (y2 : Int32) (y3 : Int32) (y4 : Int32) (y5 : Int32) (y6 : Int32), is = [y2, y3, y4, y5, y6] ∧ ls = [] ∧ rs = [] ∧ gxT_263_123 p1 P y2 y3 y4 y5 y6 X v X') ∨ (l = 183 ∧ ∃ (y2 : Int32) (y3 : Int32) (y4 : Int32) (y5 : Int32) (y6 : Int32) (y7 : Int32), is = [y2, y3, y4, y5, y6, y7] ∧ ls = [] ∧ rs = [] ∧ gxT_263_183 p1 P y2 y3 y4 y5 y6 y7 X v X')) n
theorem gxI_263_47 {p1 : Int32} {n : Nat} {y2 : Int32} {X : fx_X} {v : Int32} {X' : fx_X} (h : gxT_263_47 p1 (gxF_263 p1 n) y2 X v X') : gxF_263 p1 (n + 1) 47 [y2] [] [] X v X' := Or.inl ⟨rfl, y2, rfl, rfl, rfl, h⟩
theorem gxO_263_47 {p1 : Int32} {n : Nat} {y2 : Int32} {X : fx_X} {v : Int32} {X' : fx_X} (h : gxF_263 p1 (n + 1) 47 [y2] [] [] X v X') : gxT_263_47 p1 (gxF_263 p1 n) y2 X v X' := by
  rcases h with ⟨-, _, e1, e2, e3, h⟩ | ⟨e, -⟩ | ⟨e, -⟩
  · cases e1; cases e2; cases e3; exact h
  · exact absurd e (by decide)
  · exact absurd e (by decide)
theorem gxI_263_123 {p1 : Int32} {n : Nat} {y2 : Int32} {y3 : Int32} {y4 : Int32} {y5 : Int32} {y6 : Int32} {X : fx_X} {v : Int32} {X' : fx_X} (h : gxT_263_123 p1 (gxF_263 p1 n) y2 y3 y4 y5 y6 X v X') : gxF_263 p1 (n + 1) 123 [y2, y3, y4, y5, y6] [] [] X v X' := Or.inr (Or.inl ⟨rfl, y2, y3, y4, y5, y6, rfl, rfl, rfl, h⟩)
theorem gxO_263_123 {p1 : Int32} {n : Nat} {y2 : Int32} {y3 : Int32} {y4 : Int32} {y5 : Int32} {y6 : Int32} {X : fx_X} {v : Int32} {X' : fx_X} (h : gxF_263 p1 (n + 1) 123 [y2, y3, y4, y5, y6] [] [] X v X') : gxT_263_123 p1 (gxF_263 p1 n) y2 y3 y4 y5 y6 X v X' := by
  rcases h with ⟨e, -⟩ | ⟨-, _, _, _, _, _, e1, e2, e3, h⟩ | ⟨e, -⟩
  · exact absurd e (by decide)
  · cases e1; cases e2; cases e3; exact h
  · exact absurd e (by decide)
theorem gxI_263_183 {p1 : Int32} {n : Nat} {y2 : Int32} {y3 : Int32} {y4 : Int32} {y5 : Int32} {y6 : Int32} {y7 : Int32} {X : fx_X} {v : Int32} {X' : fx_X} (h : gxT_263_183 p1 (gxF_263 p1 n) y2 y3 y4 y5 y6 y7 X v X') : gxF_263 p1 (n + 1) 183 [y2, y3, y4, y5, y6, y7] [] [] X v X' := Or.inr (Or.inr (⟨rfl, y2, y3, y4, y5, y6, y7, rfl, rfl, rfl, h⟩))
theorem gxO_263_183 {p1 : Int32} {n : Nat} {y2 : Int32} {y3 : Int32} {y4 : Int32} {y5 : Int32} {y6 : Int32} {y7 : Int32} {X : fx_X} {v : Int32} {X' : fx_X} (h : gxF_263 p1 (n + 1) 183 [y2, y3, y4, y5, y6, y7] [] [] X v X') : gxT_263_183 p1 (gxF_263 p1 n) y2 y3 y4 y5 y6 y7 X v X' := by
  rcases h with ⟨e, -⟩ | ⟨e, -⟩ | ⟨-, _, _, _, _, _, _, e1, e2, e3, h⟩
  · exact absurd e (by decide)
  · exact absurd e (by decide)
  · cases e1; cases e2; cases e3; exact h
def gx_263 (p1 : Int32) (X : fx_X) (v : Int32) (X' : fx_X) : Prop := ∃ n : Nat, gxE_263 p1 (gxF_263 p1 n) X v X'
theorem gxL_263 {tb : aj_T} (p1 : Int32) : ∀ N : Nat, (∀ (lv : aj_V) (y2 : Int32) (X : fx_X), aj_lv lv 0 = some (.ref 117) → aj_lv lv 1 = some (.int p1) → aj_lv lv 2 = some (.int y2) → fx_W tb aj_m263 N 47 lv [] X (fx_Q fx_qI (fun v X' => ∃ n : Nat, gxF_263 p1 n 47 [y2] [] [] X v X'))) ∧ (∀ (lv : aj_V) (y2 : Int32) (y3 : Int32) (y4 : Int32) (y5 : Int32) (y6 : Int32) (X : fx_X), aj_lv lv 0 = some (.ref 117) → aj_lv lv 1 = some (.int p1) → aj_lv lv 2 = some (.int y2) → aj_lv lv 3 = some (.int y3) → aj_lv lv 4 = some (.int y4) → aj_lv lv 5 = some (.int y5) → aj_lv lv 6 = some (.int y6) → fx_W tb aj_m263 N 123 lv [] X (fx_Q fx_qI (fun v X' => ∃ n : Nat, gxF_263 p1 n 123 [y2, y3, y4, y5, y6] [] [] X v X'))) ∧ (∀ (lv : aj_V) (y2 : Int32) (y3 : Int32) (y4 : Int32) (y5 : Int32) (y6 : Int32) (y7 : Int32) (X : fx_X), aj_lv lv 0 = some (.ref 117) → aj_lv lv 1 = some (.int p1) → aj_lv lv 2 = some (.int y2) → aj_lv lv 3 = some (.int y3) → aj_lv lv 4 = some (.int y4) → aj_lv lv 5 = some (.int y5) → aj_lv lv 6 = some (.int y6) → aj_lv lv 7 = some (.int y7) → fx_W tb aj_m263 N 183 lv [] X (fx_Q fx_qI (fun v X' => ∃ n : Nat, gxF_263 p1 n 183 [y2, y3, y4, y5, y6, y7] [] [] X v X'))) := by
  intro N
  induction N with
  | zero => exact ⟨(by intros; exact fx_z), (by intros; exact fx_z), (by intros; exact fx_z)⟩
  | succ N ih =>
    refine ⟨?_, ?_, ?_⟩
    · intro lv y2 X hlv_0 hlv_1 hlv_2
      refine fx_mono (Q := fx_Q fx_qI (fun v X' => ∃ n : Nat, gxT_263_47 p1 (gxF_263 p1 n) y2 X v X')) (fun r X' ⟨v, e, n, z⟩ => ⟨v, e, n + 1, gxI_263_47 z⟩) ?_
      unfold gxT_263_47
      refine fx_n (pc' := 48) (lv' := lv) (st' := [.int (Int32.ofInt (-1))]) aj_d263 rfl (Nat.le_refl _) (fun _ => rfl) ?_
      refine fx_s0 (j := 3) aj_d263 rfl (Nat.le_succ _) (by decide) (fun _ => rfl) ?_
      obtain ⟨lv37, elv37⟩ : ∃ l, l = aj_set1 lv 3 (.int (Int32.ofInt (-1))) := ⟨_, rfl⟩
      rw [← elv37]
      have hlv37_0 : aj_lv lv37 0 = some (.ref 117) := fx_e1 elv37 hlv_0 (by decide) (Or.inl (by decide))
      have hlv37_1 : aj_lv lv37 1 = some (.int p1) := fx_e1 elv37 hlv_1 (by decide) (Or.inl (by decide))
      have hlv37_2 : aj_lv lv37 2 = some (.int y2) := fx_e1 elv37 hlv_2 (by decide) (Or.inr rfl)
      have hlv37_3 : aj_lv lv37 3 = some (.int (Int32.ofInt (-1))) := by rw [elv37]; exact ak_set1_eq _ _ _
      show fx_W _ _ _ 49 lv37 [] _ _
      refine fx_i0 aj_d263 rfl (Nat.le_succ _) (fun _ => rfl) hlv37_3 ?_
      refine fx_b0 (tgt := 63) aj_d263 rfl (Nat.le_succ _) rfl (fun q38 => ?_) (fun q38 => ?_)
      · exact absurd q38 (by decide)
      · skip
        show fx_W _ _ _ 53 lv37 [] _ _
        refine fx_i2 aj_d263 rfl (Nat.le_succ _) (fun _ => rfl) hlv37_0 ?_
        refine fx_n (pc' := 55) (lv' := lv37) (st' := [.int (Int32.ofInt 1), .ref 117]) aj_d263 rfl (Nat.le_succ _) (fun _ => rfl) ?_
        refine fx_i2 aj_d263 rfl (Nat.le_succ _) (fun _ => rfl) hlv37_0 ?_
        refine fx_gI aj_d263 rfl (Nat.le_succ _) rfl rfl (Or.inl rfl) ?_
        refine fx_cv aj_d263 rfl (Nat.le_succ _) rfl [_, _] rfl rfl (gx_215_ok (Int32.ofInt 1) (X.1 117 27)) ?_
        rintro _ X39 ⟨w40, rfl, hR39⟩ hok39 hle39
        refine fx_qc hR39 ?_
        show fx_W _ _ _ 62 lv37 [.int w40] _ _
        exact fx_ri aj_d263 rfl ⟨_, rfl, 0, rfl, rfl⟩
    · intro lv y2 y3 y4 y5 y6 X hlv_0 hlv_1 hlv_2 hlv_3 hlv_4 hlv_5 hlv_6
      refine fx_mono (Q := fx_Q fx_qI (fun v X' => ∃ n : Nat, gxT_263_123 p1 (gxF_263 p1 n) y2 y3 y4 y5 y6 X v X')) (fun r X' ⟨v, e, n, z⟩ => ⟨v, e, n + 1, gxI_263_123 z⟩) ?_
      unfold gxT_263_123
      refine fx_i0 aj_d263 rfl (Nat.le_refl _) (fun _ => rfl) hlv_3 ?_
      refine fx_n (pc' := 126) (lv' := lv) (st' := [.int ((Int8.ofInt 6).toInt32), .int y3]) aj_d263 rfl (Nat.le_succ _) (fun _ => rfl) ?_
      refine fx_b (tgt := 171) aj_d263 rfl (Nat.le_succ _) rfl (fun q41 => ?_) (fun q41 => ?_)
      · skip
        refine fx_qe (c := 6 < (y3).toInt) (fx_t_le q41) ?_
        show fx_W _ _ _ 171 lv [] _ _
        refine fx_i2 aj_d263 rfl (Nat.le_succ _) (fun _ => rfl) hlv_0 ?_
        refine fx_cv aj_d263 rfl (Nat.le_succ _) rfl [] rfl rfl (gx_216_ok) ?_
        rintro _ X42 ⟨w43, rfl, hR42⟩ hok42 hle42
        refine fx_qc hR42 ?_
        show fx_W _ _ _ 175 lv [.int w43] _ _
        refine fx_b0 (tgt := 180) aj_d263 rfl (Nat.le_succ _) rfl (fun q44 => ?_) (fun q44 => ?_)
        · skip
          refine fx_qe (c := (w43).toInt = 0) (fx_t_ne q44) ?_
          show fx_W _ _ _ 180 lv [] _ _
          refine fx_n (pc' := 181) (lv' := lv) (st' := [.int (Int32.ofInt 0)]) aj_d263 rfl (Nat.le_succ _) (fun _ => rfl) ?_
          refine fx_s0 (j := 7) aj_d263 rfl (Nat.le_succ _) (by decide) (fun _ => rfl) ?_
          obtain ⟨lv45, elv45⟩ : ∃ l, l = aj_set1 lv 7 (.int (Int32.ofInt 0)) := ⟨_, rfl⟩
          rw [← elv45]
          have hlv45_0 : aj_lv lv45 0 = some (.ref 117) := fx_e1 elv45 hlv_0 (by decide) (Or.inl (by decide))
          have hlv45_1 : aj_lv lv45 1 = some (.int p1) := fx_e1 elv45 hlv_1 (by decide) (Or.inl (by decide))
          have hlv45_2 : aj_lv lv45 2 = some (.int y2) := fx_e1 elv45 hlv_2 (by decide) (Or.inl (by decide))
          have hlv45_3 : aj_lv lv45 3 = some (.int y3) := fx_e1 elv45 hlv_3 (by decide) (Or.inl (by decide))
          have hlv45_4 : aj_lv lv45 4 = some (.int y4) := fx_e1 elv45 hlv_4 (by decide) (Or.inl (by decide))
          have hlv45_5 : aj_lv lv45 5 = some (.int y5) := fx_e1 elv45 hlv_5 (by decide) (Or.inl (by decide))
          have hlv45_6 : aj_lv lv45 6 = some (.int y6) := fx_e1 elv45 hlv_6 (by decide) (Or.inr rfl)
          have hlv45_7 : aj_lv lv45 7 = some (.int (Int32.ofInt 0)) := by rw [elv45]; exact ak_set1_eq _ _ _
          show fx_W _ _ _ 183 lv45 [] _ _
          exact (ih.2.2) lv45 (y2) (y3) (y4) (y5) (y6) ((Int32.ofInt 0)) X42  hlv45_0 hlv45_1 hlv45_2 hlv45_3 hlv45_4 hlv45_5 hlv45_6 hlv45_7
        · skip
          refine fx_qi (c := (w43).toInt = 0) (fx_f_ne q44) ?_
          show fx_W _ _ _ 178 lv [] _ _
          refine fx_n (pc' := 179) (lv' := lv) (st' := [.int (Int32.ofInt 0)]) aj_d263 rfl (Nat.le_succ _) (fun _ => rfl) ?_
          exact fx_ri aj_d263 rfl ⟨_, rfl, 0, rfl, rfl⟩
      · skip
        refine fx_qi (c := 6 < (y3).toInt) (fx_f_le q41) ?_
        show fx_W _ _ _ 129 lv [] _ _
        refine fx_i2 aj_d263 rfl (Nat.le_succ _) (fun _ => rfl) hlv_0 ?_
        refine fx_cv aj_d263 rfl (Nat.le_succ _) rfl [] rfl rfl (gx_216_ok) ?_
        rintro _ X46 ⟨w47, rfl, hR46⟩ hok46 hle46
        refine fx_qc hR46 ?_
        show fx_W _ _ _ 133 lv [.int w47] _ _
        refine fx_b0 (tgt := 138) aj_d263 rfl (Nat.le_succ _) rfl (fun q48 => ?_) (fun q48 => ?_)
        · skip
          refine fx_qe (c := (w47).toInt = 0) (fx_t_ne q48) ?_
          show fx_W _ _ _ 138 lv [] _ _
          refine fx_i0 aj_d263 rfl (Nat.le_succ _) (fun _ => rfl) hlv_5 ?_
          refine fx_b0 (tgt := 147) aj_d263 rfl (Nat.le_succ _) rfl (fun q49 => ?_) (fun q49 => ?_)
          · skip
            refine fx_qi (c := (y5).toInt = 0) (fx_t_eq q49) ?_
            show fx_W _ _ _ 147 lv [] _ _
            refine fx_i2 aj_d263 rfl (Nat.le_succ _) (fun _ => rfl) hlv_0 ?_
            refine fx_i0 aj_d263 rfl (Nat.le_succ _) (fun _ => rfl) hlv_1 ?_
            refine fx_cv aj_d263 rfl (Nat.le_succ _) rfl [_] rfl rfl (gx_256_ok p1) ?_
            rintro _ X50 ⟨w51, rfl, hR50⟩ hok50 hle50
            refine fx_qc hR50 ?_
            show fx_W _ _ _ 152 lv [.int w51] _ _
            refine fx_s0 (j := 4) aj_d263 rfl (Nat.le_succ _) (by decide) (fun _ => rfl) ?_
            obtain ⟨lv52, elv52⟩ : ∃ l, l = aj_set1 lv 4 (.int w51) := ⟨_, rfl⟩
            rw [← elv52]
            have hlv52_0 : aj_lv lv52 0 = some (.ref 117) := fx_e1 elv52 hlv_0 (by decide) (Or.inl (by decide))
            have hlv52_1 : aj_lv lv52 1 = some (.int p1) := fx_e1 elv52 hlv_1 (by decide) (Or.inl (by decide))
            have hlv52_2 : aj_lv lv52 2 = some (.int y2) := fx_e1 elv52 hlv_2 (by decide) (Or.inl (by decide))
            have hlv52_3 : aj_lv lv52 3 = some (.int y3) := fx_e1 elv52 hlv_3 (by decide) (Or.inr rfl)
            have hlv52_5 : aj_lv lv52 5 = some (.int y5) := fx_e1 elv52 hlv_5 (by decide) (Or.inl (by decide))
            have hlv52_6 : aj_lv lv52 6 = some (.int y6) := fx_e1 elv52 hlv_6 (by decide) (Or.inl (by decide))
            have hlv52_4 : aj_lv lv52 4 = some (.int w51) := by rw [elv52]; exact ak_set1_eq _ _ _
            show fx_W _ _ _ 154 lv52 [] _ _
            refine fx_i0 aj_d263 rfl (Nat.le_succ _) (fun _ => rfl) hlv52_5 ?_
            refine fx_b0 (tgt := 164) aj_d263 rfl (Nat.le_succ _) rfl (fun q53 => ?_) (fun q53 => ?_)
            · skip
              refine fx_qe (c := (y5).toInt = 0) (fx_t_ne q53) ?_
              show fx_W _ _ _ 164 lv52 [] _ _
              refine fx_n (pc' := 165) (lv' := lv52) (st' := [.int (Int32.ofInt 1)]) aj_d263 rfl (Nat.le_succ _) (fun _ => rfl) ?_
              refine fx_n (pc' := 169) (lv' := lv52) (st' := [.int (Int32.ofInt 1)]) aj_d263 rfl (Nat.le_succ _) (fun _ => rfl) ?_
              refine fx_s0 (j := 5) aj_d263 rfl (Nat.le_succ _) (by decide) (fun _ => rfl) ?_
              obtain ⟨lv54, elv54⟩ : ∃ l, l = aj_set1 lv52 5 (.int (Int32.ofInt 1)) := ⟨_, rfl⟩
              rw [← elv54]
              have hlv54_0 : aj_lv lv54 0 = some (.ref 117) := fx_e1 elv54 hlv52_0 (by decide) (Or.inl (by decide))
              have hlv54_1 : aj_lv lv54 1 = some (.int p1) := fx_e1 elv54 hlv52_1 (by decide) (Or.inl (by decide))
              have hlv54_2 : aj_lv lv54 2 = some (.int y2) := fx_e1 elv54 hlv52_2 (by decide) (Or.inl (by decide))
              have hlv54_3 : aj_lv lv54 3 = some (.int y3) := fx_e1 elv54 hlv52_3 (by decide) (Or.inl (by decide))
              have hlv54_6 : aj_lv lv54 6 = some (.int y6) := fx_e1 elv54 hlv52_6 (by decide) (Or.inl (by decide))
              have hlv54_4 : aj_lv lv54 4 = some (.int w51) := fx_e1 elv54 hlv52_4 (by decide) (Or.inr rfl)
              have hlv54_5 : aj_lv lv54 5 = some (.int (Int32.ofInt 1)) := by rw [elv54]; exact ak_set1_eq _ _ _
              show fx_W _ _ _ 171 lv54 [] _ _
              refine fx_i2 aj_d263 rfl (Nat.le_succ _) (fun _ => rfl) hlv54_0 ?_
              refine fx_cv aj_d263 rfl (Nat.le_succ _) rfl [] rfl rfl (gx_216_ok) ?_
              rintro _ X55 ⟨w56, rfl, hR55⟩ hok55 hle55
              refine fx_qc hR55 ?_
              show fx_W _ _ _ 175 lv54 [.int w56] _ _
              refine fx_b0 (tgt := 180) aj_d263 rfl (Nat.le_succ _) rfl (fun q57 => ?_) (fun q57 => ?_)
              · skip
                refine fx_qe (c := (w56).toInt = 0) (fx_t_ne q57) ?_
                show fx_W _ _ _ 180 lv54 [] _ _
                refine fx_n (pc' := 181) (lv' := lv54) (st' := [.int (Int32.ofInt 0)]) aj_d263 rfl (Nat.le_succ _) (fun _ => rfl) ?_
                refine fx_s0 (j := 7) aj_d263 rfl (Nat.le_succ _) (by decide) (fun _ => rfl) ?_
                obtain ⟨lv58, elv58⟩ : ∃ l, l = aj_set1 lv54 7 (.int (Int32.ofInt 0)) := ⟨_, rfl⟩
                rw [← elv58]
                have hlv58_0 : aj_lv lv58 0 = some (.ref 117) := fx_e1 elv58 hlv54_0 (by decide) (Or.inl (by decide))
                have hlv58_1 : aj_lv lv58 1 = some (.int p1) := fx_e1 elv58 hlv54_1 (by decide) (Or.inl (by decide))
                have hlv58_2 : aj_lv lv58 2 = some (.int y2) := fx_e1 elv58 hlv54_2 (by decide) (Or.inl (by decide))
                have hlv58_3 : aj_lv lv58 3 = some (.int y3) := fx_e1 elv58 hlv54_3 (by decide) (Or.inl (by decide))
                have hlv58_6 : aj_lv lv58 6 = some (.int y6) := fx_e1 elv58 hlv54_6 (by decide) (Or.inr rfl)
                have hlv58_4 : aj_lv lv58 4 = some (.int w51) := fx_e1 elv58 hlv54_4 (by decide) (Or.inl (by decide))
                have hlv58_5 : aj_lv lv58 5 = some (.int (Int32.ofInt 1)) := fx_e1 elv58 hlv54_5 (by decide) (Or.inl (by decide))
                have hlv58_7 : aj_lv lv58 7 = some (.int (Int32.ofInt 0)) := by rw [elv58]; exact ak_set1_eq _ _ _
                show fx_W _ _ _ 183 lv58 [] _ _
                exact (ih.2.2) lv58 (y2) (y3) (w51) ((Int32.ofInt 1)) (y6) ((Int32.ofInt 0)) X55  hlv58_0 hlv58_1 hlv58_2 hlv58_3 hlv58_4 hlv58_5 hlv58_6 hlv58_7
              · skip
                refine fx_qi (c := (w56).toInt = 0) (fx_f_ne q57) ?_
                show fx_W _ _ _ 178 lv54 [] _ _
                refine fx_n (pc' := 179) (lv' := lv54) (st' := [.int (Int32.ofInt 0)]) aj_d263 rfl (Nat.le_succ _) (fun _ => rfl) ?_
                exact fx_ri aj_d263 rfl ⟨_, rfl, 0, rfl, rfl⟩
            · skip
              refine fx_qi (c := (y5).toInt = 0) (fx_f_ne q53) ?_
              show fx_W _ _ _ 159 lv52 [] _ _
              refine fx_i0 aj_d263 rfl (Nat.le_succ _) (fun _ => rfl) hlv52_4 ?_
              refine fx_b0 (tgt := 168) aj_d263 rfl (Nat.le_succ _) rfl (fun q59 => ?_) (fun q59 => ?_)
              · skip
                refine fx_qe (c := (w51).toInt < 0) (fx_t_ge q59) ?_
                show fx_W _ _ _ 168 lv52 [] _ _
                refine fx_n (pc' := 169) (lv' := lv52) (st' := [.int (Int32.ofInt 0)]) aj_d263 rfl (Nat.le_succ _) (fun _ => rfl) ?_
                refine fx_s0 (j := 5) aj_d263 rfl (Nat.le_succ _) (by decide) (fun _ => rfl) ?_
                obtain ⟨lv60, elv60⟩ : ∃ l, l = aj_set1 lv52 5 (.int (Int32.ofInt 0)) := ⟨_, rfl⟩
                rw [← elv60]
                have hlv60_0 : aj_lv lv60 0 = some (.ref 117) := fx_e1 elv60 hlv52_0 (by decide) (Or.inl (by decide))
                have hlv60_1 : aj_lv lv60 1 = some (.int p1) := fx_e1 elv60 hlv52_1 (by decide) (Or.inl (by decide))
                have hlv60_2 : aj_lv lv60 2 = some (.int y2) := fx_e1 elv60 hlv52_2 (by decide) (Or.inl (by decide))
                have hlv60_3 : aj_lv lv60 3 = some (.int y3) := fx_e1 elv60 hlv52_3 (by decide) (Or.inl (by decide))
                have hlv60_6 : aj_lv lv60 6 = some (.int y6) := fx_e1 elv60 hlv52_6 (by decide) (Or.inl (by decide))
                have hlv60_4 : aj_lv lv60 4 = some (.int w51) := fx_e1 elv60 hlv52_4 (by decide) (Or.inr rfl)
                have hlv60_5 : aj_lv lv60 5 = some (.int (Int32.ofInt 0)) := by rw [elv60]; exact ak_set1_eq _ _ _
                show fx_W _ _ _ 171 lv60 [] _ _
                refine fx_i2 aj_d263 rfl (Nat.le_succ _) (fun _ => rfl) hlv60_0 ?_
                refine fx_cv aj_d263 rfl (Nat.le_succ _) rfl [] rfl rfl (gx_216_ok) ?_
                rintro _ X61 ⟨w62, rfl, hR61⟩ hok61 hle61
                refine fx_qc hR61 ?_
                show fx_W _ _ _ 175 lv60 [.int w62] _ _
                refine fx_b0 (tgt := 180) aj_d263 rfl (Nat.le_succ _) rfl (fun q63 => ?_) (fun q63 => ?_)
                · skip
                  refine fx_qe (c := (w62).toInt = 0) (fx_t_ne q63) ?_
                  show fx_W _ _ _ 180 lv60 [] _ _
                  refine fx_n (pc' := 181) (lv' := lv60) (st' := [.int (Int32.ofInt 0)]) aj_d263 rfl (Nat.le_succ _) (fun _ => rfl) ?_
                  refine fx_s0 (j := 7) aj_d263 rfl (Nat.le_succ _) (by decide) (fun _ => rfl) ?_
                  obtain ⟨lv64, elv64⟩ : ∃ l, l = aj_set1 lv60 7 (.int (Int32.ofInt 0)) := ⟨_, rfl⟩
                  rw [← elv64]
                  have hlv64_0 : aj_lv lv64 0 = some (.ref 117) := fx_e1 elv64 hlv60_0 (by decide) (Or.inl (by decide))
                  have hlv64_1 : aj_lv lv64 1 = some (.int p1) := fx_e1 elv64 hlv60_1 (by decide) (Or.inl (by decide))
                  have hlv64_2 : aj_lv lv64 2 = some (.int y2) := fx_e1 elv64 hlv60_2 (by decide) (Or.inl (by decide))
                  have hlv64_3 : aj_lv lv64 3 = some (.int y3) := fx_e1 elv64 hlv60_3 (by decide) (Or.inl (by decide))
                  have hlv64_6 : aj_lv lv64 6 = some (.int y6) := fx_e1 elv64 hlv60_6 (by decide) (Or.inr rfl)
                  have hlv64_4 : aj_lv lv64 4 = some (.int w51) := fx_e1 elv64 hlv60_4 (by decide) (Or.inl (by decide))
                  have hlv64_5 : aj_lv lv64 5 = some (.int (Int32.ofInt 0)) := fx_e1 elv64 hlv60_5 (by decide) (Or.inl (by decide))
                  have hlv64_7 : aj_lv lv64 7 = some (.int (Int32.ofInt 0)) := by rw [elv64]; exact ak_set1_eq _ _ _
                  show fx_W _ _ _ 183 lv64 [] _ _
                  exact (ih.2.2) lv64 (y2) (y3) (w51) ((Int32.ofInt 0)) (y6) ((Int32.ofInt 0)) X61  hlv64_0 hlv64_1 hlv64_2 hlv64_3 hlv64_4 hlv64_5 hlv64_6 hlv64_7
                · skip
                  refine fx_qi (c := (w62).toInt = 0) (fx_f_ne q63) ?_
                  show fx_W _ _ _ 178 lv60 [] _ _
                  refine fx_n (pc' := 179) (lv' := lv60) (st' := [.int (Int32.ofInt 0)]) aj_d263 rfl (Nat.le_succ _) (fun _ => rfl) ?_
                  exact fx_ri aj_d263 rfl ⟨_, rfl, 0, rfl, rfl⟩
              · skip
                refine fx_qi (c := (w51).toInt < 0) (fx_f_ge q59) ?_
                show fx_W _ _ _ 164 lv52 [] _ _
                refine fx_n (pc' := 165) (lv' := lv52) (st' := [.int (Int32.ofInt 1)]) aj_d263 rfl (Nat.le_succ _) (fun _ => rfl) ?_
                refine fx_n (pc' := 169) (lv' := lv52) (st' := [.int (Int32.ofInt 1)]) aj_d263 rfl (Nat.le_succ _) (fun _ => rfl) ?_
                refine fx_s0 (j := 5) aj_d263 rfl (Nat.le_succ _) (by decide) (fun _ => rfl) ?_
                obtain ⟨lv65, elv65⟩ : ∃ l, l = aj_set1 lv52 5 (.int (Int32.ofInt 1)) := ⟨_, rfl⟩
                rw [← elv65]
                have hlv65_0 : aj_lv lv65 0 = some (.ref 117) := fx_e1 elv65 hlv52_0 (by decide) (Or.inl (by decide))
                have hlv65_1 : aj_lv lv65 1 = some (.int p1) := fx_e1 elv65 hlv52_1 (by decide) (Or.inl (by decide))
                have hlv65_2 : aj_lv lv65 2 = some (.int y2) := fx_e1 elv65 hlv52_2 (by decide) (Or.inl (by decide))
                have hlv65_3 : aj_lv lv65 3 = some (.int y3) := fx_e1 elv65 hlv52_3 (by decide) (Or.inl (by decide))
                have hlv65_6 : aj_lv lv65 6 = some (.int y6) := fx_e1 elv65 hlv52_6 (by decide) (Or.inl (by decide))
                have hlv65_4 : aj_lv lv65 4 = some (.int w51) := fx_e1 elv65 hlv52_4 (by decide) (Or.inr rfl)
                have hlv65_5 : aj_lv lv65 5 = some (.int (Int32.ofInt 1)) := by rw [elv65]; exact ak_set1_eq _ _ _
                show fx_W _ _ _ 171 lv65 [] _ _
                refine fx_i2 aj_d263 rfl (Nat.le_succ _) (fun _ => rfl) hlv65_0 ?_
                refine fx_cv aj_d263 rfl (Nat.le_succ _) rfl [] rfl rfl (gx_216_ok) ?_
                rintro _ X66 ⟨w67, rfl, hR66⟩ hok66 hle66
                refine fx_qc hR66 ?_
                show fx_W _ _ _ 175 lv65 [.int w67] _ _
                refine fx_b0 (tgt := 180) aj_d263 rfl (Nat.le_succ _) rfl (fun q68 => ?_) (fun q68 => ?_)
                · skip
                  refine fx_qe (c := (w67).toInt = 0) (fx_t_ne q68) ?_
                  show fx_W _ _ _ 180 lv65 [] _ _
                  refine fx_n (pc' := 181) (lv' := lv65) (st' := [.int (Int32.ofInt 0)]) aj_d263 rfl (Nat.le_succ _) (fun _ => rfl) ?_
                  refine fx_s0 (j := 7) aj_d263 rfl (Nat.le_succ _) (by decide) (fun _ => rfl) ?_
                  obtain ⟨lv69, elv69⟩ : ∃ l, l = aj_set1 lv65 7 (.int (Int32.ofInt 0)) := ⟨_, rfl⟩
                  rw [← elv69]
                  have hlv69_0 : aj_lv lv69 0 = some (.ref 117) := fx_e1 elv69 hlv65_0 (by decide) (Or.inl (by decide))
                  have hlv69_1 : aj_lv lv69 1 = some (.int p1) := fx_e1 elv69 hlv65_1 (by decide) (Or.inl (by decide))
                  have hlv69_2 : aj_lv lv69 2 = some (.int y2) := fx_e1 elv69 hlv65_2 (by decide) (Or.inl (by decide))
                  have hlv69_3 : aj_lv lv69 3 = some (.int y3) := fx_e1 elv69 hlv65_3 (by decide) (Or.inl (by decide))
                  have hlv69_6 : aj_lv lv69 6 = some (.int y6) := fx_e1 elv69 hlv65_6 (by decide) (Or.inr rfl)
                  have hlv69_4 : aj_lv lv69 4 = some (.int w51) := fx_e1 elv69 hlv65_4 (by decide) (Or.inl (by decide))
                  have hlv69_5 : aj_lv lv69 5 = some (.int (Int32.ofInt 1)) := fx_e1 elv69 hlv65_5 (by decide) (Or.inl (by decide))
                  have hlv69_7 : aj_lv lv69 7 = some (.int (Int32.ofInt 0)) := by rw [elv69]; exact ak_set1_eq _ _ _
                  show fx_W _ _ _ 183 lv69 [] _ _
                  exact (ih.2.2) lv69 (y2) (y3) (w51) ((Int32.ofInt 1)) (y6) ((Int32.ofInt 0)) X66  hlv69_0 hlv69_1 hlv69_2 hlv69_3 hlv69_4 hlv69_5 hlv69_6 hlv69_7
                · skip
                  refine fx_qi (c := (w67).toInt = 0) (fx_f_ne q68) ?_
                  show fx_W _ _ _ 178 lv65 [] _ _
                  refine fx_n (pc' := 179) (lv' := lv65) (st' := [.int (Int32.ofInt 0)]) aj_d263 rfl (Nat.le_succ _) (fun _ => rfl) ?_
                  exact fx_ri aj_d263 rfl ⟨_, rfl, 0, rfl, rfl⟩
          · skip
            refine fx_qe (c := (y5).toInt = 0) (fx_f_eq q49) ?_
            show fx_W _ _ _ 143 lv [] _ _
            refine fx_n (pc' := 144) (lv' := lv) (st' := [.int (Int32.ofInt (-1))]) aj_d263 rfl (Nat.le_succ _) (fun _ => rfl) ?_
            refine fx_n (pc' := 152) (lv' := lv) (st' := [.int (Int32.ofInt (-1))]) aj_d263 rfl (Nat.le_succ _) (fun _ => rfl) ?_
            refine fx_s0 (j := 4) aj_d263 rfl (Nat.le_succ _) (by decide) (fun _ => rfl) ?_
            obtain ⟨lv70, elv70⟩ : ∃ l, l = aj_set1 lv 4 (.int (Int32.ofInt (-1))) := ⟨_, rfl⟩
            rw [← elv70]
            have hlv70_0 : aj_lv lv70 0 = some (.ref 117) := fx_e1 elv70 hlv_0 (by decide) (Or.inl (by decide))
            have hlv70_1 : aj_lv lv70 1 = some (.int p1) := fx_e1 elv70 hlv_1 (by decide) (Or.inl (by decide))
            have hlv70_2 : aj_lv lv70 2 = some (.int y2) := fx_e1 elv70 hlv_2 (by decide) (Or.inl (by decide))
            have hlv70_3 : aj_lv lv70 3 = some (.int y3) := fx_e1 elv70 hlv_3 (by decide) (Or.inr rfl)
            have hlv70_5 : aj_lv lv70 5 = some (.int y5) := fx_e1 elv70 hlv_5 (by decide) (Or.inl (by decide))
            have hlv70_6 : aj_lv lv70 6 = some (.int y6) := fx_e1 elv70 hlv_6 (by decide) (Or.inl (by decide))
            have hlv70_4 : aj_lv lv70 4 = some (.int (Int32.ofInt (-1))) := by rw [elv70]; exact ak_set1_eq _ _ _
            show fx_W _ _ _ 154 lv70 [] _ _
            refine fx_i0 aj_d263 rfl (Nat.le_succ _) (fun _ => rfl) hlv70_5 ?_
            refine fx_b0 (tgt := 164) aj_d263 rfl (Nat.le_succ _) rfl (fun q71 => ?_) (fun q71 => ?_)
            · skip
              refine fx_qe (c := (y5).toInt = 0) (fx_t_ne q71) ?_
              show fx_W _ _ _ 164 lv70 [] _ _
              refine fx_n (pc' := 165) (lv' := lv70) (st' := [.int (Int32.ofInt 1)]) aj_d263 rfl (Nat.le_succ _) (fun _ => rfl) ?_
              refine fx_n (pc' := 169) (lv' := lv70) (st' := [.int (Int32.ofInt 1)]) aj_d263 rfl (Nat.le_succ _) (fun _ => rfl) ?_
              refine fx_s0 (j := 5) aj_d263 rfl (Nat.le_succ _) (by decide) (fun _ => rfl) ?_
              obtain ⟨lv72, elv72⟩ : ∃ l, l = aj_set1 lv70 5 (.int (Int32.ofInt 1)) := ⟨_, rfl⟩
              rw [← elv72]
              have hlv72_0 : aj_lv lv72 0 = some (.ref 117) := fx_e1 elv72 hlv70_0 (by decide) (Or.inl (by decide))
              have hlv72_1 : aj_lv lv72 1 = some (.int p1) := fx_e1 elv72 hlv70_1 (by decide) (Or.inl (by decide))
              have hlv72_2 : aj_lv lv72 2 = some (.int y2) := fx_e1 elv72 hlv70_2 (by decide) (Or.inl (by decide))
              have hlv72_3 : aj_lv lv72 3 = some (.int y3) := fx_e1 elv72 hlv70_3 (by decide) (Or.inl (by decide))
              have hlv72_6 : aj_lv lv72 6 = some (.int y6) := fx_e1 elv72 hlv70_6 (by decide) (Or.inl (by decide))
              have hlv72_4 : aj_lv lv72 4 = some (.int (Int32.ofInt (-1))) := fx_e1 elv72 hlv70_4 (by decide) (Or.inr rfl)
              have hlv72_5 : aj_lv lv72 5 = some (.int (Int32.ofInt 1)) := by rw [elv72]; exact ak_set1_eq _ _ _
              show fx_W _ _ _ 171 lv72 [] _ _
              refine fx_i2 aj_d263 rfl (Nat.le_succ _) (fun _ => rfl) hlv72_0 ?_
              refine fx_cv aj_d263 rfl (Nat.le_succ _) rfl [] rfl rfl (gx_216_ok) ?_
              rintro _ X73 ⟨w74, rfl, hR73⟩ hok73 hle73
              refine fx_qc hR73 ?_
              show fx_W _ _ _ 175 lv72 [.int w74] _ _
              refine fx_b0 (tgt := 180) aj_d263 rfl (Nat.le_succ _) rfl (fun q75 => ?_) (fun q75 => ?_)
              · skip
                refine fx_qe (c := (w74).toInt = 0) (fx_t_ne q75) ?_
                show fx_W _ _ _ 180 lv72 [] _ _
                refine fx_n (pc' := 181) (lv' := lv72) (st' := [.int (Int32.ofInt 0)]) aj_d263 rfl (Nat.le_succ _) (fun _ => rfl) ?_
                refine fx_s0 (j := 7) aj_d263 rfl (Nat.le_succ _) (by decide) (fun _ => rfl) ?_
                obtain ⟨lv76, elv76⟩ : ∃ l, l = aj_set1 lv72 7 (.int (Int32.ofInt 0)) := ⟨_, rfl⟩
                rw [← elv76]
                have hlv76_0 : aj_lv lv76 0 = some (.ref 117) := fx_e1 elv76 hlv72_0 (by decide) (Or.inl (by decide))
                have hlv76_1 : aj_lv lv76 1 = some (.int p1) := fx_e1 elv76 hlv72_1 (by decide) (Or.inl (by decide))
                have hlv76_2 : aj_lv lv76 2 = some (.int y2) := fx_e1 elv76 hlv72_2 (by decide) (Or.inl (by decide))
                have hlv76_3 : aj_lv lv76 3 = some (.int y3) := fx_e1 elv76 hlv72_3 (by decide) (Or.inl (by decide))
                have hlv76_6 : aj_lv lv76 6 = some (.int y6) := fx_e1 elv76 hlv72_6 (by decide) (Or.inr rfl)
                have hlv76_4 : aj_lv lv76 4 = some (.int (Int32.ofInt (-1))) := fx_e1 elv76 hlv72_4 (by decide) (Or.inl (by decide))
                have hlv76_5 : aj_lv lv76 5 = some (.int (Int32.ofInt 1)) := fx_e1 elv76 hlv72_5 (by decide) (Or.inl (by decide))
                have hlv76_7 : aj_lv lv76 7 = some (.int (Int32.ofInt 0)) := by rw [elv76]; exact ak_set1_eq _ _ _
                show fx_W _ _ _ 183 lv76 [] _ _
                exact (ih.2.2) lv76 (y2) (y3) ((Int32.ofInt (-1))) ((Int32.ofInt 1)) (y6) ((Int32.ofInt 0)) X73  hlv76_0 hlv76_1 hlv76_2 hlv76_3 hlv76_4 hlv76_5 hlv76_6 hlv76_7
              · skip
                refine fx_qi (c := (w74).toInt = 0) (fx_f_ne q75) ?_
                show fx_W _ _ _ 178 lv72 [] _ _
                refine fx_n (pc' := 179) (lv' := lv72) (st' := [.int (Int32.ofInt 0)]) aj_d263 rfl (Nat.le_succ _) (fun _ => rfl) ?_
                exact fx_ri aj_d263 rfl ⟨_, rfl, 0, rfl, rfl⟩
            · skip
              refine fx_qi (c := (y5).toInt = 0) (fx_f_ne q71) ?_
              show fx_W _ _ _ 159 lv70 [] _ _
              refine fx_i0 aj_d263 rfl (Nat.le_succ _) (fun _ => rfl) hlv70_4 ?_
              refine fx_b0 (tgt := 168) aj_d263 rfl (Nat.le_succ _) rfl (fun q77 => ?_) (fun q77 => ?_)
              · exact absurd q77 (by decide)
              · skip
                show fx_W _ _ _ 164 lv70 [] _ _
                refine fx_n (pc' := 165) (lv' := lv70) (st' := [.int (Int32.ofInt 1)]) aj_d263 rfl (Nat.le_succ _) (fun _ => rfl) ?_
                refine fx_n (pc' := 169) (lv' := lv70) (st' := [.int (Int32.ofInt 1)]) aj_d263 rfl (Nat.le_succ _) (fun _ => rfl) ?_
                refine fx_s0 (j := 5) aj_d263 rfl (Nat.le_succ _) (by decide) (fun _ => rfl) ?_
                obtain ⟨lv78, elv78⟩ : ∃ l, l = aj_set1 lv70 5 (.int (Int32.ofInt 1)) := ⟨_, rfl⟩
                rw [← elv78]
                have hlv78_0 : aj_lv lv78 0 = some (.ref 117) := fx_e1 elv78 hlv70_0 (by decide) (Or.inl (by decide))
                have hlv78_1 : aj_lv lv78 1 = some (.int p1) := fx_e1 elv78 hlv70_1 (by decide) (Or.inl (by decide))
                have hlv78_2 : aj_lv lv78 2 = some (.int y2) := fx_e1 elv78 hlv70_2 (by decide) (Or.inl (by decide))
                have hlv78_3 : aj_lv lv78 3 = some (.int y3) := fx_e1 elv78 hlv70_3 (by decide) (Or.inl (by decide))
                have hlv78_6 : aj_lv lv78 6 = some (.int y6) := fx_e1 elv78 hlv70_6 (by decide) (Or.inl (by decide))
                have hlv78_4 : aj_lv lv78 4 = some (.int (Int32.ofInt (-1))) := fx_e1 elv78 hlv70_4 (by decide) (Or.inr rfl)
                have hlv78_5 : aj_lv lv78 5 = some (.int (Int32.ofInt 1)) := by rw [elv78]; exact ak_set1_eq _ _ _
                show fx_W _ _ _ 171 lv78 [] _ _
                refine fx_i2 aj_d263 rfl (Nat.le_succ _) (fun _ => rfl) hlv78_0 ?_
                refine fx_cv aj_d263 rfl (Nat.le_succ _) rfl [] rfl rfl (gx_216_ok) ?_
                rintro _ X79 ⟨w80, rfl, hR79⟩ hok79 hle79
                refine fx_qc hR79 ?_
                show fx_W _ _ _ 175 lv78 [.int w80] _ _
                refine fx_b0 (tgt := 180) aj_d263 rfl (Nat.le_succ _) rfl (fun q81 => ?_) (fun q81 => ?_)
                · skip
                  refine fx_qe (c := (w80).toInt = 0) (fx_t_ne q81) ?_
                  show fx_W _ _ _ 180 lv78 [] _ _
                  refine fx_n (pc' := 181) (lv' := lv78) (st' := [.int (Int32.ofInt 0)]) aj_d263 rfl (Nat.le_succ _) (fun _ => rfl) ?_
                  refine fx_s0 (j := 7) aj_d263 rfl (Nat.le_succ _) (by decide) (fun _ => rfl) ?_
                  obtain ⟨lv82, elv82⟩ : ∃ l, l = aj_set1 lv78 7 (.int (Int32.ofInt 0)) := ⟨_, rfl⟩
                  rw [← elv82]
                  have hlv82_0 : aj_lv lv82 0 = some (.ref 117) := fx_e1 elv82 hlv78_0 (by decide) (Or.inl (by decide))
                  have hlv82_1 : aj_lv lv82 1 = some (.int p1) := fx_e1 elv82 hlv78_1 (by decide) (Or.inl (by decide))
                  have hlv82_2 : aj_lv lv82 2 = some (.int y2) := fx_e1 elv82 hlv78_2 (by decide) (Or.inl (by decide))
                  have hlv82_3 : aj_lv lv82 3 = some (.int y3) := fx_e1 elv82 hlv78_3 (by decide) (Or.inl (by decide))
                  have hlv82_6 : aj_lv lv82 6 = some (.int y6) := fx_e1 elv82 hlv78_6 (by decide) (Or.inr rfl)
                  have hlv82_4 : aj_lv lv82 4 = some (.int (Int32.ofInt (-1))) := fx_e1 elv82 hlv78_4 (by decide) (Or.inl (by decide))
                  have hlv82_5 : aj_lv lv82 5 = some (.int (Int32.ofInt 1)) := fx_e1 elv82 hlv78_5 (by decide) (Or.inl (by decide))
                  have hlv82_7 : aj_lv lv82 7 = some (.int (Int32.ofInt 0)) := by rw [elv82]; exact ak_set1_eq _ _ _
                  show fx_W _ _ _ 183 lv82 [] _ _
                  exact (ih.2.2) lv82 (y2) (y3) ((Int32.ofInt (-1))) ((Int32.ofInt 1)) (y6) ((Int32.ofInt 0)) X79  hlv82_0 hlv82_1 hlv82_2 hlv82_3 hlv82_4 hlv82_5 hlv82_6 hlv82_7
                · skip
                  refine fx_qi (c := (w80).toInt = 0) (fx_f_ne q81) ?_
                  show fx_W _ _ _ 178 lv78 [] _ _
                  refine fx_n (pc' := 179) (lv' := lv78) (st' := [.int (Int32.ofInt 0)]) aj_d263 rfl (Nat.le_succ _) (fun _ => rfl) ?_
                  exact fx_ri aj_d263 rfl ⟨_, rfl, 0, rfl, rfl⟩
        · skip
          refine fx_qi (c := (w47).toInt = 0) (fx_f_ne q48) ?_
          show fx_W _ _ _ 136 lv [] _ _
          refine fx_n (pc' := 137) (lv' := lv) (st' := [.int (Int32.ofInt 0)]) aj_d263 rfl (Nat.le_succ _) (fun _ => rfl) ?_
          exact fx_ri aj_d263 rfl ⟨_, rfl, 0, rfl, rfl⟩
    · intro lv y2 y3 y4 y5 y6 y7 X hlv_0 hlv_1 hlv_2 hlv_3 hlv_4 hlv_5 hlv_6 hlv_7
      refine fx_mono (Q := fx_Q fx_qI (fun v X' => ∃ n : Nat, gxT_263_183 p1 (gxF_263 p1 n) y2 y3 y4 y5 y6 y7 X v X')) (fun r X' ⟨v, e, n, z⟩ => ⟨v, e, n + 1, gxI_263_183 z⟩) ?_
      unfold gxT_263_183
      refine fx_i0 aj_d263 rfl (Nat.le_refl _) (fun _ => rfl) hlv_7 ?_
      refine fx_i2 aj_d263 rfl (Nat.le_succ _) (fun _ => rfl) hlv_0 ?_
      refine fx_gI aj_d263 rfl (Nat.le_succ _) rfl rfl (Or.inl rfl) ?_
      refine fx_b (tgt := 240) aj_d263 rfl (Nat.le_succ _) rfl (fun q83 => ?_) (fun q83 => ?_)
      · skip
        refine fx_qe (c := (y7).toInt < ((X.1 117 56)).toInt) (fx_t_ge q83) ?_
        show fx_W _ _ _ 240 lv [] _ _
        refine fx_i0 aj_d263 rfl (Nat.le_succ _) (fun _ => rfl) hlv_5 ?_
        refine fx_b0 (tgt := 250) aj_d263 rfl (Nat.le_succ _) rfl (fun q84 => ?_) (fun q84 => ?_)
        · skip
          refine fx_qe (c := (y5).toInt = 0) (fx_t_ne q84) ?_
          show fx_W _ _ _ 250 lv [] _ _
          refine fx_i2 aj_d263 rfl (Nat.le_succ _) (fun _ => rfl) hlv_0 ?_
          refine fx_gF aj_d263 rfl (Nat.le_succ _) rfl rfl fx_in_11_16 (t := 132) rfl (fun hA85 => ?_)
          refine fx_i0 aj_d263 rfl (Nat.le_succ _) (fun _ => rfl) hlv_1 ?_
          refine fx_n (pc' := 256) (lv' := lv) (st' := [.int (Int32.ofInt (-1)), .int p1, .ref 132]) aj_d263 rfl (Nat.le_succ _) (fun _ => rfl) ?_
          refine fx_st aj_d263 (Or.inl ⟨rfl, rfl⟩) rfl (Nat.le_succ _) (fun g860 g861 => ?_)
          show fx_W _ _ _ _ _ _ (fx_wI X 132 (p1).toInt.toNat (Int32.ofInt (-1))) _
          refine fx_qa (c := 0 ≤ (p1).toInt ∧ (p1).toInt < ((50 : Nat) : Int)) ⟨g860, fx_lnk g861 hA85⟩ ?_
          refine fx_qX (fun X87 eX87 => ?_)
          show fx_W _ _ _ 257 lv [] _ _
          refine fx_n (pc' := 258) (lv' := lv) (st' := [.int (Int32.ofInt 1)]) aj_d263 rfl (Nat.le_succ _) (fun _ => rfl) ?_
          exact fx_ri aj_d263 rfl ⟨_, rfl, 0, rfl, rfl⟩
        · skip
          refine fx_qi (c := (y5).toInt = 0) (fx_f_ne q84) ?_
          show fx_W _ _ _ 245 lv [] _ _
          refine fx_i0 aj_d263 rfl (Nat.le_succ _) (fun _ => rfl) hlv_6 ?_
          refine fx_b0 (tgt := 259) aj_d263 rfl (Nat.le_succ _) rfl (fun q88 => ?_) (fun q88 => ?_)
          · skip
            refine fx_qi (c := (y6).toInt = 0) (fx_t_eq q88) ?_
            show fx_W _ _ _ 259 lv [] _ _
            refine fx_i2 aj_d263 rfl (Nat.le_succ _) (fun _ => rfl) hlv_0 ?_
            refine fx_i0 aj_d263 rfl (Nat.le_succ _) (fun _ => rfl) hlv_1 ?_
            refine fx_i0 aj_d263 rfl (Nat.le_succ _) (fun _ => rfl) hlv_3 ?_
            refine fx_i0 aj_d263 rfl (Nat.le_succ _) (fun _ => rfl) hlv_4 ?_
            refine fx_i0 aj_d263 rfl (Nat.le_succ _) (fun _ => rfl) hlv_2 ?_
            refine fx_cv aj_d263 rfl (Nat.le_succ _) rfl [_, _, _, _] rfl rfl (gx_265_ok p1 y3 y4 y2) ?_
            rintro _ X89 ⟨w90, rfl, hR89⟩ hok89 hle89
            refine fx_qc hR89 ?_
            show fx_W _ _ _ 268 lv [.int w90] _ _
            exact fx_ri aj_d263 rfl ⟨_, rfl, 0, rfl, rfl⟩
          · skip
            refine fx_qe (c := (y6).toInt = 0) (fx_f_eq q88) ?_
            show fx_W _ _ _ 250 lv [] _ _
            refine fx_i2 aj_d263 rfl (Nat.le_succ _) (fun _ => rfl) hlv_0 ?_
            refine fx_gF aj_d263 rfl (Nat.le_succ _) rfl rfl fx_in_11_16 (t := 132) rfl (fun hA91 => ?_)
            refine fx_i0 aj_d263 rfl (Nat.le_succ _) (fun _ => rfl) hlv_1 ?_
            refine fx_n (pc' := 256) (lv' := lv) (st' := [.int (Int32.ofInt (-1)), .int p1, .ref 132]) aj_d263 rfl (Nat.le_succ _) (fun _ => rfl) ?_
            refine fx_st aj_d263 (Or.inl ⟨rfl, rfl⟩) rfl (Nat.le_succ _) (fun g920 g921 => ?_)
            show fx_W _ _ _ _ _ _ (fx_wI X 132 (p1).toInt.toNat (Int32.ofInt (-1))) _
            refine fx_qa (c := 0 ≤ (p1).toInt ∧ (p1).toInt < ((50 : Nat) : Int)) ⟨g920, fx_lnk g921 hA91⟩ ?_
            refine fx_qX (fun X93 eX93 => ?_)
            show fx_W _ _ _ 257 lv [] _ _
            refine fx_n (pc' := 258) (lv' := lv) (st' := [.int (Int32.ofInt 1)]) aj_d263 rfl (Nat.le_succ _) (fun _ => rfl) ?_
            exact fx_ri aj_d263 rfl ⟨_, rfl, 0, rfl, rfl⟩
      · skip
        refine fx_qi (c := (y7).toInt < ((X.1 117 56)).toInt) (fx_f_ge q83) ?_
        show fx_W _ _ _ 192 lv [] _ _
        refine fx_i0 aj_d263 rfl (Nat.le_succ _) (fun _ => rfl) hlv_5 ?_
        refine fx_b0 (tgt := 240) aj_d263 rfl (Nat.le_succ _) rfl (fun q94 => ?_) (fun q94 => ?_)
        · skip
          refine fx_qe (c := (y5).toInt = 0) (fx_t_ne q94) ?_
          show fx_W _ _ _ 240 lv [] _ _
          refine fx_i0 aj_d263 rfl (Nat.le_succ _) (fun _ => rfl) hlv_5 ?_
          refine fx_b0 (tgt := 250) aj_d263 rfl (Nat.le_succ _) rfl (fun q95 => ?_) (fun q95 => ?_)
          · skip
            refine fx_qe (c := (y5).toInt = 0) (fx_t_ne q95) ?_
            show fx_W _ _ _ 250 lv [] _ _
            refine fx_i2 aj_d263 rfl (Nat.le_succ _) (fun _ => rfl) hlv_0 ?_
            refine fx_gF aj_d263 rfl (Nat.le_succ _) rfl rfl fx_in_11_16 (t := 132) rfl (fun hA96 => ?_)
            refine fx_i0 aj_d263 rfl (Nat.le_succ _) (fun _ => rfl) hlv_1 ?_
            refine fx_n (pc' := 256) (lv' := lv) (st' := [.int (Int32.ofInt (-1)), .int p1, .ref 132]) aj_d263 rfl (Nat.le_succ _) (fun _ => rfl) ?_
            refine fx_st aj_d263 (Or.inl ⟨rfl, rfl⟩) rfl (Nat.le_succ _) (fun g970 g971 => ?_)
            show fx_W _ _ _ _ _ _ (fx_wI X 132 (p1).toInt.toNat (Int32.ofInt (-1))) _
            refine fx_qa (c := 0 ≤ (p1).toInt ∧ (p1).toInt < ((50 : Nat) : Int)) ⟨g970, fx_lnk g971 hA96⟩ ?_
            refine fx_qX (fun X98 eX98 => ?_)
            show fx_W _ _ _ 257 lv [] _ _
            refine fx_n (pc' := 258) (lv' := lv) (st' := [.int (Int32.ofInt 1)]) aj_d263 rfl (Nat.le_succ _) (fun _ => rfl) ?_
            exact fx_ri aj_d263 rfl ⟨_, rfl, 0, rfl, rfl⟩
          · skip
            refine fx_qi (c := (y5).toInt = 0) (fx_f_ne q95) ?_
            show fx_W _ _ _ 245 lv [] _ _
            refine fx_i0 aj_d263 rfl (Nat.le_succ _) (fun _ => rfl) hlv_6 ?_
            refine fx_b0 (tgt := 259) aj_d263 rfl (Nat.le_succ _) rfl (fun q99 => ?_) (fun q99 => ?_)
            · skip
              refine fx_qi (c := (y6).toInt = 0) (fx_t_eq q99) ?_
              show fx_W _ _ _ 259 lv [] _ _
              refine fx_i2 aj_d263 rfl (Nat.le_succ _) (fun _ => rfl) hlv_0 ?_
              refine fx_i0 aj_d263 rfl (Nat.le_succ _) (fun _ => rfl) hlv_1 ?_
              refine fx_i0 aj_d263 rfl (Nat.le_succ _) (fun _ => rfl) hlv_3 ?_
              refine fx_i0 aj_d263 rfl (Nat.le_succ _) (fun _ => rfl) hlv_4 ?_
              refine fx_i0 aj_d263 rfl (Nat.le_succ _) (fun _ => rfl) hlv_2 ?_
              refine fx_cv aj_d263 rfl (Nat.le_succ _) rfl [_, _, _, _] rfl rfl (gx_265_ok p1 y3 y4 y2) ?_
              rintro _ X100 ⟨w101, rfl, hR100⟩ hok100 hle100
              refine fx_qc hR100 ?_
              show fx_W _ _ _ 268 lv [.int w101] _ _
              exact fx_ri aj_d263 rfl ⟨_, rfl, 0, rfl, rfl⟩
            · skip
              refine fx_qe (c := (y6).toInt = 0) (fx_f_eq q99) ?_
              show fx_W _ _ _ 250 lv [] _ _
              refine fx_i2 aj_d263 rfl (Nat.le_succ _) (fun _ => rfl) hlv_0 ?_
              refine fx_gF aj_d263 rfl (Nat.le_succ _) rfl rfl fx_in_11_16 (t := 132) rfl (fun hA102 => ?_)
              refine fx_i0 aj_d263 rfl (Nat.le_succ _) (fun _ => rfl) hlv_1 ?_
              refine fx_n (pc' := 256) (lv' := lv) (st' := [.int (Int32.ofInt (-1)), .int p1, .ref 132]) aj_d263 rfl (Nat.le_succ _) (fun _ => rfl) ?_
              refine fx_st aj_d263 (Or.inl ⟨rfl, rfl⟩) rfl (Nat.le_succ _) (fun g1030 g1031 => ?_)
              show fx_W _ _ _ _ _ _ (fx_wI X 132 (p1).toInt.toNat (Int32.ofInt (-1))) _
              refine fx_qa (c := 0 ≤ (p1).toInt ∧ (p1).toInt < ((50 : Nat) : Int)) ⟨g1030, fx_lnk g1031 hA102⟩ ?_
              refine fx_qX (fun X104 eX104 => ?_)
              show fx_W _ _ _ 257 lv [] _ _
              refine fx_n (pc' := 258) (lv' := lv) (st' := [.int (Int32.ofInt 1)]) aj_d263 rfl (Nat.le_succ _) (fun _ => rfl) ?_
              exact fx_ri aj_d263 rfl ⟨_, rfl, 0, rfl, rfl⟩
        · skip
          refine fx_qi (c := (y5).toInt = 0) (fx_f_ne q94) ?_
          show fx_W _ _ _ 197 lv [] _ _
          refine fx_i2 aj_d263 rfl (Nat.le_succ _) (fun _ => rfl) hlv_0 ?_
          refine fx_gF aj_d263 rfl (Nat.le_succ _) rfl rfl fx_in_11_17 (t := 133) rfl (fun hA105 => ?_)
          refine fx_i0 aj_d263 rfl (Nat.le_succ _) (fun _ => rfl) hlv_1 ?_
          refine fx_n (pc' := 204) (lv' := lv) (st' := [.int ((Int8.ofInt 8).toInt32), .int p1, .ref 133]) aj_d263 rfl (Nat.le_succ _) (fun _ => rfl) ?_
          refine fx_n (pc' := 205) (lv' := lv) (st' := [.int (p1 * ((Int8.ofInt 8).toInt32)), .ref 133]) aj_d263 rfl (Nat.le_succ _) (fun _ => rfl) ?_
          refine fx_i2 aj_d263 rfl (Nat.le_succ _) (fun _ => rfl) hlv_0 ?_
          refine fx_gF aj_d263 rfl (Nat.le_succ _) rfl rfl fx_in_11_55 (t := 142) rfl (fun hA106 => ?_)
          refine fx_i0 aj_d263 rfl (Nat.le_succ _) (fun _ => rfl) hlv_7 ?_
          refine fx_ld aj_d263 (Or.inl rfl) rfl (Nat.le_succ _) (fun g1070 g1071 => ?_)
          show fx_W _ _ _ 212 lv [.int (X.1 142 (y7).toInt.toNat), .int (p1 * ((Int8.ofInt 8).toInt32)), .ref 133] _ _
          refine fx_qa (c := 0 ≤ (y7).toInt ∧ (y7).toInt < ((16 : Nat) : Int)) ⟨g1070, fx_lnk g1071 hA106⟩ ?_
          refine fx_n (pc' := 213) (lv' := lv) (st' := [.int ((p1 * ((Int8.ofInt 8).toInt32)) + (X.1 142 (y7).toInt.toNat)), .ref 133]) aj_d263 rfl (Nat.le_succ _) (fun _ => rfl) ?_
          refine fx_ldL aj_d263 rfl (Nat.le_succ _) (fun g1080 g1081 => ?_)
          show fx_W _ _ _ 214 lv [.long (X.2.1 133 (((p1 * ((Int8.ofInt 8).toInt32)) + (X.1 142 (y7).toInt.toNat))).toInt.toNat)] _ _
          refine fx_qa (c := 0 ≤ (((p1 * ((Int8.ofInt 8).toInt32)) + (X.1 142 (y7).toInt.toNat))).toInt ∧ (((p1 * ((Int8.ofInt 8).toInt32)) + (X.1 142 (y7).toInt.toNat))).toInt < ((400 : Nat) : Int)) ⟨g1080, fx_lnk g1081 hA105⟩ ?_
          refine fx_i2 aj_d263 rfl (Nat.le_succ _) (fun _ => rfl) hlv_0 ?_
          refine fx_gL aj_d263 rfl (Nat.le_succ _) rfl rfl rfl ?_
          refine fx_n (pc' := 219) (lv' := lv) (st' := [.int (lg_cmp (X.2.1 133 (((p1 * ((Int8.ofInt 8).toInt32)) + (X.1 142 (y7).toInt.toNat))).toInt.toNat) (X.2.1 117 33))]) aj_d263 rfl (Nat.le_succ _) (fun _ => rfl) ?_
          refine fx_b0 (tgt := 234) aj_d263 rfl (Nat.le_succ _) rfl (fun q109 => ?_) (fun q109 => ?_)
          · skip
            refine fx_qe (c := (X.2.1 133 (((p1 * ((Int8.ofInt 8).toInt32)) + (X.1 142 (y7).toInt.toNat))).toInt.toNat) = (X.2.1 117 33)) (fun z => (fx_t_ne q109) (fx_lc.mpr z)) ?_
            show fx_W _ _ _ 234 lv [] _ _
            refine fx_incq aj_d263 rfl (Nat.le_succ _) hlv_7 (by decide) (fun x110 ex110 => ?_)
            obtain ⟨lv111, elv111⟩ : ∃ l, l = aj_set1 lv 7 (.int x110) := ⟨_, rfl⟩
            rw [← elv111]
            have hlv111_0 : aj_lv lv111 0 = some (.ref 117) := fx_e1 elv111 hlv_0 (by decide) (Or.inl (by decide))
            have hlv111_1 : aj_lv lv111 1 = some (.int p1) := fx_e1 elv111 hlv_1 (by decide) (Or.inl (by decide))
            have hlv111_2 : aj_lv lv111 2 = some (.int y2) := fx_e1 elv111 hlv_2 (by decide) (Or.inl (by decide))
            have hlv111_3 : aj_lv lv111 3 = some (.int y3) := fx_e1 elv111 hlv_3 (by decide) (Or.inl (by decide))
            have hlv111_4 : aj_lv lv111 4 = some (.int y4) := fx_e1 elv111 hlv_4 (by decide) (Or.inl (by decide))
            have hlv111_5 : aj_lv lv111 5 = some (.int y5) := fx_e1 elv111 hlv_5 (by decide) (Or.inl (by decide))
            have hlv111_6 : aj_lv lv111 6 = some (.int y6) := fx_e1 elv111 hlv_6 (by decide) (Or.inr rfl)
            have hlv111_7 : aj_lv lv111 7 = some (.int x110) := by rw [elv111]; exact ak_set1_eq _ _ _
            show fx_W _ _ _ 237 lv111 [] _ _
            refine fx_n (pc' := 183) (lv' := lv111) (st' := []) aj_d263 rfl (Nat.le_succ _) (fun _ => rfl) ?_
            exact (ih.2.2) lv111 (y2) (y3) (y4) (y5) (y6) (x110) X  hlv111_0 hlv111_1 hlv111_2 hlv111_3 hlv111_4 hlv111_5 hlv111_6 hlv111_7
          · skip
            refine fx_qi (c := (X.2.1 133 (((p1 * ((Int8.ofInt 8).toInt32)) + (X.1 142 (y7).toInt.toNat))).toInt.toNat) = (X.2.1 117 33)) (fx_lc.mp (fx_f_ne q109)) ?_
            show fx_W _ _ _ 222 lv [] _ _
            refine fx_i2 aj_d263 rfl (Nat.le_succ _) (fun _ => rfl) hlv_0 ?_
            refine fx_n (pc' := 224) (lv' := lv) (st' := [.int (Int32.ofInt 3), .ref 117]) aj_d263 rfl (Nat.le_succ _) (fun _ => rfl) ?_
            refine fx_i2 aj_d263 rfl (Nat.le_succ _) (fun _ => rfl) hlv_0 ?_
            refine fx_gI aj_d263 rfl (Nat.le_succ _) rfl rfl (Or.inl rfl) ?_
            refine fx_cv aj_d263 rfl (Nat.le_succ _) rfl [_, _] rfl rfl (gx_218_ok (Int32.ofInt 3) (X.1 117 34)) ?_
            rintro _ X112 ⟨w113, rfl, hR112⟩ hok112 hle112
            refine fx_qc hR112 ?_
            show fx_W _ _ _ 231 lv [] _ _
            refine fx_n (pc' := 232) (lv' := lv) (st' := [.int (Int32.ofInt 1)]) aj_d263 rfl (Nat.le_succ _) (fun _ => rfl) ?_
            refine fx_s0 (j := 5) aj_d263 rfl (Nat.le_succ _) (by decide) (fun _ => rfl) ?_
            obtain ⟨lv114, elv114⟩ : ∃ l, l = aj_set1 lv 5 (.int (Int32.ofInt 1)) := ⟨_, rfl⟩
            rw [← elv114]
            have hlv114_0 : aj_lv lv114 0 = some (.ref 117) := fx_e1 elv114 hlv_0 (by decide) (Or.inl (by decide))
            have hlv114_1 : aj_lv lv114 1 = some (.int p1) := fx_e1 elv114 hlv_1 (by decide) (Or.inl (by decide))
            have hlv114_2 : aj_lv lv114 2 = some (.int y2) := fx_e1 elv114 hlv_2 (by decide) (Or.inl (by decide))
            have hlv114_3 : aj_lv lv114 3 = some (.int y3) := fx_e1 elv114 hlv_3 (by decide) (Or.inl (by decide))
            have hlv114_4 : aj_lv lv114 4 = some (.int y4) := fx_e1 elv114 hlv_4 (by decide) (Or.inr rfl)
            have hlv114_6 : aj_lv lv114 6 = some (.int y6) := fx_e1 elv114 hlv_6 (by decide) (Or.inl (by decide))
            have hlv114_7 : aj_lv lv114 7 = some (.int y7) := fx_e1 elv114 hlv_7 (by decide) (Or.inl (by decide))
            have hlv114_5 : aj_lv lv114 5 = some (.int (Int32.ofInt 1)) := by rw [elv114]; exact ak_set1_eq _ _ _
            show fx_W _ _ _ 234 lv114 [] _ _
            refine fx_incq aj_d263 rfl (Nat.le_succ _) hlv114_7 (by decide) (fun x115 ex115 => ?_)
            obtain ⟨lv116, elv116⟩ : ∃ l, l = aj_set1 lv114 7 (.int x115) := ⟨_, rfl⟩
            rw [← elv116]
            have hlv116_0 : aj_lv lv116 0 = some (.ref 117) := fx_e1 elv116 hlv114_0 (by decide) (Or.inl (by decide))
            have hlv116_1 : aj_lv lv116 1 = some (.int p1) := fx_e1 elv116 hlv114_1 (by decide) (Or.inl (by decide))
            have hlv116_2 : aj_lv lv116 2 = some (.int y2) := fx_e1 elv116 hlv114_2 (by decide) (Or.inl (by decide))
            have hlv116_3 : aj_lv lv116 3 = some (.int y3) := fx_e1 elv116 hlv114_3 (by decide) (Or.inl (by decide))
            have hlv116_4 : aj_lv lv116 4 = some (.int y4) := fx_e1 elv116 hlv114_4 (by decide) (Or.inl (by decide))
            have hlv116_6 : aj_lv lv116 6 = some (.int y6) := fx_e1 elv116 hlv114_6 (by decide) (Or.inr rfl)
            have hlv116_5 : aj_lv lv116 5 = some (.int (Int32.ofInt 1)) := fx_e1 elv116 hlv114_5 (by decide) (Or.inl (by decide))
            have hlv116_7 : aj_lv lv116 7 = some (.int x115) := by rw [elv116]; exact ak_set1_eq _ _ _
            show fx_W _ _ _ 237 lv116 [] _ _
            refine fx_n (pc' := 183) (lv' := lv116) (st' := []) aj_d263 rfl (Nat.le_succ _) (fun _ => rfl) ?_
            exact (ih.2.2) lv116 (y2) (y3) (y4) ((Int32.ofInt 1)) (y6) (x115) X112  hlv116_0 hlv116_1 hlv116_2 hlv116_3 hlv116_4 hlv116_5 hlv116_6 hlv116_7
theorem gx_263_ok {tb : aj_T} (p1 : Int32) {X : fx_X} : fx_K tb 263 [.ref 117, .int p1] X (fx_Q fx_qI (fun v X' => gx_263 p1 X v X')) := by
  refine fx_m aj_m263_at rfl (fun N => ?_)
  refine fx_mono (Q := fx_Q fx_qI (fun v X' => ∃ n : Nat, gxE_263 p1 (gxF_263 p1 n) X v X')) (fun r X' h => h) ?_
  unfold gxE_263
  show fx_W _ _ _ 0 [(0, .ref 117), (1, .int p1)] [] _ _
  obtain ⟨lv1, elv1⟩ : ∃ l : aj_V, l = [(0, .ref 117), (1, .int p1)] := ⟨_, rfl⟩
  rw [← elv1]
  have hlv1_0 : aj_lv lv1 0 = some (.ref 117) := by rw [elv1]; rfl
  have hlv1_1 : aj_lv lv1 1 = some (.int p1) := by rw [elv1]; rfl
  refine fx_i2 aj_d263 rfl (Nat.le_succ _) (fun _ => rfl) hlv1_0 ?_
  refine fx_gI aj_d263 rfl (Nat.le_succ _) rfl rfl (Or.inl rfl) ?_
  refine fx_qxI (fun x2 ex2 => ?_)
  refine fx_s0 (j := 2) aj_d263 rfl (Nat.le_succ _) (by decide) (fun _ => rfl) ?_
  obtain ⟨lv3, elv3⟩ : ∃ l, l = aj_set1 lv1 2 (.int x2) := ⟨_, rfl⟩
  rw [← elv3]
  have hlv3_0 : aj_lv lv3 0 = some (.ref 117) := fx_e1 elv3 hlv1_0 (by decide) (Or.inl (by decide))
  have hlv3_1 : aj_lv lv3 1 = some (.int p1) := fx_e1 elv3 hlv1_1 (by decide) (Or.inr rfl)
  have hlv3_2 : aj_lv lv3 2 = some (.int x2) := by rw [elv3]; exact ak_set1_eq _ _ _
  show fx_W _ _ _ 5 lv3 [] _ _
  refine fx_i2 aj_d263 rfl (Nat.le_succ _) (fun _ => rfl) hlv3_0 ?_
  refine fx_cv aj_d263 rfl (Nat.le_succ _) rfl [] rfl rfl (gx_264_ok) ?_
  rintro _ X4 ⟨w5, rfl, hR4⟩ hok4 hle4
  refine fx_qc hR4 ?_
  show fx_W _ _ _ 9 lv3 [.int w5] _ _
  refine fx_b0 (tgt := 21) aj_d263 rfl (Nat.le_succ _) rfl (fun q6 => ?_) (fun q6 => ?_)
  · skip
    refine fx_qi (c := (w5).toInt = 0) (fx_t_eq q6) ?_
    show fx_W _ _ _ 21 lv3 [] _ _
    refine fx_n (pc' := 22) (lv' := lv3) (st' := [.int (Int32.ofInt 0)]) aj_d263 rfl (Nat.le_succ _) (fun _ => rfl) ?_
    exact fx_ri aj_d263 rfl ⟨_, rfl, 0, rfl, rfl⟩
  · skip
    refine fx_qe (c := (w5).toInt = 0) (fx_f_eq q6) ?_
    show fx_W _ _ _ 12 lv3 [] _ _
    refine fx_i2 aj_d263 rfl (Nat.le_succ _) (fun _ => rfl) hlv3_0 ?_
    refine fx_i0 aj_d263 rfl (Nat.le_succ _) (fun _ => rfl) hlv3_1 ?_
    refine fx_n (pc' := 15) (lv' := lv3) (st' := [.int (Int32.ofInt 1), .int p1, .ref 117]) aj_d263 rfl (Nat.le_succ _) (fun _ => rfl) ?_
    refine fx_cv aj_d263 rfl (Nat.le_succ _) rfl [_, _] rfl rfl (gx_261_ok p1 (Int32.ofInt 1)) ?_
    rintro _ X7 ⟨w8, rfl, hR7⟩ hok7 hle7
    refine fx_qc hR7 ?_
    show fx_W _ _ _ 18 lv3 [.int w8] _ _
    refine fx_b0 (tgt := 23) aj_d263 rfl (Nat.le_succ _) rfl (fun q9 => ?_) (fun q9 => ?_)
    · skip
      refine fx_qe (c := (w8).toInt = 0) (fx_t_ne q9) ?_
      show fx_W _ _ _ 23 lv3 [] _ _
      refine fx_i2 aj_d263 rfl (Nat.le_succ _) (fun _ => rfl) hlv3_0 ?_
      refine fx_gI aj_d263 rfl (Nat.le_succ _) rfl rfl (Or.inl rfl) ?_
      refine fx_n (pc' := 28) (lv' := lv3) (st' := [.int (Int32.ofInt 4), .int (X7.1 117 26)]) aj_d263 rfl (Nat.le_succ _) (fun _ => rfl) ?_
      refine fx_b (tgt := 47) aj_d263 rfl (Nat.le_succ _) rfl (fun q10 => ?_) (fun q10 => ?_)
      · skip
        refine fx_qe (c := ((X7.1 117 26)).toInt = 4) (fx_t_ne q10) ?_
        show fx_W _ _ _ 47 lv3 [] _ _
        exact ((gxL_263 p1 N).1) lv3 (x2) X7  hlv3_0 hlv3_1 hlv3_2
      · skip
        refine fx_qi (c := ((X7.1 117 26)).toInt = 4) (fx_f_ne q10) ?_
        show fx_W _ _ _ 31 lv3 [] _ _
        refine fx_i2 aj_d263 rfl (Nat.le_succ _) (fun _ => rfl) hlv3_0 ?_
        refine fx_gI aj_d263 rfl (Nat.le_succ _) rfl rfl (Or.inl rfl) ?_
        refine fx_n (pc' := 37) (lv' := lv3) (st' := [.int ((Int8.ofInt 6).toInt32), .int (X7.1 117 29)]) aj_d263 rfl (Nat.le_succ _) (fun _ => rfl) ?_
        refine fx_b (tgt := 47) aj_d263 rfl (Nat.le_succ _) rfl (fun q11 => ?_) (fun q11 => ?_)
        · skip
          refine fx_qi (c := ((X7.1 117 29)).toInt < 6) (fx_t_lt q11) ?_
          show fx_W _ _ _ 47 lv3 [] _ _
          exact ((gxL_263 p1 N).1) lv3 (x2) X7  hlv3_0 hlv3_1 hlv3_2
        · skip
          refine fx_qe (c := ((X7.1 117 29)).toInt < 6) (fx_f_lt q11) ?_
          show fx_W _ _ _ 40 lv3 [] _ _
          refine fx_i2 aj_d263 rfl (Nat.le_succ _) (fun _ => rfl) hlv3_0 ?_
          refine fx_gI aj_d263 rfl (Nat.le_succ _) rfl rfl (Or.inl rfl) ?_
          refine fx_n (pc' := 48) (lv' := lv3) (st' := [.int (X7.1 117 29)]) aj_d263 rfl (Nat.le_succ _) (fun _ => rfl) ?_
          refine fx_qxI (fun x12 ex12 => ?_)
          refine fx_s0 (j := 3) aj_d263 rfl (Nat.le_succ _) (by decide) (fun _ => rfl) ?_
          obtain ⟨lv13, elv13⟩ : ∃ l, l = aj_set1 lv3 3 (.int x12) := ⟨_, rfl⟩
          rw [← elv13]
          have hlv13_0 : aj_lv lv13 0 = some (.ref 117) := fx_e1 elv13 hlv3_0 (by decide) (Or.inl (by decide))
          have hlv13_1 : aj_lv lv13 1 = some (.int p1) := fx_e1 elv13 hlv3_1 (by decide) (Or.inl (by decide))
          have hlv13_2 : aj_lv lv13 2 = some (.int x2) := fx_e1 elv13 hlv3_2 (by decide) (Or.inr rfl)
          have hlv13_3 : aj_lv lv13 3 = some (.int x12) := by rw [elv13]; exact ak_set1_eq _ _ _
          show fx_W _ _ _ 49 lv13 [] _ _
          refine fx_i0 aj_d263 rfl (Nat.le_succ _) (fun _ => rfl) hlv13_3 ?_
          refine fx_b0 (tgt := 63) aj_d263 rfl (Nat.le_succ _) rfl (fun q14 => ?_) (fun q14 => ?_)
          · skip
            refine fx_qe (c := (x12).toInt < 0) (fx_t_ge q14) ?_
            show fx_W _ _ _ 63 lv13 [] _ _
            refine fx_i2 aj_d263 rfl (Nat.le_succ _) (fun _ => rfl) hlv13_0 ?_
            refine fx_cv aj_d263 rfl (Nat.le_succ _) rfl [] rfl rfl (gx_214_ok) ?_
            rintro _ X15 ⟨w16, rfl, hR15⟩ hok15 hle15
            refine fx_qc hR15 ?_
            show fx_W _ _ _ 67 lv13 [.int w16] _ _
            refine fx_b0 (tgt := 72) aj_d263 rfl (Nat.le_succ _) rfl (fun q17 => ?_) (fun q17 => ?_)
            · skip
              refine fx_qe (c := (w16).toInt = 0) (fx_t_ne q17) ?_
              show fx_W _ _ _ 72 lv13 [] _ _
              refine fx_n (pc' := 73) (lv' := lv13) (st' := [.int (Int32.ofInt 0)]) aj_d263 rfl (Nat.le_succ _) (fun _ => rfl) ?_
              refine fx_s0 (j := 4) aj_d263 rfl (Nat.le_succ _) (by decide) (fun _ => rfl) ?_
              obtain ⟨lv18, elv18⟩ : ∃ l, l = aj_set1 lv13 4 (.int (Int32.ofInt 0)) := ⟨_, rfl⟩
              rw [← elv18]
              have hlv18_0 : aj_lv lv18 0 = some (.ref 117) := fx_e1 elv18 hlv13_0 (by decide) (Or.inl (by decide))
              have hlv18_1 : aj_lv lv18 1 = some (.int p1) := fx_e1 elv18 hlv13_1 (by decide) (Or.inl (by decide))
              have hlv18_2 : aj_lv lv18 2 = some (.int x2) := fx_e1 elv18 hlv13_2 (by decide) (Or.inl (by decide))
              have hlv18_3 : aj_lv lv18 3 = some (.int x12) := fx_e1 elv18 hlv13_3 (by decide) (Or.inr rfl)
              have hlv18_4 : aj_lv lv18 4 = some (.int (Int32.ofInt 0)) := by rw [elv18]; exact ak_set1_eq _ _ _
              show fx_W _ _ _ 75 lv18 [] _ _
              refine fx_i2 aj_d263 rfl (Nat.le_succ _) (fun _ => rfl) hlv18_0 ?_
              refine fx_gF aj_d263 rfl (Nat.le_succ _) rfl rfl fx_in_11_16 (t := 132) rfl (fun hA19 => ?_)
              refine fx_i0 aj_d263 rfl (Nat.le_succ _) (fun _ => rfl) hlv18_1 ?_
              refine fx_ld aj_d263 (Or.inl rfl) rfl (Nat.le_succ _) (fun g200 g201 => ?_)
              show fx_W _ _ _ 81 lv18 [.int (X15.1 132 (p1).toInt.toNat)] _ _
              refine fx_qa (c := 0 ≤ (p1).toInt ∧ (p1).toInt < ((50 : Nat) : Int)) ⟨g200, fx_lnk g201 hA19⟩ ?_
              refine fx_b0 (tgt := 88) aj_d263 rfl (Nat.le_succ _) rfl (fun q21 => ?_) (fun q21 => ?_)
              · skip
                refine fx_qe (c := ((X15.1 132 (p1).toInt.toNat)).toInt < 0) (fx_t_ge q21) ?_
                show fx_W _ _ _ 88 lv18 [] _ _
                refine fx_n (pc' := 89) (lv' := lv18) (st' := [.int (Int32.ofInt 0)]) aj_d263 rfl (Nat.le_succ _) (fun _ => rfl) ?_
                refine fx_s0 (j := 5) aj_d263 rfl (Nat.le_succ _) (by decide) (fun _ => rfl) ?_
                obtain ⟨lv22, elv22⟩ : ∃ l, l = aj_set1 lv18 5 (.int (Int32.ofInt 0)) := ⟨_, rfl⟩
                rw [← elv22]
                have hlv22_0 : aj_lv lv22 0 = some (.ref 117) := fx_e1 elv22 hlv18_0 (by decide) (Or.inl (by decide))
                have hlv22_1 : aj_lv lv22 1 = some (.int p1) := fx_e1 elv22 hlv18_1 (by decide) (Or.inl (by decide))
                have hlv22_2 : aj_lv lv22 2 = some (.int x2) := fx_e1 elv22 hlv18_2 (by decide) (Or.inl (by decide))
                have hlv22_3 : aj_lv lv22 3 = some (.int x12) := fx_e1 elv22 hlv18_3 (by decide) (Or.inl (by decide))
                have hlv22_4 : aj_lv lv22 4 = some (.int (Int32.ofInt 0)) := fx_e1 elv22 hlv18_4 (by decide) (Or.inr rfl)
                have hlv22_5 : aj_lv lv22 5 = some (.int (Int32.ofInt 0)) := by rw [elv22]; exact ak_set1_eq _ _ _
                show fx_W _ _ _ 91 lv22 [] _ _
                refine fx_i0 aj_d263 rfl (Nat.le_succ _) (fun _ => rfl) hlv22_5 ?_
                refine fx_b0 (tgt := 109) aj_d263 rfl (Nat.le_succ _) rfl (fun q23 => ?_) (fun q23 => ?_)
                · exact absurd q23 (by decide)
                · skip
                  show fx_W _ _ _ 96 lv22 [] _ _
                  refine fx_i2 aj_d263 rfl (Nat.le_succ _) (fun _ => rfl) hlv22_0 ?_
                  refine fx_gI aj_d263 rfl (Nat.le_succ _) rfl rfl (Or.inl rfl) ?_
                  refine fx_n (pc' := 102) (lv' := lv22) (st' := [.int ((Int8.ofInt 6).toInt32), .int (X15.1 117 56)]) aj_d263 rfl (Nat.le_succ _) (fun _ => rfl) ?_
                  refine fx_b (tgt := 109) aj_d263 rfl (Nat.le_succ _) rfl (fun q24 => ?_) (fun q24 => ?_)
                  · skip
                    refine fx_qe (c := ((X15.1 117 56)).toInt = 6) (fx_t_ne q24) ?_
                    show fx_W _ _ _ 109 lv22 [] _ _
                    refine fx_n (pc' := 110) (lv' := lv22) (st' := [.int (Int32.ofInt 0)]) aj_d263 rfl (Nat.le_succ _) (fun _ => rfl) ?_
                    refine fx_s0 (j := 6) aj_d263 rfl (Nat.le_succ _) (by decide) (fun _ => rfl) ?_
                    obtain ⟨lv25, elv25⟩ : ∃ l, l = aj_set1 lv22 6 (.int (Int32.ofInt 0)) := ⟨_, rfl⟩
                    rw [← elv25]
                    have hlv25_0 : aj_lv lv25 0 = some (.ref 117) := fx_e1 elv25 hlv22_0 (by decide) (Or.inl (by decide))
                    have hlv25_1 : aj_lv lv25 1 = some (.int p1) := fx_e1 elv25 hlv22_1 (by decide) (Or.inl (by decide))
                    have hlv25_2 : aj_lv lv25 2 = some (.int x2) := fx_e1 elv25 hlv22_2 (by decide) (Or.inl (by decide))
                    have hlv25_3 : aj_lv lv25 3 = some (.int x12) := fx_e1 elv25 hlv22_3 (by decide) (Or.inl (by decide))
                    have hlv25_4 : aj_lv lv25 4 = some (.int (Int32.ofInt 0)) := fx_e1 elv25 hlv22_4 (by decide) (Or.inl (by decide))
                    have hlv25_5 : aj_lv lv25 5 = some (.int (Int32.ofInt 0)) := fx_e1 elv25 hlv22_5 (by decide) (Or.inr rfl)
                    have hlv25_6 : aj_lv lv25 6 = some (.int (Int32.ofInt 0)) := by rw [elv25]; exact ak_set1_eq _ _ _
                    show fx_W _ _ _ 112 lv25 [] _ _
                    refine fx_i0 aj_d263 rfl (Nat.le_succ _) (fun _ => rfl) hlv25_6 ?_
                    refine fx_b0 (tgt := 123) aj_d263 rfl (Nat.le_succ _) rfl (fun q26 => ?_) (fun q26 => ?_)
                    · skip
                      show fx_W _ _ _ 123 lv25 [] _ _
                      exact ((gxL_263 p1 N).2.1) lv25 (x2) (x12) ((Int32.ofInt 0)) ((Int32.ofInt 0)) ((Int32.ofInt 0)) X15  hlv25_0 hlv25_1 hlv25_2 hlv25_3 hlv25_4 hlv25_5 hlv25_6
                    · exact absurd q26 (by decide)
                  · skip
                    refine fx_qi (c := ((X15.1 117 56)).toInt = 6) (fx_f_ne q24) ?_
                    show fx_W _ _ _ 105 lv22 [] _ _
                    refine fx_n (pc' := 106) (lv' := lv22) (st' := [.int (Int32.ofInt 1)]) aj_d263 rfl (Nat.le_succ _) (fun _ => rfl) ?_
                    refine fx_n (pc' := 110) (lv' := lv22) (st' := [.int (Int32.ofInt 1)]) aj_d263 rfl (Nat.le_succ _) (fun _ => rfl) ?_
                    refine fx_s0 (j := 6) aj_d263 rfl (Nat.le_succ _) (by decide) (fun _ => rfl) ?_
                    obtain ⟨lv27, elv27⟩ : ∃ l, l = aj_set1 lv22 6 (.int (Int32.ofInt 1)) := ⟨_, rfl⟩
                    rw [← elv27]
                    have hlv27_0 : aj_lv lv27 0 = some (.ref 117) := fx_e1 elv27 hlv22_0 (by decide) (Or.inl (by decide))
                    have hlv27_1 : aj_lv lv27 1 = some (.int p1) := fx_e1 elv27 hlv22_1 (by decide) (Or.inl (by decide))
                    have hlv27_2 : aj_lv lv27 2 = some (.int x2) := fx_e1 elv27 hlv22_2 (by decide) (Or.inl (by decide))
                    have hlv27_3 : aj_lv lv27 3 = some (.int x12) := fx_e1 elv27 hlv22_3 (by decide) (Or.inl (by decide))
                    have hlv27_4 : aj_lv lv27 4 = some (.int (Int32.ofInt 0)) := fx_e1 elv27 hlv22_4 (by decide) (Or.inl (by decide))
                    have hlv27_5 : aj_lv lv27 5 = some (.int (Int32.ofInt 0)) := fx_e1 elv27 hlv22_5 (by decide) (Or.inr rfl)
                    have hlv27_6 : aj_lv lv27 6 = some (.int (Int32.ofInt 1)) := by rw [elv27]; exact ak_set1_eq _ _ _
                    show fx_W _ _ _ 112 lv27 [] _ _
                    refine fx_i0 aj_d263 rfl (Nat.le_succ _) (fun _ => rfl) hlv27_6 ?_
                    refine fx_b0 (tgt := 123) aj_d263 rfl (Nat.le_succ _) rfl (fun q28 => ?_) (fun q28 => ?_)
                    · exact absurd q28 (by decide)
                    · skip
                      show fx_W _ _ _ 117 lv27 [] _ _
                      refine fx_i2 aj_d263 rfl (Nat.le_succ _) (fun _ => rfl) hlv27_0 ?_
                      refine fx_n (pc' := 119) (lv' := lv27) (st' := [.int (Int32.ofInt 5), .ref 117]) aj_d263 rfl (Nat.le_succ _) (fun _ => rfl) ?_
                      refine fx_i0 aj_d263 rfl (Nat.le_succ _) (fun _ => rfl) hlv27_2 ?_
                      refine fx_cv aj_d263 rfl (Nat.le_succ _) rfl [_, _] rfl rfl (gx_218_ok (Int32.ofInt 5) x2) ?_
                      rintro _ X29 ⟨w30, rfl, hR29⟩ hok29 hle29
                      refine fx_qc hR29 ?_
                      show fx_W _ _ _ 123 lv27 [] _ _
                      exact ((gxL_263 p1 N).2.1) lv27 (x2) (x12) ((Int32.ofInt 0)) ((Int32.ofInt 0)) ((Int32.ofInt 1)) X29  hlv27_0 hlv27_1 hlv27_2 hlv27_3 hlv27_4 hlv27_5 hlv27_6
              · skip
                refine fx_qi (c := ((X15.1 132 (p1).toInt.toNat)).toInt < 0) (fx_f_ge q21) ?_
                show fx_W _ _ _ 84 lv18 [] _ _
                refine fx_n (pc' := 85) (lv' := lv18) (st' := [.int (Int32.ofInt 1)]) aj_d263 rfl (Nat.le_succ _) (fun _ => rfl) ?_
                refine fx_n (pc' := 89) (lv' := lv18) (st' := [.int (Int32.ofInt 1)]) aj_d263 rfl (Nat.le_succ _) (fun _ => rfl) ?_
                refine fx_s0 (j := 5) aj_d263 rfl (Nat.le_succ _) (by decide) (fun _ => rfl) ?_
                obtain ⟨lv31, elv31⟩ : ∃ l, l = aj_set1 lv18 5 (.int (Int32.ofInt 1)) := ⟨_, rfl⟩
                rw [← elv31]
                have hlv31_0 : aj_lv lv31 0 = some (.ref 117) := fx_e1 elv31 hlv18_0 (by decide) (Or.inl (by decide))
                have hlv31_1 : aj_lv lv31 1 = some (.int p1) := fx_e1 elv31 hlv18_1 (by decide) (Or.inl (by decide))
                have hlv31_2 : aj_lv lv31 2 = some (.int x2) := fx_e1 elv31 hlv18_2 (by decide) (Or.inl (by decide))
                have hlv31_3 : aj_lv lv31 3 = some (.int x12) := fx_e1 elv31 hlv18_3 (by decide) (Or.inl (by decide))
                have hlv31_4 : aj_lv lv31 4 = some (.int (Int32.ofInt 0)) := fx_e1 elv31 hlv18_4 (by decide) (Or.inr rfl)
                have hlv31_5 : aj_lv lv31 5 = some (.int (Int32.ofInt 1)) := by rw [elv31]; exact ak_set1_eq _ _ _
                show fx_W _ _ _ 91 lv31 [] _ _
                refine fx_i0 aj_d263 rfl (Nat.le_succ _) (fun _ => rfl) hlv31_5 ?_
                refine fx_b0 (tgt := 109) aj_d263 rfl (Nat.le_succ _) rfl (fun q32 => ?_) (fun q32 => ?_)
                · skip
                  show fx_W _ _ _ 109 lv31 [] _ _
                  refine fx_n (pc' := 110) (lv' := lv31) (st' := [.int (Int32.ofInt 0)]) aj_d263 rfl (Nat.le_succ _) (fun _ => rfl) ?_
                  refine fx_s0 (j := 6) aj_d263 rfl (Nat.le_succ _) (by decide) (fun _ => rfl) ?_
                  obtain ⟨lv33, elv33⟩ : ∃ l, l = aj_set1 lv31 6 (.int (Int32.ofInt 0)) := ⟨_, rfl⟩
                  rw [← elv33]
                  have hlv33_0 : aj_lv lv33 0 = some (.ref 117) := fx_e1 elv33 hlv31_0 (by decide) (Or.inl (by decide))
                  have hlv33_1 : aj_lv lv33 1 = some (.int p1) := fx_e1 elv33 hlv31_1 (by decide) (Or.inl (by decide))
                  have hlv33_2 : aj_lv lv33 2 = some (.int x2) := fx_e1 elv33 hlv31_2 (by decide) (Or.inl (by decide))
                  have hlv33_3 : aj_lv lv33 3 = some (.int x12) := fx_e1 elv33 hlv31_3 (by decide) (Or.inl (by decide))
                  have hlv33_4 : aj_lv lv33 4 = some (.int (Int32.ofInt 0)) := fx_e1 elv33 hlv31_4 (by decide) (Or.inl (by decide))
                  have hlv33_5 : aj_lv lv33 5 = some (.int (Int32.ofInt 1)) := fx_e1 elv33 hlv31_5 (by decide) (Or.inr rfl)
                  have hlv33_6 : aj_lv lv33 6 = some (.int (Int32.ofInt 0)) := by rw [elv33]; exact ak_set1_eq _ _ _
                  show fx_W _ _ _ 112 lv33 [] _ _
                  refine fx_i0 aj_d263 rfl (Nat.le_succ _) (fun _ => rfl) hlv33_6 ?_
                  refine fx_b0 (tgt := 123) aj_d263 rfl (Nat.le_succ _) rfl (fun q34 => ?_) (fun q34 => ?_)
                  · skip
                    show fx_W _ _ _ 123 lv33 [] _ _
                    exact ((gxL_263 p1 N).2.1) lv33 (x2) (x12) ((Int32.ofInt 0)) ((Int32.ofInt 1)) ((Int32.ofInt 0)) X15  hlv33_0 hlv33_1 hlv33_2 hlv33_3 hlv33_4 hlv33_5 hlv33_6
                  · exact absurd q34 (by decide)
                · exact absurd q32 (by decide)
            · skip
              refine fx_qi (c := (w16).toInt = 0) (fx_f_ne q17) ?_
              show fx_W _ _ _ 70 lv13 [] _ _
              refine fx_n (pc' := 71) (lv' := lv13) (st' := [.int (Int32.ofInt 0)]) aj_d263 rfl (Nat.le_succ _) (fun _ => rfl) ?_
              exact fx_ri aj_d263 rfl ⟨_, rfl, 0, rfl, rfl⟩
          · skip
            refine fx_qi (c := (x12).toInt < 0) (fx_f_ge q14) ?_
            show fx_W _ _ _ 53 lv13 [] _ _
            refine fx_i2 aj_d263 rfl (Nat.le_succ _) (fun _ => rfl) hlv13_0 ?_
            refine fx_n (pc' := 55) (lv' := lv13) (st' := [.int (Int32.ofInt 1), .ref 117]) aj_d263 rfl (Nat.le_succ _) (fun _ => rfl) ?_
            refine fx_i2 aj_d263 rfl (Nat.le_succ _) (fun _ => rfl) hlv13_0 ?_
            refine fx_gI aj_d263 rfl (Nat.le_succ _) rfl rfl (Or.inl rfl) ?_
            refine fx_cv aj_d263 rfl (Nat.le_succ _) rfl [_, _] rfl rfl (gx_215_ok (Int32.ofInt 1) (X7.1 117 27)) ?_
            rintro _ X35 ⟨w36, rfl, hR35⟩ hok35 hle35
            refine fx_qc hR35 ?_
            show fx_W _ _ _ 62 lv13 [.int w36] _ _
            exact fx_ri aj_d263 rfl ⟨_, rfl, 0, rfl, rfl⟩
    · skip
      refine fx_qi (c := (w8).toInt = 0) (fx_f_ne q9) ?_
      show fx_W _ _ _ 21 lv3 [] _ _
      refine fx_n (pc' := 22) (lv' := lv3) (st' := [.int (Int32.ofInt 0)]) aj_d263 rfl (Nat.le_succ _) (fun _ => rfl) ?_
      exact fx_ri aj_d263 rfl ⟨_, rfl, 0, rfl, rfl⟩
def gxT_262_63 (p1 : Int32) (P : Nat → List Int32 → List Int64 → List Nat → fx_X → Int32 → fx_X → Prop) (y2 : Int64) (y4 : Int32) (X : fx_X) (v : Int32) (X' : fx_X) : Prop :=
  ∃ (w24 : Int32) (X23 : fx_X), gx_219 ((Int8.ofInt 61).toInt32) X w24 X23 ∧ (if (w24).toInt = 0 then (v = (Int32.ofInt 0) ∧ X' = X23) else (∃ (w27 : Int32) (X26 : fx_X), gx_216 X23 w27 X26 ∧ (if (w27).toInt = 0 then (v = (Int32.ofInt 0) ∧ X' = X26) else ((if (y4).toInt = 0 then (∃ (w31 : Int32) (X30 : fx_X), gx_256 p1 X26 w31 X30 ∧ (if (w31).toInt < 0 then ((0 ≤ (p1).toInt ∧ (p1).toInt < ((50 : Nat) : Int)) ∧ ∃ X41 : fx_X, X41 = (fx_wI X30 132 (p1).toInt.toNat (Int32.ofInt (-1))) ∧ ∃ (w43 : Int32) (X42 : fx_X), gx_219 ((Int8.ofInt 125).toInt32) X41 w43 X42 ∧ v = w43 ∧ X' = X42) else ((0 ≤ (((p1 * ((Int8.ofInt 8).toInt32)) + w31)).toInt ∧ (((p1 * ((Int8.ofInt 8).toInt32)) + w31)).toInt < ((400 : Nat) : Int)) ∧ ∃ X36 : fx_X, X36 = (fx_wL X30 133 (((p1 * ((Int8.ofInt 8).toInt32)) + w31)).toInt.toNat y2) ∧ ∃ (w38 : Int32) (X37 : fx_X), gx_219 ((Int8.ofInt 125).toInt32) X36 w38 X37 ∧ v = w38 ∧ X' = X37))) else ((0 ≤ (p1).toInt ∧ (p1).toInt < ((50 : Nat) : Int)) ∧ ∃ X48 : fx_X, X48 = (fx_wI X26 132 (p1).toInt.toNat (Int32.ofInt (-1))) ∧ ∃ (w50 : Int32) (X49 : fx_X), gx_219 ((Int8.ofInt 125).toInt32) X48 w50 X49 ∧ v = w50 ∧ X' = X49))))))
def gxE_262 (p1 : Int32) (P : Nat → List Int32 → List Int64 → List Nat → fx_X → Int32 → fx_X → Prop) (X : fx_X) (v : Int32) (X' : fx_X) : Prop :=
  ∃ (w3 : Int32) (X2 : fx_X), gx_214 X w3 X2 ∧ (if (w3).toInt = 0 then (v = (Int32.ofInt 0) ∧ X' = X2) else (∃ (w6 : Int32) (X5 : fx_X), gx_216 X2 w6 X5 ∧ (if (w6).toInt = 0 then (v = (Int32.ofInt 0) ∧ X' = X5) else (∃ x8 : Int64, x8 = (X5.2.1 117 33) ∧ (0 ≤ (p1).toInt ∧ (p1).toInt < ((50 : Nat) : Int)) ∧ (if ((X5.1 132 (p1).toInt.toNat)).toInt < 0 then (P 63 [(Int32.ofInt 1)] [x8] [] X5 v X') else (∃ (w16 : Int32) (X15 : fx_X), gx_233 p1 x8 X5 w16 X15 ∧ (if (w16).toInt < 0 then (P 63 [(Int32.ofInt 0)] [x8] [] X15 v X') else (∃ (w19 : Unit) (X18 : fx_X), gx_218 (Int32.ofInt 3) (X15.1 117 34) X15 w19 X18 ∧ P 63 [(Int32.ofInt 1)] [x8] [] X18 v X'))))))))
noncomputable def gxF_262 (p1 : Int32) (n : Nat) : Nat → List Int32 → List Int64 → List Nat → fx_X → Int32 → fx_X → Prop := Nat.rec (motive := fun _ => Nat → List Int32 → List Int64 → List Nat → fx_X → Int32 → fx_X → Prop) (fun _ _ _ _ _ _ _ => False) (fun _ P l is ls rs X v X' => (l = 63 ∧ ∃ (y2 : Int64) (y4 : Int32), is = [y4] ∧ ls = [y2] ∧ rs = [] ∧ gxT_262_63 p1 P y2 y4 X v X')) n
theorem gxI_262_63 {p1 : Int32} {n : Nat} {y2 : Int64} {y4 : Int32} {X : fx_X} {v : Int32} {X' : fx_X} (h : gxT_262_63 p1 (gxF_262 p1 n) y2 y4 X v X') : gxF_262 p1 (n + 1) 63 [y4] [y2] [] X v X' := ⟨rfl, y2, y4, rfl, rfl, rfl, h⟩
theorem gxO_262_63 {p1 : Int32} {n : Nat} {y2 : Int64} {y4 : Int32} {X : fx_X} {v : Int32} {X' : fx_X} (h : gxF_262 p1 (n + 1) 63 [y4] [y2] [] X v X') : gxT_262_63 p1 (gxF_262 p1 n) y2 y4 X v X' := by
  rcases h with ⟨-, _, _, e1, e2, e3, h⟩
  · cases e1; cases e2; cases e3; exact h
def gx_262 (p1 : Int32) (X : fx_X) (v : Int32) (X' : fx_X) : Prop := ∃ n : Nat, gxE_262 p1 (gxF_262 p1 n) X v X'
theorem gxL_262 {tb : aj_T} (p1 : Int32) : ∀ N : Nat, (∀ (lv : aj_V) (y2 : Int64) (y4 : Int32) (X : fx_X), aj_lv lv 0 = some (.ref 117) → aj_lv lv 1 = some (.int p1) → aj_lv lv 2 = some (.long y2) → aj_lv lv 4 = some (.int y4) → fx_W tb aj_m262 N 63 lv [] X (fx_Q fx_qI (fun v X' => ∃ n : Nat, gxF_262 p1 n 63 [y4] [y2] [] X v X'))) := by
  intro N
  induction N with
  | zero => exact (by intros; exact fx_z)
  | succ N ih =>
    skip
    · intro lv y2 y4 X hlv_0 hlv_1 hlv_2 hlv_4
      refine fx_mono (Q := fx_Q fx_qI (fun v X' => ∃ n : Nat, gxT_262_63 p1 (gxF_262 p1 n) y2 y4 X v X')) (fun r X' ⟨v, e, n, z⟩ => ⟨v, e, n + 1, gxI_262_63 z⟩) ?_
      unfold gxT_262_63
      refine fx_i2 aj_d262 rfl (Nat.le_refl _) (fun _ => rfl) hlv_0 ?_
      refine fx_n (pc' := 66) (lv' := lv) (st' := [.int ((Int8.ofInt 61).toInt32), .ref 117]) aj_d262 rfl (Nat.le_succ _) (fun _ => rfl) ?_
      refine fx_cv aj_d262 rfl (Nat.le_succ _) rfl [_] rfl rfl (gx_219_ok ((Int8.ofInt 61).toInt32)) ?_
      rintro _ X23 ⟨w24, rfl, hR23⟩ hok23 hle23
      refine fx_qc hR23 ?_
      show fx_W _ _ _ 69 lv [.int w24] _ _
      refine fx_b0 (tgt := 79) aj_d262 rfl (Nat.le_succ _) rfl (fun q25 => ?_) (fun q25 => ?_)
      · skip
        refine fx_qi (c := (w24).toInt = 0) (fx_t_eq q25) ?_
        show fx_W _ _ _ 79 lv [] _ _
        refine fx_n (pc' := 80) (lv' := lv) (st' := [.int (Int32.ofInt 0)]) aj_d262 rfl (Nat.le_succ _) (fun _ => rfl) ?_
        exact fx_ri aj_d262 rfl ⟨_, rfl, 0, rfl, rfl⟩
      · skip
        refine fx_qe (c := (w24).toInt = 0) (fx_f_eq q25) ?_
        show fx_W _ _ _ 72 lv [] _ _
        refine fx_i2 aj_d262 rfl (Nat.le_succ _) (fun _ => rfl) hlv_0 ?_
        refine fx_cv aj_d262 rfl (Nat.le_succ _) rfl [] rfl rfl (gx_216_ok) ?_
        rintro _ X26 ⟨w27, rfl, hR26⟩ hok26 hle26
        refine fx_qc hR26 ?_
        show fx_W _ _ _ 76 lv [.int w27] _ _
        refine fx_b0 (tgt := 81) aj_d262 rfl (Nat.le_succ _) rfl (fun q28 => ?_) (fun q28 => ?_)
        · skip
          refine fx_qe (c := (w27).toInt = 0) (fx_t_ne q28) ?_
          show fx_W _ _ _ 81 lv [] _ _
          refine fx_i0 aj_d262 rfl (Nat.le_succ _) (fun _ => rfl) hlv_4 ?_
          refine fx_b0 (tgt := 90) aj_d262 rfl (Nat.le_succ _) rfl (fun q29 => ?_) (fun q29 => ?_)
          · skip
            refine fx_qi (c := (y4).toInt = 0) (fx_t_eq q29) ?_
            show fx_W _ _ _ 90 lv [] _ _
            refine fx_i2 aj_d262 rfl (Nat.le_succ _) (fun _ => rfl) hlv_0 ?_
            refine fx_i0 aj_d262 rfl (Nat.le_succ _) (fun _ => rfl) hlv_1 ?_
            refine fx_cv aj_d262 rfl (Nat.le_succ _) rfl [_] rfl rfl (gx_256_ok p1) ?_
            rintro _ X30 ⟨w31, rfl, hR30⟩ hok30 hle30
            refine fx_qc hR30 ?_
            show fx_W _ _ _ 95 lv [.int w31] _ _
            refine fx_s0 (j := 5) aj_d262 rfl (Nat.le_succ _) (by decide) (fun _ => rfl) ?_
            obtain ⟨lv32, elv32⟩ : ∃ l, l = aj_set1 lv 5 (.int w31) := ⟨_, rfl⟩
            rw [← elv32]
            have hlv32_0 : aj_lv lv32 0 = some (.ref 117) := fx_e1 elv32 hlv_0 (by decide) (Or.inl (by decide))
            have hlv32_1 : aj_lv lv32 1 = some (.int p1) := fx_e1 elv32 hlv_1 (by decide) (Or.inl (by decide))
            have hlv32_2 : aj_lv lv32 2 = some (.long y2) := fx_e1 elv32 hlv_2 (by decide) (Or.inl (by decide))
            have hlv32_5 : aj_lv lv32 5 = some (.int w31) := by rw [elv32]; exact ak_set1_eq _ _ _
            show fx_W _ _ _ 97 lv32 [] _ _
            refine fx_i0 aj_d262 rfl (Nat.le_succ _) (fun _ => rfl) hlv32_5 ?_
            refine fx_b0 (tgt := 112) aj_d262 rfl (Nat.le_succ _) rfl (fun q33 => ?_) (fun q33 => ?_)
            · skip
              refine fx_qe (c := (w31).toInt < 0) (fx_t_ge q33) ?_
              show fx_W _ _ _ 112 lv32 [] _ _
              refine fx_i2 aj_d262 rfl (Nat.le_succ _) (fun _ => rfl) hlv32_0 ?_
              refine fx_gF aj_d262 rfl (Nat.le_succ _) rfl rfl fx_in_11_17 (t := 133) rfl (fun hA34 => ?_)
              refine fx_i0 aj_d262 rfl (Nat.le_succ _) (fun _ => rfl) hlv32_1 ?_
              refine fx_n (pc' := 119) (lv' := lv32) (st' := [.int ((Int8.ofInt 8).toInt32), .int p1, .ref 133]) aj_d262 rfl (Nat.le_succ _) (fun _ => rfl) ?_
              refine fx_n (pc' := 120) (lv' := lv32) (st' := [.int (p1 * ((Int8.ofInt 8).toInt32)), .ref 133]) aj_d262 rfl (Nat.le_succ _) (fun _ => rfl) ?_
              refine fx_i0 aj_d262 rfl (Nat.le_succ _) (fun _ => rfl) hlv32_5 ?_
              refine fx_n (pc' := 123) (lv' := lv32) (st' := [.int ((p1 * ((Int8.ofInt 8).toInt32)) + w31), .ref 133]) aj_d262 rfl (Nat.le_succ _) (fun _ => rfl) ?_
              refine fx_i1 aj_d262 rfl (Nat.le_succ _) (fun _ => rfl) hlv32_2 ?_
              refine fx_sL aj_d262 rfl (Nat.le_succ _) (fun g350 g351 => ?_)
              refine fx_qa (c := 0 ≤ (((p1 * ((Int8.ofInt 8).toInt32)) + w31)).toInt ∧ (((p1 * ((Int8.ofInt 8).toInt32)) + w31)).toInt < ((400 : Nat) : Int)) ⟨g350, fx_lnk g351 hA34⟩ ?_
              refine fx_qX (fun X36 eX36 => ?_)
              show fx_W _ _ _ 125 lv32 [] _ _
              refine fx_i2 aj_d262 rfl (Nat.le_succ _) (fun _ => rfl) hlv32_0 ?_
              refine fx_n (pc' := 128) (lv' := lv32) (st' := [.int ((Int8.ofInt 125).toInt32), .ref 117]) aj_d262 rfl (Nat.le_succ _) (fun _ => rfl) ?_
              refine fx_cv aj_d262 rfl (Nat.le_succ _) rfl [_] rfl rfl (gx_219_ok ((Int8.ofInt 125).toInt32)) ?_
              rintro _ X37 ⟨w38, rfl, hR37⟩ hok37 hle37
              refine fx_qc hR37 ?_
              show fx_W _ _ _ 131 lv32 [.int w38] _ _
              exact fx_ri aj_d262 rfl ⟨_, rfl, 0, rfl, rfl⟩
            · skip
              refine fx_qi (c := (w31).toInt < 0) (fx_f_ge q33) ?_
              show fx_W _ _ _ 102 lv32 [] _ _
              refine fx_i2 aj_d262 rfl (Nat.le_succ _) (fun _ => rfl) hlv32_0 ?_
              refine fx_gF aj_d262 rfl (Nat.le_succ _) rfl rfl fx_in_11_16 (t := 132) rfl (fun hA39 => ?_)
              refine fx_i0 aj_d262 rfl (Nat.le_succ _) (fun _ => rfl) hlv32_1 ?_
              refine fx_n (pc' := 108) (lv' := lv32) (st' := [.int (Int32.ofInt (-1)), .int p1, .ref 132]) aj_d262 rfl (Nat.le_succ _) (fun _ => rfl) ?_
              refine fx_st aj_d262 (Or.inl ⟨rfl, rfl⟩) rfl (Nat.le_succ _) (fun g400 g401 => ?_)
              show fx_W _ _ _ _ _ _ (fx_wI X30 132 (p1).toInt.toNat (Int32.ofInt (-1))) _
              refine fx_qa (c := 0 ≤ (p1).toInt ∧ (p1).toInt < ((50 : Nat) : Int)) ⟨g400, fx_lnk g401 hA39⟩ ?_
              refine fx_qX (fun X41 eX41 => ?_)
              show fx_W _ _ _ 109 lv32 [] _ _
              refine fx_n (pc' := 125) (lv' := lv32) (st' := []) aj_d262 rfl (Nat.le_succ _) (fun _ => rfl) ?_
              refine fx_i2 aj_d262 rfl (Nat.le_succ _) (fun _ => rfl) hlv32_0 ?_
              refine fx_n (pc' := 128) (lv' := lv32) (st' := [.int ((Int8.ofInt 125).toInt32), .ref 117]) aj_d262 rfl (Nat.le_succ _) (fun _ => rfl) ?_
              refine fx_cv aj_d262 rfl (Nat.le_succ _) rfl [_] rfl rfl (gx_219_ok ((Int8.ofInt 125).toInt32)) ?_
              rintro _ X42 ⟨w43, rfl, hR42⟩ hok42 hle42
              refine fx_qc hR42 ?_
              show fx_W _ _ _ 131 lv32 [.int w43] _ _
              exact fx_ri aj_d262 rfl ⟨_, rfl, 0, rfl, rfl⟩
          · skip
            refine fx_qe (c := (y4).toInt = 0) (fx_f_eq q29) ?_
            show fx_W _ _ _ 86 lv [] _ _
            refine fx_n (pc' := 87) (lv' := lv) (st' := [.int (Int32.ofInt (-1))]) aj_d262 rfl (Nat.le_succ _) (fun _ => rfl) ?_
            refine fx_n (pc' := 95) (lv' := lv) (st' := [.int (Int32.ofInt (-1))]) aj_d262 rfl (Nat.le_succ _) (fun _ => rfl) ?_
            refine fx_s0 (j := 5) aj_d262 rfl (Nat.le_succ _) (by decide) (fun _ => rfl) ?_
            obtain ⟨lv44, elv44⟩ : ∃ l, l = aj_set1 lv 5 (.int (Int32.ofInt (-1))) := ⟨_, rfl⟩
            rw [← elv44]
            have hlv44_0 : aj_lv lv44 0 = some (.ref 117) := fx_e1 elv44 hlv_0 (by decide) (Or.inl (by decide))
            have hlv44_1 : aj_lv lv44 1 = some (.int p1) := fx_e1 elv44 hlv_1 (by decide) (Or.inl (by decide))
            have hlv44_2 : aj_lv lv44 2 = some (.long y2) := fx_e1 elv44 hlv_2 (by decide) (Or.inl (by decide))
            have hlv44_5 : aj_lv lv44 5 = some (.int (Int32.ofInt (-1))) := by rw [elv44]; exact ak_set1_eq _ _ _
            show fx_W _ _ _ 97 lv44 [] _ _
            refine fx_i0 aj_d262 rfl (Nat.le_succ _) (fun _ => rfl) hlv44_5 ?_
            refine fx_b0 (tgt := 112) aj_d262 rfl (Nat.le_succ _) rfl (fun q45 => ?_) (fun q45 => ?_)
            · exact absurd q45 (by decide)
            · skip
              show fx_W _ _ _ 102 lv44 [] _ _
              refine fx_i2 aj_d262 rfl (Nat.le_succ _) (fun _ => rfl) hlv44_0 ?_
              refine fx_gF aj_d262 rfl (Nat.le_succ _) rfl rfl fx_in_11_16 (t := 132) rfl (fun hA46 => ?_)
              refine fx_i0 aj_d262 rfl (Nat.le_succ _) (fun _ => rfl) hlv44_1 ?_
              refine fx_n (pc' := 108) (lv' := lv44) (st' := [.int (Int32.ofInt (-1)), .int p1, .ref 132]) aj_d262 rfl (Nat.le_succ _) (fun _ => rfl) ?_
              refine fx_st aj_d262 (Or.inl ⟨rfl, rfl⟩) rfl (Nat.le_succ _) (fun g470 g471 => ?_)
              show fx_W _ _ _ _ _ _ (fx_wI X26 132 (p1).toInt.toNat (Int32.ofInt (-1))) _
              refine fx_qa (c := 0 ≤ (p1).toInt ∧ (p1).toInt < ((50 : Nat) : Int)) ⟨g470, fx_lnk g471 hA46⟩ ?_
              refine fx_qX (fun X48 eX48 => ?_)
              show fx_W _ _ _ 109 lv44 [] _ _
              refine fx_n (pc' := 125) (lv' := lv44) (st' := []) aj_d262 rfl (Nat.le_succ _) (fun _ => rfl) ?_
              refine fx_i2 aj_d262 rfl (Nat.le_succ _) (fun _ => rfl) hlv44_0 ?_
              refine fx_n (pc' := 128) (lv' := lv44) (st' := [.int ((Int8.ofInt 125).toInt32), .ref 117]) aj_d262 rfl (Nat.le_succ _) (fun _ => rfl) ?_
              refine fx_cv aj_d262 rfl (Nat.le_succ _) rfl [_] rfl rfl (gx_219_ok ((Int8.ofInt 125).toInt32)) ?_
              rintro _ X49 ⟨w50, rfl, hR49⟩ hok49 hle49
              refine fx_qc hR49 ?_
              show fx_W _ _ _ 131 lv44 [.int w50] _ _
              exact fx_ri aj_d262 rfl ⟨_, rfl, 0, rfl, rfl⟩
        · skip
          refine fx_qi (c := (w27).toInt = 0) (fx_f_ne q28) ?_
          show fx_W _ _ _ 79 lv [] _ _
          refine fx_n (pc' := 80) (lv' := lv) (st' := [.int (Int32.ofInt 0)]) aj_d262 rfl (Nat.le_succ _) (fun _ => rfl) ?_
          exact fx_ri aj_d262 rfl ⟨_, rfl, 0, rfl, rfl⟩
theorem gx_262_ok {tb : aj_T} (p1 : Int32) {X : fx_X} : fx_K tb 262 [.ref 117, .int p1] X (fx_Q fx_qI (fun v X' => gx_262 p1 X v X')) := by
  refine fx_m aj_m262_at rfl (fun N => ?_)
  refine fx_mono (Q := fx_Q fx_qI (fun v X' => ∃ n : Nat, gxE_262 p1 (gxF_262 p1 n) X v X')) (fun r X' h => h) ?_
  unfold gxE_262
  show fx_W _ _ _ 0 [(0, .ref 117), (1, .int p1)] [] _ _
  obtain ⟨lv1, elv1⟩ : ∃ l : aj_V, l = [(0, .ref 117), (1, .int p1)] := ⟨_, rfl⟩
  rw [← elv1]
  have hlv1_0 : aj_lv lv1 0 = some (.ref 117) := by rw [elv1]; rfl
  have hlv1_1 : aj_lv lv1 1 = some (.int p1) := by rw [elv1]; rfl
  refine fx_i2 aj_d262 rfl (Nat.le_succ _) (fun _ => rfl) hlv1_0 ?_
  refine fx_cv aj_d262 rfl (Nat.le_succ _) rfl [] rfl rfl (gx_214_ok) ?_
  rintro _ X2 ⟨w3, rfl, hR2⟩ hok2 hle2
  refine fx_qc hR2 ?_
  show fx_W _ _ _ 4 lv1 [.int w3] _ _
  refine fx_b0 (tgt := 14) aj_d262 rfl (Nat.le_succ _) rfl (fun q4 => ?_) (fun q4 => ?_)
  · skip
    refine fx_qi (c := (w3).toInt = 0) (fx_t_eq q4) ?_
    show fx_W _ _ _ 14 lv1 [] _ _
    refine fx_n (pc' := 15) (lv' := lv1) (st' := [.int (Int32.ofInt 0)]) aj_d262 rfl (Nat.le_succ _) (fun _ => rfl) ?_
    exact fx_ri aj_d262 rfl ⟨_, rfl, 0, rfl, rfl⟩
  · skip
    refine fx_qe (c := (w3).toInt = 0) (fx_f_eq q4) ?_
    show fx_W _ _ _ 7 lv1 [] _ _
    refine fx_i2 aj_d262 rfl (Nat.le_succ _) (fun _ => rfl) hlv1_0 ?_
    refine fx_cv aj_d262 rfl (Nat.le_succ _) rfl [] rfl rfl (gx_216_ok) ?_
    rintro _ X5 ⟨w6, rfl, hR5⟩ hok5 hle5
    refine fx_qc hR5 ?_
    show fx_W _ _ _ 11 lv1 [.int w6] _ _
    refine fx_b0 (tgt := 16) aj_d262 rfl (Nat.le_succ _) rfl (fun q7 => ?_) (fun q7 => ?_)
    · skip
      refine fx_qe (c := (w6).toInt = 0) (fx_t_ne q7) ?_
      show fx_W _ _ _ 16 lv1 [] _ _
      refine fx_i2 aj_d262 rfl (Nat.le_succ _) (fun _ => rfl) hlv1_0 ?_
      refine fx_gL aj_d262 rfl (Nat.le_succ _) rfl rfl rfl ?_
      refine fx_qxL (fun x8 ex8 => ?_)
      refine fx_s1 (j := 2) aj_d262 rfl (Nat.le_succ _) (by decide) (fun _ => rfl) ?_
      obtain ⟨lv9, elv9⟩ : ∃ l, l = aj_set2 lv1 2 (.long x8) := ⟨_, rfl⟩
      rw [← elv9]
      have hlv9_0 : aj_lv lv9 0 = some (.ref 117) := fx_e2 elv9 hlv1_0 (by decide) (by decide) (Or.inl (by decide))
      have hlv9_1 : aj_lv lv9 1 = some (.int p1) := fx_e2 elv9 hlv1_1 (by decide) (by decide) (Or.inr rfl)
      have hlv9_2 : aj_lv lv9 2 = some (.long x8) := by rw [elv9]; exact ak_set2_eq _ _ _
      show fx_W _ _ _ 21 lv9 [] _ _
      refine fx_i2 aj_d262 rfl (Nat.le_succ _) (fun _ => rfl) hlv9_0 ?_
      refine fx_gF aj_d262 rfl (Nat.le_succ _) rfl rfl fx_in_11_16 (t := 132) rfl (fun hA10 => ?_)
      refine fx_i0 aj_d262 rfl (Nat.le_succ _) (fun _ => rfl) hlv9_1 ?_
      refine fx_ld aj_d262 (Or.inl rfl) rfl (Nat.le_succ _) (fun g110 g111 => ?_)
      show fx_W _ _ _ 27 lv9 [.int (X5.1 132 (p1).toInt.toNat)] _ _
      refine fx_qa (c := 0 ≤ (p1).toInt ∧ (p1).toInt < ((50 : Nat) : Int)) ⟨g110, fx_lnk g111 hA10⟩ ?_
      refine fx_b0 (tgt := 34) aj_d262 rfl (Nat.le_succ _) rfl (fun q12 => ?_) (fun q12 => ?_)
      · skip
        refine fx_qe (c := ((X5.1 132 (p1).toInt.toNat)).toInt < 0) (fx_t_ge q12) ?_
        show fx_W _ _ _ 34 lv9 [] _ _
        refine fx_n (pc' := 35) (lv' := lv9) (st' := [.int (Int32.ofInt 0)]) aj_d262 rfl (Nat.le_succ _) (fun _ => rfl) ?_
        refine fx_s0 (j := 4) aj_d262 rfl (Nat.le_succ _) (by decide) (fun _ => rfl) ?_
        obtain ⟨lv13, elv13⟩ : ∃ l, l = aj_set1 lv9 4 (.int (Int32.ofInt 0)) := ⟨_, rfl⟩
        rw [← elv13]
        have hlv13_0 : aj_lv lv13 0 = some (.ref 117) := fx_e1 elv13 hlv9_0 (by decide) (Or.inl (by decide))
        have hlv13_1 : aj_lv lv13 1 = some (.int p1) := fx_e1 elv13 hlv9_1 (by decide) (Or.inl (by decide))
        have hlv13_2 : aj_lv lv13 2 = some (.long x8) := fx_e1 elv13 hlv9_2 (by decide) (Or.inl (by decide))
        have hlv13_4 : aj_lv lv13 4 = some (.int (Int32.ofInt 0)) := by rw [elv13]; exact ak_set1_eq _ _ _
        show fx_W _ _ _ 37 lv13 [] _ _
        refine fx_i0 aj_d262 rfl (Nat.le_succ _) (fun _ => rfl) hlv13_4 ?_
        refine fx_b0 (tgt := 63) aj_d262 rfl (Nat.le_succ _) rfl (fun q14 => ?_) (fun q14 => ?_)
        · exact absurd q14 (by decide)
        · skip
          show fx_W _ _ _ 42 lv13 [] _ _
          refine fx_i2 aj_d262 rfl (Nat.le_succ _) (fun _ => rfl) hlv13_0 ?_
          refine fx_i0 aj_d262 rfl (Nat.le_succ _) (fun _ => rfl) hlv13_1 ?_
          refine fx_i1 aj_d262 rfl (Nat.le_succ _) (fun _ => rfl) hlv13_2 ?_
          refine fx_cv aj_d262 rfl (Nat.le_succ _) rfl [_, _] rfl rfl (gx_233_ok p1 x8) ?_
          rintro _ X15 ⟨w16, rfl, hR15⟩ hok15 hle15
          refine fx_qc hR15 ?_
          show fx_W _ _ _ 48 lv13 [.int w16] _ _
          refine fx_b0 (tgt := 63) aj_d262 rfl (Nat.le_succ _) rfl (fun q17 => ?_) (fun q17 => ?_)
          · skip
            refine fx_qi (c := (w16).toInt < 0) (fx_t_lt q17) ?_
            show fx_W _ _ _ 63 lv13 [] _ _
            exact ((gxL_262 p1 N)) lv13 (x8) ((Int32.ofInt 0)) X15  hlv13_0 hlv13_1 hlv13_2 hlv13_4
          · skip
            refine fx_qe (c := (w16).toInt < 0) (fx_f_lt q17) ?_
            show fx_W _ _ _ 51 lv13 [] _ _
            refine fx_i2 aj_d262 rfl (Nat.le_succ _) (fun _ => rfl) hlv13_0 ?_
            refine fx_n (pc' := 53) (lv' := lv13) (st' := [.int (Int32.ofInt 3), .ref 117]) aj_d262 rfl (Nat.le_succ _) (fun _ => rfl) ?_
            refine fx_i2 aj_d262 rfl (Nat.le_succ _) (fun _ => rfl) hlv13_0 ?_
            refine fx_gI aj_d262 rfl (Nat.le_succ _) rfl rfl (Or.inl rfl) ?_
            refine fx_cv aj_d262 rfl (Nat.le_succ _) rfl [_, _] rfl rfl (gx_218_ok (Int32.ofInt 3) (X15.1 117 34)) ?_
            rintro _ X18 ⟨w19, rfl, hR18⟩ hok18 hle18
            refine fx_qc hR18 ?_
            show fx_W _ _ _ 60 lv13 [] _ _
            refine fx_n (pc' := 61) (lv' := lv13) (st' := [.int (Int32.ofInt 1)]) aj_d262 rfl (Nat.le_succ _) (fun _ => rfl) ?_
            refine fx_s0 (j := 4) aj_d262 rfl (Nat.le_succ _) (by decide) (fun _ => rfl) ?_
            obtain ⟨lv20, elv20⟩ : ∃ l, l = aj_set1 lv13 4 (.int (Int32.ofInt 1)) := ⟨_, rfl⟩
            rw [← elv20]
            have hlv20_0 : aj_lv lv20 0 = some (.ref 117) := fx_e1 elv20 hlv13_0 (by decide) (Or.inl (by decide))
            have hlv20_1 : aj_lv lv20 1 = some (.int p1) := fx_e1 elv20 hlv13_1 (by decide) (Or.inl (by decide))
            have hlv20_2 : aj_lv lv20 2 = some (.long x8) := fx_e1 elv20 hlv13_2 (by decide) (Or.inl (by decide))
            have hlv20_4 : aj_lv lv20 4 = some (.int (Int32.ofInt 1)) := by rw [elv20]; exact ak_set1_eq _ _ _
            show fx_W _ _ _ 63 lv20 [] _ _
            exact ((gxL_262 p1 N)) lv20 (x8) ((Int32.ofInt 1)) X18  hlv20_0 hlv20_1 hlv20_2 hlv20_4
      · skip
        refine fx_qi (c := ((X5.1 132 (p1).toInt.toNat)).toInt < 0) (fx_f_ge q12) ?_
        show fx_W _ _ _ 30 lv9 [] _ _
        refine fx_n (pc' := 31) (lv' := lv9) (st' := [.int (Int32.ofInt 1)]) aj_d262 rfl (Nat.le_succ _) (fun _ => rfl) ?_
        refine fx_n (pc' := 35) (lv' := lv9) (st' := [.int (Int32.ofInt 1)]) aj_d262 rfl (Nat.le_succ _) (fun _ => rfl) ?_
        refine fx_s0 (j := 4) aj_d262 rfl (Nat.le_succ _) (by decide) (fun _ => rfl) ?_
        obtain ⟨lv21, elv21⟩ : ∃ l, l = aj_set1 lv9 4 (.int (Int32.ofInt 1)) := ⟨_, rfl⟩
        rw [← elv21]
        have hlv21_0 : aj_lv lv21 0 = some (.ref 117) := fx_e1 elv21 hlv9_0 (by decide) (Or.inl (by decide))
        have hlv21_1 : aj_lv lv21 1 = some (.int p1) := fx_e1 elv21 hlv9_1 (by decide) (Or.inl (by decide))
        have hlv21_2 : aj_lv lv21 2 = some (.long x8) := fx_e1 elv21 hlv9_2 (by decide) (Or.inl (by decide))
        have hlv21_4 : aj_lv lv21 4 = some (.int (Int32.ofInt 1)) := by rw [elv21]; exact ak_set1_eq _ _ _
        show fx_W _ _ _ 37 lv21 [] _ _
        refine fx_i0 aj_d262 rfl (Nat.le_succ _) (fun _ => rfl) hlv21_4 ?_
        refine fx_b0 (tgt := 63) aj_d262 rfl (Nat.le_succ _) rfl (fun q22 => ?_) (fun q22 => ?_)
        · skip
          show fx_W _ _ _ 63 lv21 [] _ _
          exact ((gxL_262 p1 N)) lv21 (x8) ((Int32.ofInt 1)) X5  hlv21_0 hlv21_1 hlv21_2 hlv21_4
        · exact absurd q22 (by decide)
    · skip
      refine fx_qi (c := (w6).toInt = 0) (fx_f_ne q7) ?_
      show fx_W _ _ _ 14 lv1 [] _ _
      refine fx_n (pc' := 15) (lv' := lv1) (st' := [.int (Int32.ofInt 0)]) aj_d262 rfl (Nat.le_succ _) (fun _ => rfl) ?_
      exact fx_ri aj_d262 rfl ⟨_, rfl, 0, rfl, rfl⟩
def gxT_260_36 (p1 : Int32) (P : Nat → List Int32 → List Int64 → List Nat → fx_X → Int32 → fx_X → Prop) (y2 : Int32) (X : fx_X) (v : Int32) (X' : fx_X) : Prop :=
  (if (y2).toInt < ((X.1 117 56)).toInt then ((0 ≤ (y2).toInt ∧ (y2).toInt < ((16 : Nat) : Int)) ∧ (0 ≤ ((((Int16.ofInt 392).toInt32) + (X.1 142 (y2).toInt.toNat))).toInt ∧ ((((Int16.ofInt 392).toInt32) + (X.1 142 (y2).toInt.toNat))).toInt < ((400 : Nat) : Int)) ∧ (0 ≤ (((p1 * ((Int8.ofInt 8).toInt32)) + y2)).toInt ∧ (((p1 * ((Int8.ofInt 8).toInt32)) + y2)).toInt < ((400 : Nat) : Int)) ∧ ∃ X24 : fx_X, X24 = (fx_wL X 133 (((p1 * ((Int8.ofInt 8).toInt32)) + y2)).toInt.toNat (X.2.1 133 ((((Int16.ofInt 392).toInt32) + (X.1 142 (y2).toInt.toNat))).toInt.toNat)) ∧ P 72 [y2, (Int32.ofInt 0)] [] [] X24 v X') else ((0 ≤ (p1).toInt ∧ (p1).toInt < ((50 : Nat) : Int)) ∧ ∃ X17 : fx_X, X17 = (fx_wI X 132 (p1).toInt.toNat (X.1 117 56)) ∧ v = (Int32.ofInt 1) ∧ X' = X17))
def gxT_260_72 (p1 : Int32) (P : Nat → List Int32 → List Int64 → List Nat → fx_X → Int32 → fx_X → Prop) (y2 : Int32) (y3 : Int32) (X : fx_X) (v : Int32) (X' : fx_X) : Prop :=
  (if ((X.1 117 32)).toInt = 0 then (∃ x27 : Int32, x27 = y2 + Int32.ofInt 1 ∧ P 36 [x27] [] [] X v X') else ((0 ≤ (p1).toInt ∧ (p1).toInt < ((50 : Nat) : Int)) ∧ (if (y3).toInt < ((X.1 131 (p1).toInt.toNat)).toInt then (∃ (w36 : Int32) (X35 : fx_X), gx_236 p1 y3 y2 X w36 X35 ∧ (0 ≤ (y2).toInt ∧ (y2).toInt < ((16 : Nat) : Int)) ∧ ∃ (w41 : Int32) (X40 : fx_X), gx_236 ((Int8.ofInt 49).toInt32) y3 (X35.1 142 (y2).toInt.toNat) X35 w41 X40 ∧ (0 ≤ (w41).toInt ∧ (w41).toInt < ((12000 : Nat) : Int)) ∧ (0 ≤ (w36).toInt ∧ (w36).toInt < ((12000 : Nat) : Int)) ∧ ∃ X44 : fx_X, X44 = (fx_wI X40 134 (w36).toInt.toNat (aj_nar 4 (X40.1 134 (w41).toInt.toNat))) ∧ ∃ (w47 : Int32) (X46 : fx_X), gx_236 p1 y3 y2 X44 w47 X46 ∧ (0 ≤ (y2).toInt ∧ (y2).toInt < ((16 : Nat) : Int)) ∧ ∃ (w52 : Int32) (X51 : fx_X), gx_236 ((Int8.ofInt 49).toInt32) y3 (X46.1 142 (y2).toInt.toNat) X46 w52 X51 ∧ (0 ≤ (w52).toInt ∧ (w52).toInt < ((12000 : Nat) : Int)) ∧ (0 ≤ (w47).toInt ∧ (w47).toInt < ((12000 : Nat) : Int)) ∧ ∃ X55 : fx_X, X55 = (fx_wI X51 135 (w47).toInt.toNat (X51.1 135 (w52).toInt.toNat)) ∧ ∃ x56 : Int32, x56 = y3 + Int32.ofInt 1 ∧ P 72 [y2, x56] [] [] X55 v X') else (∃ x32 : Int32, x32 = y2 + Int32.ofInt 1 ∧ P 36 [x32] [] [] X v X'))))
def gxE_260 (p1 : Int32) (P : Nat → List Int32 → List Int64 → List Nat → fx_X → Int32 → fx_X → Prop) (X : fx_X) (v : Int32) (X' : fx_X) : Prop :=
  ∃ (w3 : Int32) (X2 : fx_X), gx_214 X w3 X2 ∧ (if (w3).toInt = 0 then (v = (Int32.ofInt 0) ∧ X' = X2) else (∃ (w6 : Int32) (X5 : fx_X), gx_261 p1 (Int32.ofInt 0) X2 w6 X5 ∧ (if (w6).toInt = 0 then (v = (Int32.ofInt 0) ∧ X' = X5) else ((0 ≤ (p1).toInt ∧ (p1).toInt < ((50 : Nat) : Int)) ∧ (if ((X5.1 132 (p1).toInt.toNat)).toInt < 0 then (v = (Int32.ofInt 1) ∧ X' = X5) else (∃ (w12 : Unit) (X11 : fx_X), gx_251 p1 ((Int8.ofInt 49).toInt32) X5 w12 X11 ∧ P 36 [(Int32.ofInt 0)] [] [] X11 v X'))))))
noncomputable def gxF_260 (p1 : Int32) (n : Nat) : Nat → List Int32 → List Int64 → List Nat → fx_X → Int32 → fx_X → Prop := Nat.rec (motive := fun _ => Nat → List Int32 → List Int64 → List Nat → fx_X → Int32 → fx_X → Prop) (fun _ _ _ _ _ _ _ => False) (fun _ P l is ls rs X v X' => (l = 36 ∧ ∃ (y2 : Int32), is = [y2] ∧ ls = [] ∧ rs = [] ∧ gxT_260_36 p1 P y2 X v X') ∨ (l = 72 ∧ ∃ (y2 : Int32) (y3 : Int32), is = [y2, y3] ∧ ls = [] ∧ rs = [] ∧ gxT_260_72 p1 P y2 y3 X v X')) n
theorem gxI_260_36 {p1 : Int32} {n : Nat} {y2 : Int32} {X : fx_X} {v : Int32} {X' : fx_X} (h : gxT_260_36 p1 (gxF_260 p1 n) y2 X v X') : gxF_260 p1 (n + 1) 36 [y2] [] [] X v X' := Or.inl ⟨rfl, y2, rfl, rfl, rfl, h⟩
theorem gxO_260_36 {p1 : Int32} {n : Nat} {y2 : Int32} {X : fx_X} {v : Int32} {X' : fx_X} (h : gxF_260 p1 (n + 1) 36 [y2] [] [] X v X') : gxT_260_36 p1 (gxF_260 p1 n) y2 X v X' := by
  rcases h with ⟨-, _, e1, e2, e3, h⟩ | ⟨e, -⟩
  · cases e1; cases e2; cases e3; exact h
  · exact absurd e (by decide)
theorem gxI_260_72 {p1 : Int32} {n : Nat} {y2 : Int32} {y3 : Int32} {X : fx_X} {v : Int32} {X' : fx_X} (h : gxT_260_72 p1 (gxF_260 p1 n) y2 y3 X v X') : gxF_260 p1 (n + 1) 72 [y2, y3] [] [] X v X' := Or.inr (⟨rfl, y2, y3, rfl, rfl, rfl, h⟩)
theorem gxO_260_72 {p1 : Int32} {n : Nat} {y2 : Int32} {y3 : Int32} {X : fx_X} {v : Int32} {X' : fx_X} (h : gxF_260 p1 (n + 1) 72 [y2, y3] [] [] X v X') : gxT_260_72 p1 (gxF_260 p1 n) y2 y3 X v X' := by
  rcases h with ⟨e, -⟩ | ⟨-, _, _, e1, e2, e3, h⟩
  · exact absurd e (by decide)
  · cases e1; cases e2; cases e3; exact h
def gx_260 (p1 : Int32) (X : fx_X) (v : Int32) (X' : fx_X) : Prop := ∃ n : Nat, gxE_260 p1 (gxF_260 p1 n) X v X'
theorem gxL_260 {tb : aj_T} (p1 : Int32) : ∀ N : Nat, (∀ (lv : aj_V) (y2 : Int32) (X : fx_X), aj_lv lv 0 = some (.ref 117) → aj_lv lv 1 = some (.int p1) → aj_lv lv 2 = some (.int y2) → fx_W tb aj_m260 N 36 lv [] X (fx_Q fx_qI (fun v X' => ∃ n : Nat, gxF_260 p1 n 36 [y2] [] [] X v X'))) ∧ (∀ (lv : aj_V) (y2 : Int32) (y3 : Int32) (X : fx_X), aj_lv lv 0 = some (.ref 117) → aj_lv lv 1 = some (.int p1) → aj_lv lv 2 = some (.int y2) → aj_lv lv 3 = some (.int y3) → fx_W tb aj_m260 N 72 lv [] X (fx_Q fx_qI (fun v X' => ∃ n : Nat, gxF_260 p1 n 72 [y2, y3] [] [] X v X'))) := by
  intro N
  induction N with
  | zero => exact ⟨(by intros; exact fx_z), (by intros; exact fx_z)⟩
  | succ N ih =>
    refine ⟨?_, ?_⟩
    · intro lv y2 X hlv_0 hlv_1 hlv_2
      refine fx_mono (Q := fx_Q fx_qI (fun v X' => ∃ n : Nat, gxT_260_36 p1 (gxF_260 p1 n) y2 X v X')) (fun r X' ⟨v, e, n, z⟩ => ⟨v, e, n + 1, gxI_260_36 z⟩) ?_
      unfold gxT_260_36
      refine fx_i0 aj_d260 rfl (Nat.le_refl _) (fun _ => rfl) hlv_2 ?_
      refine fx_i2 aj_d260 rfl (Nat.le_succ _) (fun _ => rfl) hlv_0 ?_
      refine fx_gI aj_d260 rfl (Nat.le_succ _) rfl rfl (Or.inl rfl) ?_
      refine fx_b (tgt := 157) aj_d260 rfl (Nat.le_succ _) rfl (fun q14 => ?_) (fun q14 => ?_)
      · skip
        refine fx_qe (c := (y2).toInt < ((X.1 117 56)).toInt) (fx_t_ge q14) ?_
        show fx_W _ _ _ 157 lv [] _ _
        refine fx_i2 aj_d260 rfl (Nat.le_succ _) (fun _ => rfl) hlv_0 ?_
        refine fx_gF aj_d260 rfl (Nat.le_succ _) rfl rfl fx_in_11_16 (t := 132) rfl (fun hA15 => ?_)
        refine fx_i0 aj_d260 rfl (Nat.le_succ _) (fun _ => rfl) hlv_1 ?_
        refine fx_i2 aj_d260 rfl (Nat.le_succ _) (fun _ => rfl) hlv_0 ?_
        refine fx_gI aj_d260 rfl (Nat.le_succ _) rfl rfl (Or.inl rfl) ?_
        refine fx_st aj_d260 (Or.inl ⟨rfl, rfl⟩) rfl (Nat.le_succ _) (fun g160 g161 => ?_)
        show fx_W _ _ _ _ _ _ (fx_wI X 132 (p1).toInt.toNat (X.1 117 56)) _
        refine fx_qa (c := 0 ≤ (p1).toInt ∧ (p1).toInt < ((50 : Nat) : Int)) ⟨g160, fx_lnk g161 hA15⟩ ?_
        refine fx_qX (fun X17 eX17 => ?_)
        show fx_W _ _ _ 167 lv [] _ _
        refine fx_n (pc' := 168) (lv' := lv) (st' := [.int (Int32.ofInt 1)]) aj_d260 rfl (Nat.le_succ _) (fun _ => rfl) ?_
        exact fx_ri aj_d260 rfl ⟨_, rfl, 0, rfl, rfl⟩
      · skip
        refine fx_qi (c := (y2).toInt < ((X.1 117 56)).toInt) (fx_f_ge q14) ?_
        show fx_W _ _ _ 44 lv [] _ _
        refine fx_i2 aj_d260 rfl (Nat.le_succ _) (fun _ => rfl) hlv_0 ?_
        refine fx_gF aj_d260 rfl (Nat.le_succ _) rfl rfl fx_in_11_17 (t := 133) rfl (fun hA18 => ?_)
        refine fx_i0 aj_d260 rfl (Nat.le_succ _) (fun _ => rfl) hlv_1 ?_
        refine fx_n (pc' := 51) (lv' := lv) (st' := [.int ((Int8.ofInt 8).toInt32), .int p1, .ref 133]) aj_d260 rfl (Nat.le_succ _) (fun _ => rfl) ?_
        refine fx_n (pc' := 52) (lv' := lv) (st' := [.int (p1 * ((Int8.ofInt 8).toInt32)), .ref 133]) aj_d260 rfl (Nat.le_succ _) (fun _ => rfl) ?_
        refine fx_i0 aj_d260 rfl (Nat.le_succ _) (fun _ => rfl) hlv_2 ?_
        refine fx_n (pc' := 54) (lv' := lv) (st' := [.int ((p1 * ((Int8.ofInt 8).toInt32)) + y2), .ref 133]) aj_d260 rfl (Nat.le_succ _) (fun _ => rfl) ?_
        refine fx_i2 aj_d260 rfl (Nat.le_succ _) (fun _ => rfl) hlv_0 ?_
        refine fx_gF aj_d260 rfl (Nat.le_succ _) rfl rfl fx_in_11_17 (t := 133) rfl (fun hA19 => ?_)
        refine fx_n (pc' := 61) (lv' := lv) (st' := [.int ((Int16.ofInt 392).toInt32), .ref 133, .int ((p1 * ((Int8.ofInt 8).toInt32)) + y2), .ref 133]) aj_d260 rfl (Nat.le_succ _) (fun _ => rfl) ?_
        refine fx_i2 aj_d260 rfl (Nat.le_succ _) (fun _ => rfl) hlv_0 ?_
        refine fx_gF aj_d260 rfl (Nat.le_succ _) rfl rfl fx_in_11_55 (t := 142) rfl (fun hA20 => ?_)
        refine fx_i0 aj_d260 rfl (Nat.le_succ _) (fun _ => rfl) hlv_2 ?_
        refine fx_ld aj_d260 (Or.inl rfl) rfl (Nat.le_succ _) (fun g210 g211 => ?_)
        show fx_W _ _ _ 67 lv [.int (X.1 142 (y2).toInt.toNat), .int ((Int16.ofInt 392).toInt32), .ref 133, .int ((p1 * ((Int8.ofInt 8).toInt32)) + y2), .ref 133] _ _
        refine fx_qa (c := 0 ≤ (y2).toInt ∧ (y2).toInt < ((16 : Nat) : Int)) ⟨g210, fx_lnk g211 hA20⟩ ?_
        refine fx_n (pc' := 68) (lv' := lv) (st' := [.int (((Int16.ofInt 392).toInt32) + (X.1 142 (y2).toInt.toNat)), .ref 133, .int ((p1 * ((Int8.ofInt 8).toInt32)) + y2), .ref 133]) aj_d260 rfl (Nat.le_succ _) (fun _ => rfl) ?_
        refine fx_ldL aj_d260 rfl (Nat.le_succ _) (fun g220 g221 => ?_)
        show fx_W _ _ _ 69 lv [.long (X.2.1 133 ((((Int16.ofInt 392).toInt32) + (X.1 142 (y2).toInt.toNat))).toInt.toNat), .int ((p1 * ((Int8.ofInt 8).toInt32)) + y2), .ref 133] _ _
        refine fx_qa (c := 0 ≤ ((((Int16.ofInt 392).toInt32) + (X.1 142 (y2).toInt.toNat))).toInt ∧ ((((Int16.ofInt 392).toInt32) + (X.1 142 (y2).toInt.toNat))).toInt < ((400 : Nat) : Int)) ⟨g220, fx_lnk g221 hA19⟩ ?_
        refine fx_sL aj_d260 rfl (Nat.le_succ _) (fun g230 g231 => ?_)
        refine fx_qa (c := 0 ≤ (((p1 * ((Int8.ofInt 8).toInt32)) + y2)).toInt ∧ (((p1 * ((Int8.ofInt 8).toInt32)) + y2)).toInt < ((400 : Nat) : Int)) ⟨g230, fx_lnk g231 hA18⟩ ?_
        refine fx_qX (fun X24 eX24 => ?_)
        show fx_W _ _ _ 70 lv [] _ _
        refine fx_n (pc' := 71) (lv' := lv) (st' := [.int (Int32.ofInt 0)]) aj_d260 rfl (Nat.le_succ _) (fun _ => rfl) ?_
        refine fx_s0 (j := 3) aj_d260 rfl (Nat.le_succ _) (by decide) (fun _ => rfl) ?_
        obtain ⟨lv25, elv25⟩ : ∃ l, l = aj_set1 lv 3 (.int (Int32.ofInt 0)) := ⟨_, rfl⟩
        rw [← elv25]
        have hlv25_0 : aj_lv lv25 0 = some (.ref 117) := fx_e1 elv25 hlv_0 (by decide) (Or.inl (by decide))
        have hlv25_1 : aj_lv lv25 1 = some (.int p1) := fx_e1 elv25 hlv_1 (by decide) (Or.inl (by decide))
        have hlv25_2 : aj_lv lv25 2 = some (.int y2) := fx_e1 elv25 hlv_2 (by decide) (Or.inr rfl)
        have hlv25_3 : aj_lv lv25 3 = some (.int (Int32.ofInt 0)) := by rw [elv25]; exact ak_set1_eq _ _ _
        show fx_W _ _ _ 72 lv25 [] _ _
        exact (ih.2) lv25 (y2) ((Int32.ofInt 0)) X24  hlv25_0 hlv25_1 hlv25_2 hlv25_3
    · intro lv y2 y3 X hlv_0 hlv_1 hlv_2 hlv_3
      refine fx_mono (Q := fx_Q fx_qI (fun v X' => ∃ n : Nat, gxT_260_72 p1 (gxF_260 p1 n) y2 y3 X v X')) (fun r X' ⟨v, e, n, z⟩ => ⟨v, e, n + 1, gxI_260_72 z⟩) ?_
      unfold gxT_260_72
      refine fx_i2 aj_d260 rfl (Nat.le_refl _) (fun _ => rfl) hlv_0 ?_
      refine fx_gI aj_d260 rfl (Nat.le_succ _) rfl rfl (Or.inr (Or.inl rfl)) ?_
      refine fx_b0 (tgt := 151) aj_d260 rfl (Nat.le_succ _) rfl (fun q26 => ?_) (fun q26 => ?_)
      · skip
        refine fx_qi (c := ((X.1 117 32)).toInt = 0) (fx_t_eq q26) ?_
        show fx_W _ _ _ 151 lv [] _ _
        refine fx_incq aj_d260 rfl (Nat.le_succ _) hlv_2 (by decide) (fun x27 ex27 => ?_)
        obtain ⟨lv28, elv28⟩ : ∃ l, l = aj_set1 lv 2 (.int x27) := ⟨_, rfl⟩
        rw [← elv28]
        have hlv28_0 : aj_lv lv28 0 = some (.ref 117) := fx_e1 elv28 hlv_0 (by decide) (Or.inl (by decide))
        have hlv28_1 : aj_lv lv28 1 = some (.int p1) := fx_e1 elv28 hlv_1 (by decide) (Or.inr rfl)
        have hlv28_2 : aj_lv lv28 2 = some (.int x27) := by rw [elv28]; exact ak_set1_eq _ _ _
        show fx_W _ _ _ 154 lv28 [] _ _
        refine fx_n (pc' := 36) (lv' := lv28) (st' := []) aj_d260 rfl (Nat.le_succ _) (fun _ => rfl) ?_
        exact (ih.1) lv28 (x27) X  hlv28_0 hlv28_1 hlv28_2
      · skip
        refine fx_qe (c := ((X.1 117 32)).toInt = 0) (fx_f_eq q26) ?_
        show fx_W _ _ _ 79 lv [] _ _
        refine fx_i0 aj_d260 rfl (Nat.le_succ _) (fun _ => rfl) hlv_3 ?_
        refine fx_i2 aj_d260 rfl (Nat.le_succ _) (fun _ => rfl) hlv_0 ?_
        refine fx_gF aj_d260 rfl (Nat.le_succ _) rfl rfl fx_in_11_15 (t := 131) rfl (fun hA29 => ?_)
        refine fx_i0 aj_d260 rfl (Nat.le_succ _) (fun _ => rfl) hlv_1 ?_
        refine fx_ld aj_d260 (Or.inl rfl) rfl (Nat.le_succ _) (fun g300 g301 => ?_)
        show fx_W _ _ _ 86 lv [.int (X.1 131 (p1).toInt.toNat), .int y3] _ _
        refine fx_qa (c := 0 ≤ (p1).toInt ∧ (p1).toInt < ((50 : Nat) : Int)) ⟨g300, fx_lnk g301 hA29⟩ ?_
        refine fx_b (tgt := 151) aj_d260 rfl (Nat.le_succ _) rfl (fun q31 => ?_) (fun q31 => ?_)
        · skip
          refine fx_qe (c := (y3).toInt < ((X.1 131 (p1).toInt.toNat)).toInt) (fx_t_ge q31) ?_
          show fx_W _ _ _ 151 lv [] _ _
          refine fx_incq aj_d260 rfl (Nat.le_succ _) hlv_2 (by decide) (fun x32 ex32 => ?_)
          obtain ⟨lv33, elv33⟩ : ∃ l, l = aj_set1 lv 2 (.int x32) := ⟨_, rfl⟩
          rw [← elv33]
          have hlv33_0 : aj_lv lv33 0 = some (.ref 117) := fx_e1 elv33 hlv_0 (by decide) (Or.inl (by decide))
          have hlv33_1 : aj_lv lv33 1 = some (.int p1) := fx_e1 elv33 hlv_1 (by decide) (Or.inr rfl)
          have hlv33_2 : aj_lv lv33 2 = some (.int x32) := by rw [elv33]; exact ak_set1_eq _ _ _
          show fx_W _ _ _ 154 lv33 [] _ _
          refine fx_n (pc' := 36) (lv' := lv33) (st' := []) aj_d260 rfl (Nat.le_succ _) (fun _ => rfl) ?_
          exact (ih.1) lv33 (x32) X  hlv33_0 hlv33_1 hlv33_2
        · skip
          refine fx_qi (c := (y3).toInt < ((X.1 131 (p1).toInt.toNat)).toInt) (fx_f_ge q31) ?_
          show fx_W _ _ _ 89 lv [] _ _
          refine fx_i2 aj_d260 rfl (Nat.le_succ _) (fun _ => rfl) hlv_0 ?_
          refine fx_gF aj_d260 rfl (Nat.le_succ _) rfl rfl fx_in_11_18 (t := 134) rfl (fun hA34 => ?_)
          refine fx_i0 aj_d260 rfl (Nat.le_succ _) (fun _ => rfl) hlv_1 ?_
          refine fx_i0 aj_d260 rfl (Nat.le_succ _) (fun _ => rfl) hlv_3 ?_
          refine fx_i0 aj_d260 rfl (Nat.le_succ _) (fun _ => rfl) hlv_2 ?_
          refine fx_cs aj_d260 rfl (Nat.le_succ _) rfl rfl [_, _, _] rfl rfl (gx_236_ok p1 y3 y2) ?_
          rintro _ X35 ⟨w36, rfl, hR35⟩ hok35 hle35
          refine fx_qc hR35 ?_
          show fx_W _ _ _ 99 lv [.int w36, .ref 134] _ _
          refine fx_i2 aj_d260 rfl (Nat.le_succ _) (fun _ => rfl) hlv_0 ?_
          refine fx_gF aj_d260 rfl (Nat.le_succ _) rfl rfl fx_in_11_18 (t := 134) rfl (fun hA37 => ?_)
          refine fx_n (pc' := 105) (lv' := lv) (st' := [.int ((Int8.ofInt 49).toInt32), .ref 134, .int w36, .ref 134]) aj_d260 rfl (Nat.le_succ _) (fun _ => rfl) ?_
          refine fx_i0 aj_d260 rfl (Nat.le_succ _) (fun _ => rfl) hlv_3 ?_
          refine fx_i2 aj_d260 rfl (Nat.le_succ _) (fun _ => rfl) hlv_0 ?_
          refine fx_gF aj_d260 rfl (Nat.le_succ _) rfl rfl fx_in_11_55 (t := 142) rfl (fun hA38 => ?_)
          refine fx_i0 aj_d260 rfl (Nat.le_succ _) (fun _ => rfl) hlv_2 ?_
          refine fx_ld aj_d260 (Or.inl rfl) rfl (Nat.le_succ _) (fun g390 g391 => ?_)
          show fx_W _ _ _ 112 lv [.int (X35.1 142 (y2).toInt.toNat), .int y3, .int ((Int8.ofInt 49).toInt32), .ref 134, .int w36, .ref 134] _ _
          refine fx_qa (c := 0 ≤ (y2).toInt ∧ (y2).toInt < ((16 : Nat) : Int)) ⟨g390, fx_lnk g391 hA38⟩ ?_
          refine fx_cs aj_d260 rfl (Nat.le_succ _) rfl rfl [_, _, _] rfl rfl (gx_236_ok ((Int8.ofInt 49).toInt32) y3 (X35.1 142 (y2).toInt.toNat)) ?_
          rintro _ X40 ⟨w41, rfl, hR40⟩ hok40 hle40
          refine fx_qc hR40 ?_
          show fx_W _ _ _ 115 lv [.int w41, .ref 134, .int w36, .ref 134] _ _
          refine fx_ld aj_d260 (Or.inr (Or.inr rfl)) rfl (Nat.le_succ _) (fun g420 g421 => ?_)
          show fx_W _ _ _ 116 lv [.int (X40.1 134 (w41).toInt.toNat), .int w36, .ref 134] _ _
          refine fx_qa (c := 0 ≤ (w41).toInt ∧ (w41).toInt < ((12000 : Nat) : Int)) ⟨g420, fx_lnk g421 ((hle40.2 _ (by rw [hA37]; decide)).trans hA37)⟩ ?_
          refine fx_sb (kd := 4) aj_d260 rfl (Nat.le_succ _) ((hle40.2 _ (by rw [((hle35.2 _ (by rw [hA34]; decide)).trans hA34)]; decide)).trans ((hle35.2 _ (by rw [hA34]; decide)).trans hA34)) (fun g430 g431 => ?_)
          refine fx_qa (c := 0 ≤ (w36).toInt ∧ (w36).toInt < ((12000 : Nat) : Int)) ⟨g430, fx_lnk g431 ((hle40.2 _ (by rw [((hle35.2 _ (by rw [hA34]; decide)).trans hA34)]; decide)).trans ((hle35.2 _ (by rw [hA34]; decide)).trans hA34))⟩ ?_
          refine fx_qX (fun X44 eX44 => ?_)
          show fx_W _ _ _ 117 lv [] _ _
          refine fx_i2 aj_d260 rfl (Nat.le_succ _) (fun _ => rfl) hlv_0 ?_
          refine fx_gF aj_d260 rfl (Nat.le_succ _) rfl rfl fx_in_11_19 (t := 135) rfl (fun hA45 => ?_)
          refine fx_i0 aj_d260 rfl (Nat.le_succ _) (fun _ => rfl) hlv_1 ?_
          refine fx_i0 aj_d260 rfl (Nat.le_succ _) (fun _ => rfl) hlv_3 ?_
          refine fx_i0 aj_d260 rfl (Nat.le_succ _) (fun _ => rfl) hlv_2 ?_
          refine fx_cs aj_d260 rfl (Nat.le_succ _) rfl rfl [_, _, _] rfl rfl (gx_236_ok p1 y3 y2) ?_
          rintro _ X46 ⟨w47, rfl, hR46⟩ hok46 hle46
          refine fx_qc hR46 ?_
          show fx_W _ _ _ 127 lv [.int w47, .ref 135] _ _
          refine fx_i2 aj_d260 rfl (Nat.le_succ _) (fun _ => rfl) hlv_0 ?_
          refine fx_gF aj_d260 rfl (Nat.le_succ _) rfl rfl fx_in_11_19 (t := 135) rfl (fun hA48 => ?_)
          refine fx_n (pc' := 133) (lv' := lv) (st' := [.int ((Int8.ofInt 49).toInt32), .ref 135, .int w47, .ref 135]) aj_d260 rfl (Nat.le_succ _) (fun _ => rfl) ?_
          refine fx_i0 aj_d260 rfl (Nat.le_succ _) (fun _ => rfl) hlv_3 ?_
          refine fx_i2 aj_d260 rfl (Nat.le_succ _) (fun _ => rfl) hlv_0 ?_
          refine fx_gF aj_d260 rfl (Nat.le_succ _) rfl rfl fx_in_11_55 (t := 142) rfl (fun hA49 => ?_)
          refine fx_i0 aj_d260 rfl (Nat.le_succ _) (fun _ => rfl) hlv_2 ?_
          refine fx_ld aj_d260 (Or.inl rfl) rfl (Nat.le_succ _) (fun g500 g501 => ?_)
          show fx_W _ _ _ 140 lv [.int (X46.1 142 (y2).toInt.toNat), .int y3, .int ((Int8.ofInt 49).toInt32), .ref 135, .int w47, .ref 135] _ _
          refine fx_qa (c := 0 ≤ (y2).toInt ∧ (y2).toInt < ((16 : Nat) : Int)) ⟨g500, fx_lnk g501 hA49⟩ ?_
          refine fx_cs aj_d260 rfl (Nat.le_succ _) rfl rfl [_, _, _] rfl rfl (gx_236_ok ((Int8.ofInt 49).toInt32) y3 (X46.1 142 (y2).toInt.toNat)) ?_
          rintro _ X51 ⟨w52, rfl, hR51⟩ hok51 hle51
          refine fx_qc hR51 ?_
          show fx_W _ _ _ 143 lv [.int w52, .ref 135, .int w47, .ref 135] _ _
          refine fx_ld aj_d260 (Or.inl rfl) rfl (Nat.le_succ _) (fun g530 g531 => ?_)
          show fx_W _ _ _ 144 lv [.int (X51.1 135 (w52).toInt.toNat), .int w47, .ref 135] _ _
          refine fx_qa (c := 0 ≤ (w52).toInt ∧ (w52).toInt < ((12000 : Nat) : Int)) ⟨g530, fx_lnk g531 ((hle51.2 _ (by rw [hA48]; decide)).trans hA48)⟩ ?_
          refine fx_st aj_d260 (Or.inl ⟨rfl, rfl⟩) rfl (Nat.le_succ _) (fun g540 g541 => ?_)
          show fx_W _ _ _ _ _ _ (fx_wI X51 135 (w47).toInt.toNat (X51.1 135 (w52).toInt.toNat)) _
          refine fx_qa (c := 0 ≤ (w47).toInt ∧ (w47).toInt < ((12000 : Nat) : Int)) ⟨g540, fx_lnk g541 ((hle51.2 _ (by rw [((hle46.2 _ (by rw [hA45]; decide)).trans hA45)]; decide)).trans ((hle46.2 _ (by rw [hA45]; decide)).trans hA45))⟩ ?_
          refine fx_qX (fun X55 eX55 => ?_)
          show fx_W _ _ _ 145 lv [] _ _
          refine fx_incq aj_d260 rfl (Nat.le_succ _) hlv_3 (by decide) (fun x56 ex56 => ?_)
          obtain ⟨lv57, elv57⟩ : ∃ l, l = aj_set1 lv 3 (.int x56) := ⟨_, rfl⟩
          rw [← elv57]
          have hlv57_0 : aj_lv lv57 0 = some (.ref 117) := fx_e1 elv57 hlv_0 (by decide) (Or.inl (by decide))
          have hlv57_1 : aj_lv lv57 1 = some (.int p1) := fx_e1 elv57 hlv_1 (by decide) (Or.inl (by decide))
          have hlv57_2 : aj_lv lv57 2 = some (.int y2) := fx_e1 elv57 hlv_2 (by decide) (Or.inr rfl)
          have hlv57_3 : aj_lv lv57 3 = some (.int x56) := by rw [elv57]; exact ak_set1_eq _ _ _
          show fx_W _ _ _ 148 lv57 [] _ _
          refine fx_n (pc' := 72) (lv' := lv57) (st' := []) aj_d260 rfl (Nat.le_succ _) (fun _ => rfl) ?_
          exact (ih.2) lv57 (y2) (x56) X55  hlv57_0 hlv57_1 hlv57_2 hlv57_3
theorem gx_260_ok {tb : aj_T} (p1 : Int32) {X : fx_X} : fx_K tb 260 [.ref 117, .int p1] X (fx_Q fx_qI (fun v X' => gx_260 p1 X v X')) := by
  refine fx_m aj_m260_at rfl (fun N => ?_)
  refine fx_mono (Q := fx_Q fx_qI (fun v X' => ∃ n : Nat, gxE_260 p1 (gxF_260 p1 n) X v X')) (fun r X' h => h) ?_
  unfold gxE_260
  show fx_W _ _ _ 0 [(0, .ref 117), (1, .int p1)] [] _ _
  obtain ⟨lv1, elv1⟩ : ∃ l : aj_V, l = [(0, .ref 117), (1, .int p1)] := ⟨_, rfl⟩
  rw [← elv1]
  have hlv1_0 : aj_lv lv1 0 = some (.ref 117) := by rw [elv1]; rfl
  have hlv1_1 : aj_lv lv1 1 = some (.int p1) := by rw [elv1]; rfl
  refine fx_i2 aj_d260 rfl (Nat.le_succ _) (fun _ => rfl) hlv1_0 ?_
  refine fx_cv aj_d260 rfl (Nat.le_succ _) rfl [] rfl rfl (gx_214_ok) ?_
  rintro _ X2 ⟨w3, rfl, hR2⟩ hok2 hle2
  refine fx_qc hR2 ?_
  show fx_W _ _ _ 4 lv1 [.int w3] _ _
  refine fx_b0 (tgt := 16) aj_d260 rfl (Nat.le_succ _) rfl (fun q4 => ?_) (fun q4 => ?_)
  · skip
    refine fx_qi (c := (w3).toInt = 0) (fx_t_eq q4) ?_
    show fx_W _ _ _ 16 lv1 [] _ _
    refine fx_n (pc' := 17) (lv' := lv1) (st' := [.int (Int32.ofInt 0)]) aj_d260 rfl (Nat.le_succ _) (fun _ => rfl) ?_
    exact fx_ri aj_d260 rfl ⟨_, rfl, 0, rfl, rfl⟩
  · skip
    refine fx_qe (c := (w3).toInt = 0) (fx_f_eq q4) ?_
    show fx_W _ _ _ 7 lv1 [] _ _
    refine fx_i2 aj_d260 rfl (Nat.le_succ _) (fun _ => rfl) hlv1_0 ?_
    refine fx_i0 aj_d260 rfl (Nat.le_succ _) (fun _ => rfl) hlv1_1 ?_
    refine fx_n (pc' := 10) (lv' := lv1) (st' := [.int (Int32.ofInt 0), .int p1, .ref 117]) aj_d260 rfl (Nat.le_succ _) (fun _ => rfl) ?_
    refine fx_cv aj_d260 rfl (Nat.le_succ _) rfl [_, _] rfl rfl (gx_261_ok p1 (Int32.ofInt 0)) ?_
    rintro _ X5 ⟨w6, rfl, hR5⟩ hok5 hle5
    refine fx_qc hR5 ?_
    show fx_W _ _ _ 13 lv1 [.int w6] _ _
    refine fx_b0 (tgt := 18) aj_d260 rfl (Nat.le_succ _) rfl (fun q7 => ?_) (fun q7 => ?_)
    · skip
      refine fx_qe (c := (w6).toInt = 0) (fx_t_ne q7) ?_
      show fx_W _ _ _ 18 lv1 [] _ _
      refine fx_i2 aj_d260 rfl (Nat.le_succ _) (fun _ => rfl) hlv1_0 ?_
      refine fx_gF aj_d260 rfl (Nat.le_succ _) rfl rfl fx_in_11_16 (t := 132) rfl (fun hA8 => ?_)
      refine fx_i0 aj_d260 rfl (Nat.le_succ _) (fun _ => rfl) hlv1_1 ?_
      refine fx_ld aj_d260 (Or.inl rfl) rfl (Nat.le_succ _) (fun g90 g91 => ?_)
      show fx_W _ _ _ 24 lv1 [.int (X5.1 132 (p1).toInt.toNat)] _ _
      refine fx_qa (c := 0 ≤ (p1).toInt ∧ (p1).toInt < ((50 : Nat) : Int)) ⟨g90, fx_lnk g91 hA8⟩ ?_
      refine fx_b0 (tgt := 167) aj_d260 rfl (Nat.le_succ _) rfl (fun q10 => ?_) (fun q10 => ?_)
      · skip
        refine fx_qi (c := ((X5.1 132 (p1).toInt.toNat)).toInt < 0) (fx_t_lt q10) ?_
        show fx_W _ _ _ 167 lv1 [] _ _
        refine fx_n (pc' := 168) (lv' := lv1) (st' := [.int (Int32.ofInt 1)]) aj_d260 rfl (Nat.le_succ _) (fun _ => rfl) ?_
        exact fx_ri aj_d260 rfl ⟨_, rfl, 0, rfl, rfl⟩
      · skip
        refine fx_qe (c := ((X5.1 132 (p1).toInt.toNat)).toInt < 0) (fx_f_lt q10) ?_
        show fx_W _ _ _ 27 lv1 [] _ _
        refine fx_i2 aj_d260 rfl (Nat.le_succ _) (fun _ => rfl) hlv1_0 ?_
        refine fx_i0 aj_d260 rfl (Nat.le_succ _) (fun _ => rfl) hlv1_1 ?_
        refine fx_n (pc' := 31) (lv' := lv1) (st' := [.int ((Int8.ofInt 49).toInt32), .int p1, .ref 117]) aj_d260 rfl (Nat.le_succ _) (fun _ => rfl) ?_
        refine fx_cv aj_d260 rfl (Nat.le_succ _) rfl [_, _] rfl rfl (gx_251_ok p1 ((Int8.ofInt 49).toInt32)) ?_
        rintro _ X11 ⟨w12, rfl, hR11⟩ hok11 hle11
        refine fx_qc hR11 ?_
        show fx_W _ _ _ 34 lv1 [] _ _
        refine fx_n (pc' := 35) (lv' := lv1) (st' := [.int (Int32.ofInt 0)]) aj_d260 rfl (Nat.le_succ _) (fun _ => rfl) ?_
        refine fx_s0 (j := 2) aj_d260 rfl (Nat.le_succ _) (by decide) (fun _ => rfl) ?_
        obtain ⟨lv13, elv13⟩ : ∃ l, l = aj_set1 lv1 2 (.int (Int32.ofInt 0)) := ⟨_, rfl⟩
        rw [← elv13]
        have hlv13_0 : aj_lv lv13 0 = some (.ref 117) := fx_e1 elv13 hlv1_0 (by decide) (Or.inl (by decide))
        have hlv13_1 : aj_lv lv13 1 = some (.int p1) := fx_e1 elv13 hlv1_1 (by decide) (Or.inr rfl)
        have hlv13_2 : aj_lv lv13 2 = some (.int (Int32.ofInt 0)) := by rw [elv13]; exact ak_set1_eq _ _ _
        show fx_W _ _ _ 36 lv13 [] _ _
        exact ((gxL_260 p1 N).1) lv13 ((Int32.ofInt 0)) X11  hlv13_0 hlv13_1 hlv13_2
    · skip
      refine fx_qi (c := (w6).toInt = 0) (fx_f_ne q7) ?_
      show fx_W _ _ _ 16 lv1 [] _ _
      refine fx_n (pc' := 17) (lv' := lv1) (st' := [.int (Int32.ofInt 0)]) aj_d260 rfl (Nat.le_succ _) (fun _ => rfl) ?_
      exact fx_ri aj_d260 rfl ⟨_, rfl, 0, rfl, rfl⟩
def gxT_217_3 (p1 : Int32) (p2 : Int64) (P : Nat → List Int32 → List Int64 → List Nat → fx_X → Int32 → fx_X → Prop) (y4 : Int32) (X : fx_X) (v : Int32) (X' : fx_X) : Prop :=
  (0 ≤ (p1).toInt ∧ (p1).toInt < ((2 : Nat) : Int)) ∧ (if (y4).toInt < ((X.1 118 (p1).toInt.toNat)).toInt then ((0 ≤ (((p1 * ((Int8.ofInt 8).toInt32)) + y4)).toInt ∧ (((p1 * ((Int8.ofInt 8).toInt32)) + y4)).toInt < ((16 : Nat) : Int)) ∧ (if (X.2.1 119 (((p1 * ((Int8.ofInt 8).toInt32)) + y4)).toInt.toNat) = p2 then (v = y4 ∧ X' = X) else (∃ x9 : Int32, x9 = y4 + Int32.ofInt 1 ∧ P 3 [x9] [] [] X v X'))) else (v = (Int32.ofInt (-1)) ∧ X' = X))
def gxE_217 (p1 : Int32) (p2 : Int64) (P : Nat → List Int32 → List Int64 → List Nat → fx_X → Int32 → fx_X → Prop) (X : fx_X) (v : Int32) (X' : fx_X) : Prop :=
  P 3 [(Int32.ofInt 0)] [] [] X v X'
noncomputable def gxF_217 (p1 : Int32) (p2 : Int64) (n : Nat) : Nat → List Int32 → List Int64 → List Nat → fx_X → Int32 → fx_X → Prop := Nat.rec (motive := fun _ => Nat → List Int32 → List Int64 → List Nat → fx_X → Int32 → fx_X → Prop) (fun _ _ _ _ _ _ _ => False) (fun _ P l is ls rs X v X' => (l = 3 ∧ ∃ (y4 : Int32), is = [y4] ∧ ls = [] ∧ rs = [] ∧ gxT_217_3 p1 p2 P y4 X v X')) n
theorem gxI_217_3 {p1 : Int32} {p2 : Int64} {n : Nat} {y4 : Int32} {X : fx_X} {v : Int32} {X' : fx_X} (h : gxT_217_3 p1 p2 (gxF_217 p1 p2 n) y4 X v X') : gxF_217 p1 p2 (n + 1) 3 [y4] [] [] X v X' := ⟨rfl, y4, rfl, rfl, rfl, h⟩
theorem gxO_217_3 {p1 : Int32} {p2 : Int64} {n : Nat} {y4 : Int32} {X : fx_X} {v : Int32} {X' : fx_X} (h : gxF_217 p1 p2 (n + 1) 3 [y4] [] [] X v X') : gxT_217_3 p1 p2 (gxF_217 p1 p2 n) y4 X v X' := by
  rcases h with ⟨-, _, e1, e2, e3, h⟩
  · cases e1; cases e2; cases e3; exact h
def gx_217 (p1 : Int32) (p2 : Int64) (X : fx_X) (v : Int32) (X' : fx_X) : Prop := ∃ n : Nat, gxE_217 p1 p2 (gxF_217 p1 p2 n) X v X'
theorem gxL_217 {tb : aj_T} (p1 : Int32) (p2 : Int64) : ∀ N : Nat, (∀ (lv : aj_V) (y4 : Int32) (X : fx_X), aj_lv lv 0 = some (.ref 117) → aj_lv lv 1 = some (.int p1) → aj_lv lv 2 = some (.long p2) → aj_lv lv 4 = some (.int y4) → fx_W tb aj_m217 N 3 lv [] X (fx_Q fx_qI (fun v X' => ∃ n : Nat, gxF_217 p1 p2 n 3 [y4] [] [] X v X'))) := by
  intro N
  induction N with
  | zero => exact (by intros; exact fx_z)
  | succ N ih =>
    skip
    · intro lv y4 X hlv_0 hlv_1 hlv_2 hlv_4
      refine fx_mono (Q := fx_Q fx_qI (fun v X' => ∃ n : Nat, gxT_217_3 p1 p2 (gxF_217 p1 p2 n) y4 X v X')) (fun r X' ⟨v, e, n, z⟩ => ⟨v, e, n + 1, gxI_217_3 z⟩) ?_
      unfold gxT_217_3
      refine fx_i0 aj_d217 rfl (Nat.le_refl _) (fun _ => rfl) hlv_4 ?_
      refine fx_i2 aj_d217 rfl (Nat.le_succ _) (fun _ => rfl) hlv_0 ?_
      refine fx_gF aj_d217 rfl (Nat.le_succ _) rfl rfl fx_in_11_1 (t := 118) rfl (fun hA3 => ?_)
      refine fx_i0 aj_d217 rfl (Nat.le_succ _) (fun _ => rfl) hlv_1 ?_
      refine fx_ld aj_d217 (Or.inl rfl) rfl (Nat.le_succ _) (fun g40 g41 => ?_)
      show fx_W _ _ _ 11 lv [.int (X.1 118 (p1).toInt.toNat), .int y4] _ _
      refine fx_qa (c := 0 ≤ (p1).toInt ∧ (p1).toInt < ((2 : Nat) : Int)) ⟨g40, fx_lnk g41 hA3⟩ ?_
      refine fx_b (tgt := 40) aj_d217 rfl (Nat.le_succ _) rfl (fun q5 => ?_) (fun q5 => ?_)
      · skip
        refine fx_qe (c := (y4).toInt < ((X.1 118 (p1).toInt.toNat)).toInt) (fx_t_ge q5) ?_
        show fx_W _ _ _ 40 lv [] _ _
        refine fx_n (pc' := 41) (lv' := lv) (st' := [.int (Int32.ofInt (-1))]) aj_d217 rfl (Nat.le_succ _) (fun _ => rfl) ?_
        exact fx_ri aj_d217 rfl ⟨_, rfl, 0, rfl, rfl⟩
      · skip
        refine fx_qi (c := (y4).toInt < ((X.1 118 (p1).toInt.toNat)).toInt) (fx_f_ge q5) ?_
        show fx_W _ _ _ 14 lv [] _ _
        refine fx_i2 aj_d217 rfl (Nat.le_succ _) (fun _ => rfl) hlv_0 ?_
        refine fx_gF aj_d217 rfl (Nat.le_succ _) rfl rfl fx_in_11_2 (t := 119) rfl (fun hA6 => ?_)
        refine fx_i0 aj_d217 rfl (Nat.le_succ _) (fun _ => rfl) hlv_1 ?_
        refine fx_n (pc' := 21) (lv' := lv) (st' := [.int ((Int8.ofInt 8).toInt32), .int p1, .ref 119]) aj_d217 rfl (Nat.le_succ _) (fun _ => rfl) ?_
        refine fx_n (pc' := 22) (lv' := lv) (st' := [.int (p1 * ((Int8.ofInt 8).toInt32)), .ref 119]) aj_d217 rfl (Nat.le_succ _) (fun _ => rfl) ?_
        refine fx_i0 aj_d217 rfl (Nat.le_succ _) (fun _ => rfl) hlv_4 ?_
        refine fx_n (pc' := 25) (lv' := lv) (st' := [.int ((p1 * ((Int8.ofInt 8).toInt32)) + y4), .ref 119]) aj_d217 rfl (Nat.le_succ _) (fun _ => rfl) ?_
        refine fx_ldL aj_d217 rfl (Nat.le_succ _) (fun g70 g71 => ?_)
        show fx_W _ _ _ 26 lv [.long (X.2.1 119 (((p1 * ((Int8.ofInt 8).toInt32)) + y4)).toInt.toNat)] _ _
        refine fx_qa (c := 0 ≤ (((p1 * ((Int8.ofInt 8).toInt32)) + y4)).toInt ∧ (((p1 * ((Int8.ofInt 8).toInt32)) + y4)).toInt < ((16 : Nat) : Int)) ⟨g70, fx_lnk g71 hA6⟩ ?_
        refine fx_i1 aj_d217 rfl (Nat.le_succ _) (fun _ => rfl) hlv_2 ?_
        refine fx_n (pc' := 28) (lv' := lv) (st' := [.int (lg_cmp (X.2.1 119 (((p1 * ((Int8.ofInt 8).toInt32)) + y4)).toInt.toNat) p2)]) aj_d217 rfl (Nat.le_succ _) (fun _ => rfl) ?_
        refine fx_b0 (tgt := 34) aj_d217 rfl (Nat.le_succ _) rfl (fun q8 => ?_) (fun q8 => ?_)
        · skip
          refine fx_qe (c := (X.2.1 119 (((p1 * ((Int8.ofInt 8).toInt32)) + y4)).toInt.toNat) = p2) (fun z => (fx_t_ne q8) (fx_lc.mpr z)) ?_
          show fx_W _ _ _ 34 lv [] _ _
          refine fx_incq aj_d217 rfl (Nat.le_succ _) hlv_4 (by decide) (fun x9 ex9 => ?_)
          obtain ⟨lv10, elv10⟩ : ∃ l, l = aj_set1 lv 4 (.int x9) := ⟨_, rfl⟩
          rw [← elv10]
          have hlv10_0 : aj_lv lv10 0 = some (.ref 117) := fx_e1 elv10 hlv_0 (by decide) (Or.inl (by decide))
          have hlv10_1 : aj_lv lv10 1 = some (.int p1) := fx_e1 elv10 hlv_1 (by decide) (Or.inl (by decide))
          have hlv10_2 : aj_lv lv10 2 = some (.long p2) := fx_e1 elv10 hlv_2 (by decide) (Or.inl (by decide))
          have hlv10_4 : aj_lv lv10 4 = some (.int x9) := by rw [elv10]; exact ak_set1_eq _ _ _
          show fx_W _ _ _ 37 lv10 [] _ _
          refine fx_n (pc' := 3) (lv' := lv10) (st' := []) aj_d217 rfl (Nat.le_succ _) (fun _ => rfl) ?_
          exact (ih) lv10 (x9) X  hlv10_0 hlv10_1 hlv10_2 hlv10_4
        · skip
          refine fx_qi (c := (X.2.1 119 (((p1 * ((Int8.ofInt 8).toInt32)) + y4)).toInt.toNat) = p2) (fx_lc.mp (fx_f_ne q8)) ?_
          show fx_W _ _ _ 31 lv [] _ _
          refine fx_i0 aj_d217 rfl (Nat.le_succ _) (fun _ => rfl) hlv_4 ?_
          exact fx_ri aj_d217 rfl ⟨_, rfl, 0, rfl, rfl⟩
theorem gx_217_ok {tb : aj_T} (p1 : Int32) (p2 : Int64) {X : fx_X} : fx_K tb 217 [.ref 117, .int p1, .long p2] X (fx_Q fx_qI (fun v X' => gx_217 p1 p2 X v X')) := by
  refine fx_m aj_m217_at rfl (fun N => ?_)
  refine fx_mono (Q := fx_Q fx_qI (fun v X' => ∃ n : Nat, gxE_217 p1 p2 (gxF_217 p1 p2 n) X v X')) (fun r X' h => h) ?_
  unfold gxE_217
  show fx_W _ _ _ 0 [(0, .ref 117), (1, .int p1), (2, .long p2)] [] _ _
  obtain ⟨lv1, elv1⟩ : ∃ l : aj_V, l = [(0, .ref 117), (1, .int p1), (2, .long p2)] := ⟨_, rfl⟩
  rw [← elv1]
  have hlv1_0 : aj_lv lv1 0 = some (.ref 117) := by rw [elv1]; rfl
  have hlv1_1 : aj_lv lv1 1 = some (.int p1) := by rw [elv1]; rfl
  have hlv1_2 : aj_lv lv1 2 = some (.long p2) := by rw [elv1]; rfl
  refine fx_n (pc' := 1) (lv' := lv1) (st' := [.int (Int32.ofInt 0)]) aj_d217 rfl (Nat.le_succ _) (fun _ => rfl) ?_
  refine fx_s0 (j := 4) aj_d217 rfl (Nat.le_succ _) (by decide) (fun _ => rfl) ?_
  obtain ⟨lv2, elv2⟩ : ∃ l, l = aj_set1 lv1 4 (.int (Int32.ofInt 0)) := ⟨_, rfl⟩
  rw [← elv2]
  have hlv2_0 : aj_lv lv2 0 = some (.ref 117) := fx_e1 elv2 hlv1_0 (by decide) (Or.inl (by decide))
  have hlv2_1 : aj_lv lv2 1 = some (.int p1) := fx_e1 elv2 hlv1_1 (by decide) (Or.inl (by decide))
  have hlv2_2 : aj_lv lv2 2 = some (.long p2) := fx_e1 elv2 hlv1_2 (by decide) (Or.inl (by decide))
  have hlv2_4 : aj_lv lv2 4 = some (.int (Int32.ofInt 0)) := by rw [elv2]; exact ak_set1_eq _ _ _
  show fx_W _ _ _ 3 lv2 [] _ _
  exact ((gxL_217 p1 p2 N)) lv2 ((Int32.ofInt 0)) X  hlv2_0 hlv2_1 hlv2_2 hlv2_4
def gxT_221_55 (P : Nat → List Int32 → List Int64 → List Nat → fx_X → Int32 → fx_X → Prop) (y1 : Int32) (y2 : Int32) (y3 : Int32) (X : fx_X) (v : Int32) (X' : fx_X) : Prop :=
  (if (y3).toInt < ((X.1 117 28)).toInt then ((0 ≤ (y3).toInt ∧ (y3).toInt < ((4000 : Nat) : Int)) ∧ ∃ x29 : Int32, x29 = (((((Int8.ofInt 10).toInt32) * y2) + (X.1 138 (y3).toInt.toNat)) - ((Int8.ofInt 48).toInt32)) ∧ ∃ x31 : Int32, x31 = y3 + Int32.ofInt 1 ∧ P 55 [y1, x29, x31] [] [] X v X') else (∃ X24 : fx_X, X24 = (fx_wI X 117 35 (y1 * y2)) ∧ ∃ (w26 : Int32) (X25 : fx_X), gx_214 X24 w26 X25 ∧ v = w26 ∧ X' = X25))
def gxE_221 (P : Nat → List Int32 → List Int64 → List Nat → fx_X → Int32 → fx_X → Prop) (X : fx_X) (v : Int32) (X' : fx_X) : Prop :=
  ∃ X2 : fx_X, X2 = (fx_wI X 117 36 (X.1 117 27)) ∧ ∃ (w5 : Int32) (X4 : fx_X), gx_220 ((Int8.ofInt 45).toInt32) X2 w5 X4 ∧ (if (w5).toInt = 0 then ((if ((X4.1 117 26)).toInt = 2 then (∃ x9 : Int32, x9 = (X4.1 117 27) ∧ P 55 [(Int32.ofInt 1), (Int32.ofInt 0), x9] [] [] X4 v X') else (∃ (w12 : Int32) (X11 : fx_X), gx_215 (Int32.ofInt 1) (X4.1 117 27) X4 w12 X11 ∧ v = w12 ∧ X' = X11))) else (∃ (w15 : Int32) (X14 : fx_X), gx_214 X4 w15 X14 ∧ (if (w15).toInt = 0 then (v = (Int32.ofInt 0) ∧ X' = X14) else ((if ((X14.1 117 26)).toInt = 2 then (∃ x19 : Int32, x19 = (X14.1 117 27) ∧ P 55 [(Int32.ofInt (-1)), (Int32.ofInt 0), x19] [] [] X14 v X') else (∃ (w22 : Int32) (X21 : fx_X), gx_215 (Int32.ofInt 1) (X14.1 117 27) X14 w22 X21 ∧ v = w22 ∧ X' = X21))))))
noncomputable def gxF_221 (n : Nat) : Nat → List Int32 → List Int64 → List Nat → fx_X → Int32 → fx_X → Prop := Nat.rec (motive := fun _ => Nat → List Int32 → List Int64 → List Nat → fx_X → Int32 → fx_X → Prop) (fun _ _ _ _ _ _ _ => False) (fun _ P l is ls rs X v X' => (l = 55 ∧ ∃ (y1 : Int32) (y2 : Int32) (y3 : Int32), is = [y1, y2, y3] ∧ ls = [] ∧ rs = [] ∧ gxT_221_55 P y1 y2 y3 X v X')) n
theorem gxI_221_55 {n : Nat} {y1 : Int32} {y2 : Int32} {y3 : Int32} {X : fx_X} {v : Int32} {X' : fx_X} (h : gxT_221_55 (gxF_221 n) y1 y2 y3 X v X') : gxF_221 (n + 1) 55 [y1, y2, y3] [] [] X v X' := ⟨rfl, y1, y2, y3, rfl, rfl, rfl, h⟩
theorem gxO_221_55 {n : Nat} {y1 : Int32} {y2 : Int32} {y3 : Int32} {X : fx_X} {v : Int32} {X' : fx_X} (h : gxF_221 (n + 1) 55 [y1, y2, y3] [] [] X v X') : gxT_221_55 (gxF_221 n) y1 y2 y3 X v X' := by
  rcases h with ⟨-, _, _, _, e1, e2, e3, h⟩
  · cases e1; cases e2; cases e3; exact h
def gx_221 (X : fx_X) (v : Int32) (X' : fx_X) : Prop := ∃ n : Nat, gxE_221 (gxF_221 n) X v X'
theorem gxL_221 {tb : aj_T} : ∀ N : Nat, (∀ (lv : aj_V) (y1 : Int32) (y2 : Int32) (y3 : Int32) (X : fx_X), aj_lv lv 0 = some (.ref 117) → aj_lv lv 1 = some (.int y1) → aj_lv lv 2 = some (.int y2) → aj_lv lv 3 = some (.int y3) → fx_W tb aj_m221 N 55 lv [] X (fx_Q fx_qI (fun v X' => ∃ n : Nat, gxF_221 n 55 [y1, y2, y3] [] [] X v X'))) := by
  intro N
  induction N with
  | zero => exact (by intros; exact fx_z)
  | succ N ih =>
    skip
    · intro lv y1 y2 y3 X hlv_0 hlv_1 hlv_2 hlv_3
      refine fx_mono (Q := fx_Q fx_qI (fun v X' => ∃ n : Nat, gxT_221_55 (gxF_221 n) y1 y2 y3 X v X')) (fun r X' ⟨v, e, n, z⟩ => ⟨v, e, n + 1, gxI_221_55 z⟩) ?_
      unfold gxT_221_55
      refine fx_i0 aj_d221 rfl (Nat.le_refl _) (fun _ => rfl) hlv_3 ?_
      refine fx_i2 aj_d221 rfl (Nat.le_succ _) (fun _ => rfl) hlv_0 ?_
      refine fx_gI aj_d221 rfl (Nat.le_succ _) rfl rfl (Or.inl rfl) ?_
      refine fx_b (tgt := 84) aj_d221 rfl (Nat.le_succ _) rfl (fun q23 => ?_) (fun q23 => ?_)
      · skip
        refine fx_qe (c := (y3).toInt < ((X.1 117 28)).toInt) (fx_t_ge q23) ?_
        show fx_W _ _ _ 84 lv [] _ _
        refine fx_i2 aj_d221 rfl (Nat.le_succ _) (fun _ => rfl) hlv_0 ?_
        refine fx_i0 aj_d221 rfl (Nat.le_succ _) (fun _ => rfl) hlv_1 ?_
        refine fx_i0 aj_d221 rfl (Nat.le_succ _) (fun _ => rfl) hlv_2 ?_
        refine fx_n (pc' := 88) (lv' := lv) (st' := [.int (y1 * y2), .ref 117]) aj_d221 rfl (Nat.le_succ _) (fun _ => rfl) ?_
        refine fx_pI aj_d221 rfl (Nat.le_succ _) rfl rfl (Or.inl rfl) fx_no_11_35 (by decide) ?_
        refine fx_qX (fun X24 eX24 => ?_)
        show fx_W _ _ _ 91 lv [] _ _
        refine fx_i2 aj_d221 rfl (Nat.le_succ _) (fun _ => rfl) hlv_0 ?_
        refine fx_cv aj_d221 rfl (Nat.le_succ _) rfl [] rfl rfl (gx_214_ok) ?_
        rintro _ X25 ⟨w26, rfl, hR25⟩ hok25 hle25
        refine fx_qc hR25 ?_
        show fx_W _ _ _ 95 lv [.int w26] _ _
        exact fx_ri aj_d221 rfl ⟨_, rfl, 0, rfl, rfl⟩
      · skip
        refine fx_qi (c := (y3).toInt < ((X.1 117 28)).toInt) (fx_f_ge q23) ?_
        show fx_W _ _ _ 63 lv [] _ _
        refine fx_n (pc' := 65) (lv' := lv) (st' := [.int ((Int8.ofInt 10).toInt32)]) aj_d221 rfl (Nat.le_succ _) (fun _ => rfl) ?_
        refine fx_i0 aj_d221 rfl (Nat.le_succ _) (fun _ => rfl) hlv_2 ?_
        refine fx_n (pc' := 67) (lv' := lv) (st' := [.int (((Int8.ofInt 10).toInt32) * y2)]) aj_d221 rfl (Nat.le_succ _) (fun _ => rfl) ?_
        refine fx_i2 aj_d221 rfl (Nat.le_succ _) (fun _ => rfl) hlv_0 ?_
        refine fx_gF aj_d221 rfl (Nat.le_succ _) rfl rfl fx_in_11_22 (t := 138) rfl (fun hA27 => ?_)
        refine fx_i0 aj_d221 rfl (Nat.le_succ _) (fun _ => rfl) hlv_3 ?_
        refine fx_ld aj_d221 (Or.inr (Or.inr rfl)) rfl (Nat.le_succ _) (fun g280 g281 => ?_)
        show fx_W _ _ _ 73 lv [.int (X.1 138 (y3).toInt.toNat), .int (((Int8.ofInt 10).toInt32) * y2)] _ _
        refine fx_qa (c := 0 ≤ (y3).toInt ∧ (y3).toInt < ((4000 : Nat) : Int)) ⟨g280, fx_lnk g281 hA27⟩ ?_
        refine fx_n (pc' := 74) (lv' := lv) (st' := [.int ((((Int8.ofInt 10).toInt32) * y2) + (X.1 138 (y3).toInt.toNat))]) aj_d221 rfl (Nat.le_succ _) (fun _ => rfl) ?_
        refine fx_n (pc' := 76) (lv' := lv) (st' := [.int ((Int8.ofInt 48).toInt32), .int ((((Int8.ofInt 10).toInt32) * y2) + (X.1 138 (y3).toInt.toNat))]) aj_d221 rfl (Nat.le_succ _) (fun _ => rfl) ?_
        refine fx_n (pc' := 77) (lv' := lv) (st' := [.int (((((Int8.ofInt 10).toInt32) * y2) + (X.1 138 (y3).toInt.toNat)) - ((Int8.ofInt 48).toInt32))]) aj_d221 rfl (Nat.le_succ _) (fun _ => rfl) ?_
        refine fx_qxI (fun x29 ex29 => ?_)
        refine fx_s0 (j := 2) aj_d221 rfl (Nat.le_succ _) (by decide) (fun _ => rfl) ?_
        obtain ⟨lv30, elv30⟩ : ∃ l, l = aj_set1 lv 2 (.int x29) := ⟨_, rfl⟩
        rw [← elv30]
        have hlv30_0 : aj_lv lv30 0 = some (.ref 117) := fx_e1 elv30 hlv_0 (by decide) (Or.inl (by decide))
        have hlv30_1 : aj_lv lv30 1 = some (.int y1) := fx_e1 elv30 hlv_1 (by decide) (Or.inr rfl)
        have hlv30_3 : aj_lv lv30 3 = some (.int y3) := fx_e1 elv30 hlv_3 (by decide) (Or.inl (by decide))
        have hlv30_2 : aj_lv lv30 2 = some (.int x29) := by rw [elv30]; exact ak_set1_eq _ _ _
        show fx_W _ _ _ 78 lv30 [] _ _
        refine fx_incq aj_d221 rfl (Nat.le_succ _) hlv30_3 (by decide) (fun x31 ex31 => ?_)
        obtain ⟨lv32, elv32⟩ : ∃ l, l = aj_set1 lv30 3 (.int x31) := ⟨_, rfl⟩
        rw [← elv32]
        have hlv32_0 : aj_lv lv32 0 = some (.ref 117) := fx_e1 elv32 hlv30_0 (by decide) (Or.inl (by decide))
        have hlv32_1 : aj_lv lv32 1 = some (.int y1) := fx_e1 elv32 hlv30_1 (by decide) (Or.inl (by decide))
        have hlv32_2 : aj_lv lv32 2 = some (.int x29) := fx_e1 elv32 hlv30_2 (by decide) (Or.inr rfl)
        have hlv32_3 : aj_lv lv32 3 = some (.int x31) := by rw [elv32]; exact ak_set1_eq _ _ _
        show fx_W _ _ _ 81 lv32 [] _ _
        refine fx_n (pc' := 55) (lv' := lv32) (st' := []) aj_d221 rfl (Nat.le_succ _) (fun _ => rfl) ?_
        exact (ih) lv32 (y1) (x29) (x31) X  hlv32_0 hlv32_1 hlv32_2 hlv32_3
theorem gx_221_ok {tb : aj_T} {X : fx_X} : fx_K tb 221 [.ref 117] X (fx_Q fx_qI (fun v X' => gx_221 X v X')) := by
  refine fx_m aj_m221_at rfl (fun N => ?_)
  refine fx_mono (Q := fx_Q fx_qI (fun v X' => ∃ n : Nat, gxE_221 (gxF_221 n) X v X')) (fun r X' h => h) ?_
  unfold gxE_221
  show fx_W _ _ _ 0 [(0, .ref 117)] [] _ _
  obtain ⟨lv1, elv1⟩ : ∃ l : aj_V, l = [(0, .ref 117)] := ⟨_, rfl⟩
  rw [← elv1]
  have hlv1_0 : aj_lv lv1 0 = some (.ref 117) := by rw [elv1]; rfl
  refine fx_i2 aj_d221 rfl (Nat.le_succ _) (fun _ => rfl) hlv1_0 ?_
  refine fx_i2 aj_d221 rfl (Nat.le_succ _) (fun _ => rfl) hlv1_0 ?_
  refine fx_gI aj_d221 rfl (Nat.le_succ _) rfl rfl (Or.inl rfl) ?_
  refine fx_pI aj_d221 rfl (Nat.le_succ _) rfl rfl (Or.inl rfl) fx_no_11_36 (by decide) ?_
  refine fx_qX (fun X2 eX2 => ?_)
  show fx_W _ _ _ 8 lv1 [] _ _
  refine fx_n (pc' := 9) (lv' := lv1) (st' := [.int (Int32.ofInt 1)]) aj_d221 rfl (Nat.le_succ _) (fun _ => rfl) ?_
  refine fx_s0 (j := 1) aj_d221 rfl (Nat.le_succ _) (by decide) (fun _ => rfl) ?_
  obtain ⟨lv3, elv3⟩ : ∃ l, l = aj_set1 lv1 1 (.int (Int32.ofInt 1)) := ⟨_, rfl⟩
  rw [← elv3]
  have hlv3_0 : aj_lv lv3 0 = some (.ref 117) := fx_e1 elv3 hlv1_0 (by decide) (Or.inr rfl)
  have hlv3_1 : aj_lv lv3 1 = some (.int (Int32.ofInt 1)) := by rw [elv3]; exact ak_set1_eq _ _ _
  show fx_W _ _ _ 10 lv3 [] _ _
  refine fx_i2 aj_d221 rfl (Nat.le_succ _) (fun _ => rfl) hlv3_0 ?_
  refine fx_n (pc' := 13) (lv' := lv3) (st' := [.int ((Int8.ofInt 45).toInt32), .ref 117]) aj_d221 rfl (Nat.le_succ _) (fun _ => rfl) ?_
  refine fx_cv aj_d221 rfl (Nat.le_succ _) rfl [_] rfl rfl (gx_220_ok ((Int8.ofInt 45).toInt32)) ?_
  rintro _ X4 ⟨w5, rfl, hR4⟩ hok4 hle4
  refine fx_qc hR4 ?_
  show fx_W _ _ _ 16 lv3 [.int w5] _ _
  refine fx_b0 (tgt := 30) aj_d221 rfl (Nat.le_succ _) rfl (fun q6 => ?_) (fun q6 => ?_)
  · skip
    refine fx_qi (c := (w5).toInt = 0) (fx_t_eq q6) ?_
    show fx_W _ _ _ 30 lv3 [] _ _
    refine fx_i2 aj_d221 rfl (Nat.le_succ _) (fun _ => rfl) hlv3_0 ?_
    refine fx_gI aj_d221 rfl (Nat.le_succ _) rfl rfl (Or.inl rfl) ?_
    refine fx_n (pc' := 35) (lv' := lv3) (st' := [.int (Int32.ofInt 2), .int (X4.1 117 26)]) aj_d221 rfl (Nat.le_succ _) (fun _ => rfl) ?_
    refine fx_b (tgt := 48) aj_d221 rfl (Nat.le_succ _) rfl (fun q7 => ?_) (fun q7 => ?_)
    · skip
      refine fx_qi (c := ((X4.1 117 26)).toInt = 2) (fx_t_eq q7) ?_
      show fx_W _ _ _ 48 lv3 [] _ _
      refine fx_n (pc' := 49) (lv' := lv3) (st' := [.int (Int32.ofInt 0)]) aj_d221 rfl (Nat.le_succ _) (fun _ => rfl) ?_
      refine fx_s0 (j := 2) aj_d221 rfl (Nat.le_succ _) (by decide) (fun _ => rfl) ?_
      obtain ⟨lv8, elv8⟩ : ∃ l, l = aj_set1 lv3 2 (.int (Int32.ofInt 0)) := ⟨_, rfl⟩
      rw [← elv8]
      have hlv8_0 : aj_lv lv8 0 = some (.ref 117) := fx_e1 elv8 hlv3_0 (by decide) (Or.inl (by decide))
      have hlv8_1 : aj_lv lv8 1 = some (.int (Int32.ofInt 1)) := fx_e1 elv8 hlv3_1 (by decide) (Or.inr rfl)
      have hlv8_2 : aj_lv lv8 2 = some (.int (Int32.ofInt 0)) := by rw [elv8]; exact ak_set1_eq _ _ _
      show fx_W _ _ _ 50 lv8 [] _ _
      refine fx_i2 aj_d221 rfl (Nat.le_succ _) (fun _ => rfl) hlv8_0 ?_
      refine fx_gI aj_d221 rfl (Nat.le_succ _) rfl rfl (Or.inl rfl) ?_
      refine fx_qxI (fun x9 ex9 => ?_)
      refine fx_s0 (j := 3) aj_d221 rfl (Nat.le_succ _) (by decide) (fun _ => rfl) ?_
      obtain ⟨lv10, elv10⟩ : ∃ l, l = aj_set1 lv8 3 (.int x9) := ⟨_, rfl⟩
      rw [← elv10]
      have hlv10_0 : aj_lv lv10 0 = some (.ref 117) := fx_e1 elv10 hlv8_0 (by decide) (Or.inl (by decide))
      have hlv10_1 : aj_lv lv10 1 = some (.int (Int32.ofInt 1)) := fx_e1 elv10 hlv8_1 (by decide) (Or.inl (by decide))
      have hlv10_2 : aj_lv lv10 2 = some (.int (Int32.ofInt 0)) := fx_e1 elv10 hlv8_2 (by decide) (Or.inr rfl)
      have hlv10_3 : aj_lv lv10 3 = some (.int x9) := by rw [elv10]; exact ak_set1_eq _ _ _
      show fx_W _ _ _ 55 lv10 [] _ _
      exact ((gxL_221 N)) lv10 ((Int32.ofInt 1)) ((Int32.ofInt 0)) (x9) X4  hlv10_0 hlv10_1 hlv10_2 hlv10_3
    · skip
      refine fx_qe (c := ((X4.1 117 26)).toInt = 2) (fx_f_eq q7) ?_
      show fx_W _ _ _ 38 lv3 [] _ _
      refine fx_i2 aj_d221 rfl (Nat.le_succ _) (fun _ => rfl) hlv3_0 ?_
      refine fx_n (pc' := 40) (lv' := lv3) (st' := [.int (Int32.ofInt 1), .ref 117]) aj_d221 rfl (Nat.le_succ _) (fun _ => rfl) ?_
      refine fx_i2 aj_d221 rfl (Nat.le_succ _) (fun _ => rfl) hlv3_0 ?_
      refine fx_gI aj_d221 rfl (Nat.le_succ _) rfl rfl (Or.inl rfl) ?_
      refine fx_cv aj_d221 rfl (Nat.le_succ _) rfl [_, _] rfl rfl (gx_215_ok (Int32.ofInt 1) (X4.1 117 27)) ?_
      rintro _ X11 ⟨w12, rfl, hR11⟩ hok11 hle11
      refine fx_qc hR11 ?_
      show fx_W _ _ _ 47 lv3 [.int w12] _ _
      exact fx_ri aj_d221 rfl ⟨_, rfl, 0, rfl, rfl⟩
  · skip
    refine fx_qe (c := (w5).toInt = 0) (fx_f_eq q6) ?_
    show fx_W _ _ _ 19 lv3 [] _ _
    refine fx_n (pc' := 20) (lv' := lv3) (st' := [.int (Int32.ofInt (-1))]) aj_d221 rfl (Nat.le_succ _) (fun _ => rfl) ?_
    refine fx_s0 (j := 1) aj_d221 rfl (Nat.le_succ _) (by decide) (fun _ => rfl) ?_
    obtain ⟨lv13, elv13⟩ : ∃ l, l = aj_set1 lv3 1 (.int (Int32.ofInt (-1))) := ⟨_, rfl⟩
    rw [← elv13]
    have hlv13_0 : aj_lv lv13 0 = some (.ref 117) := fx_e1 elv13 hlv3_0 (by decide) (Or.inr rfl)
    have hlv13_1 : aj_lv lv13 1 = some (.int (Int32.ofInt (-1))) := by rw [elv13]; exact ak_set1_eq _ _ _
    show fx_W _ _ _ 21 lv13 [] _ _
    refine fx_i2 aj_d221 rfl (Nat.le_succ _) (fun _ => rfl) hlv13_0 ?_
    refine fx_cv aj_d221 rfl (Nat.le_succ _) rfl [] rfl rfl (gx_214_ok) ?_
    rintro _ X14 ⟨w15, rfl, hR14⟩ hok14 hle14
    refine fx_qc hR14 ?_
    show fx_W _ _ _ 25 lv13 [.int w15] _ _
    refine fx_b0 (tgt := 30) aj_d221 rfl (Nat.le_succ _) rfl (fun q16 => ?_) (fun q16 => ?_)
    · skip
      refine fx_qe (c := (w15).toInt = 0) (fx_t_ne q16) ?_
      show fx_W _ _ _ 30 lv13 [] _ _
      refine fx_i2 aj_d221 rfl (Nat.le_succ _) (fun _ => rfl) hlv13_0 ?_
      refine fx_gI aj_d221 rfl (Nat.le_succ _) rfl rfl (Or.inl rfl) ?_
      refine fx_n (pc' := 35) (lv' := lv13) (st' := [.int (Int32.ofInt 2), .int (X14.1 117 26)]) aj_d221 rfl (Nat.le_succ _) (fun _ => rfl) ?_
      refine fx_b (tgt := 48) aj_d221 rfl (Nat.le_succ _) rfl (fun q17 => ?_) (fun q17 => ?_)
      · skip
        refine fx_qi (c := ((X14.1 117 26)).toInt = 2) (fx_t_eq q17) ?_
        show fx_W _ _ _ 48 lv13 [] _ _
        refine fx_n (pc' := 49) (lv' := lv13) (st' := [.int (Int32.ofInt 0)]) aj_d221 rfl (Nat.le_succ _) (fun _ => rfl) ?_
        refine fx_s0 (j := 2) aj_d221 rfl (Nat.le_succ _) (by decide) (fun _ => rfl) ?_
        obtain ⟨lv18, elv18⟩ : ∃ l, l = aj_set1 lv13 2 (.int (Int32.ofInt 0)) := ⟨_, rfl⟩
        rw [← elv18]
        have hlv18_0 : aj_lv lv18 0 = some (.ref 117) := fx_e1 elv18 hlv13_0 (by decide) (Or.inl (by decide))
        have hlv18_1 : aj_lv lv18 1 = some (.int (Int32.ofInt (-1))) := fx_e1 elv18 hlv13_1 (by decide) (Or.inr rfl)
        have hlv18_2 : aj_lv lv18 2 = some (.int (Int32.ofInt 0)) := by rw [elv18]; exact ak_set1_eq _ _ _
        show fx_W _ _ _ 50 lv18 [] _ _
        refine fx_i2 aj_d221 rfl (Nat.le_succ _) (fun _ => rfl) hlv18_0 ?_
        refine fx_gI aj_d221 rfl (Nat.le_succ _) rfl rfl (Or.inl rfl) ?_
        refine fx_qxI (fun x19 ex19 => ?_)
        refine fx_s0 (j := 3) aj_d221 rfl (Nat.le_succ _) (by decide) (fun _ => rfl) ?_
        obtain ⟨lv20, elv20⟩ : ∃ l, l = aj_set1 lv18 3 (.int x19) := ⟨_, rfl⟩
        rw [← elv20]
        have hlv20_0 : aj_lv lv20 0 = some (.ref 117) := fx_e1 elv20 hlv18_0 (by decide) (Or.inl (by decide))
        have hlv20_1 : aj_lv lv20 1 = some (.int (Int32.ofInt (-1))) := fx_e1 elv20 hlv18_1 (by decide) (Or.inl (by decide))
        have hlv20_2 : aj_lv lv20 2 = some (.int (Int32.ofInt 0)) := fx_e1 elv20 hlv18_2 (by decide) (Or.inr rfl)
        have hlv20_3 : aj_lv lv20 3 = some (.int x19) := by rw [elv20]; exact ak_set1_eq _ _ _
        show fx_W _ _ _ 55 lv20 [] _ _
        exact ((gxL_221 N)) lv20 ((Int32.ofInt (-1))) ((Int32.ofInt 0)) (x19) X14  hlv20_0 hlv20_1 hlv20_2 hlv20_3
      · skip
        refine fx_qe (c := ((X14.1 117 26)).toInt = 2) (fx_f_eq q17) ?_
        show fx_W _ _ _ 38 lv13 [] _ _
        refine fx_i2 aj_d221 rfl (Nat.le_succ _) (fun _ => rfl) hlv13_0 ?_
        refine fx_n (pc' := 40) (lv' := lv13) (st' := [.int (Int32.ofInt 1), .ref 117]) aj_d221 rfl (Nat.le_succ _) (fun _ => rfl) ?_
        refine fx_i2 aj_d221 rfl (Nat.le_succ _) (fun _ => rfl) hlv13_0 ?_
        refine fx_gI aj_d221 rfl (Nat.le_succ _) rfl rfl (Or.inl rfl) ?_
        refine fx_cv aj_d221 rfl (Nat.le_succ _) rfl [_, _] rfl rfl (gx_215_ok (Int32.ofInt 1) (X14.1 117 27)) ?_
        rintro _ X21 ⟨w22, rfl, hR21⟩ hok21 hle21
        refine fx_qc hR21 ?_
        show fx_W _ _ _ 47 lv13 [.int w22] _ _
        exact fx_ri aj_d221 rfl ⟨_, rfl, 0, rfl, rfl⟩
    · skip
      refine fx_qi (c := (w15).toInt = 0) (fx_f_ne q16) ?_
      show fx_W _ _ _ 28 lv13 [] _ _
      refine fx_n (pc' := 29) (lv' := lv13) (st' := [.int (Int32.ofInt 0)]) aj_d221 rfl (Nat.le_succ _) (fun _ => rfl) ?_
      exact fx_ri aj_d221 rfl ⟨_, rfl, 0, rfl, rfl⟩
def gx_235 (X : fx_X) (v : Int32) (X' : fx_X) : Prop :=
  ∃ (w3 : Int32) (X2 : fx_X), gx_220 ((Int8.ofInt 63).toInt32) X w3 X2 ∧ (if (w3).toInt = 0 then (∃ X18 : fx_X, X18 = (fx_wI X2 117 38 (Int32.ofInt 0)) ∧ ∃ (w20 : Int32) (X19 : fx_X), gx_221 X18 w20 X19 ∧ (if (w20).toInt = 0 then (v = (Int32.ofInt 0) ∧ X' = X19) else (∃ X22 : fx_X, X22 = (fx_wI X19 117 39 (X19.1 117 35)) ∧ v = (Int32.ofInt 1) ∧ X' = X22))) else (∃ (w6 : Int32) (X5 : fx_X), gx_214 X2 w6 X5 ∧ (if (w6).toInt = 0 then (v = (Int32.ofInt 0) ∧ X' = X5) else (∃ (w9 : Int32) (X8 : fx_X), gx_216 X5 w9 X8 ∧ (if (w9).toInt = 0 then (v = (Int32.ofInt 0) ∧ X' = X8) else (∃ X11 : fx_X, X11 = (fx_wI X8 117 38 (Int32.ofInt 1)) ∧ ∃ (w13 : Int32) (X12 : fx_X), gx_217 (X11.1 117 37) (X11.2.1 117 33) X11 w13 X12 ∧ ∃ X14 : fx_X, X14 = (fx_wI X12 117 39 w13) ∧ (if ((X14.1 117 39)).toInt < 0 then (∃ (w17 : Unit) (X16 : fx_X), gx_218 (Int32.ofInt 4) (X14.1 117 34) X14 w17 X16 ∧ v = (Int32.ofInt 1) ∧ X' = X16) else (v = (Int32.ofInt 1) ∧ X' = X14))))))))
theorem gx_235_ok {tb : aj_T} {X : fx_X} : fx_K tb 235 [.ref 117] X (fx_Q fx_qI (fun v X' => gx_235 X v X')) := by
  refine fx_m aj_m235_at rfl (fun N => ?_)
  refine fx_mono (Q := fx_Q fx_qI (fun v X' => ∃ n : Nat, gx_235 X v X')) (fun r X' ⟨v, e, _, z⟩ => ⟨v, e, z⟩) ?_
  unfold gx_235
  show fx_W _ _ _ 0 [(0, .ref 117)] [] _ _
  obtain ⟨lv1, elv1⟩ : ∃ l : aj_V, l = [(0, .ref 117)] := ⟨_, rfl⟩
  rw [← elv1]
  have hlv1_0 : aj_lv lv1 0 = some (.ref 117) := by rw [elv1]; rfl
  refine fx_i2 aj_d235 rfl (Nat.le_succ _) (fun _ => rfl) hlv1_0 ?_
  refine fx_n (pc' := 3) (lv' := lv1) (st' := [.int ((Int8.ofInt 63).toInt32), .ref 117]) aj_d235 rfl (Nat.le_succ _) (fun _ => rfl) ?_
  refine fx_cv aj_d235 rfl (Nat.le_succ _) rfl [_] rfl rfl (gx_220_ok ((Int8.ofInt 63).toInt32)) ?_
  rintro _ X2 ⟨w3, rfl, hR2⟩ hok2 hle2
  refine fx_qc hR2 ?_
  show fx_W _ _ _ 6 lv1 [.int w3] _ _
  refine fx_b0 (tgt := 33) aj_d235 rfl (Nat.le_succ _) rfl (fun q4 => ?_) (fun q4 => ?_)
  · skip
    refine fx_qe (c := (w3).toInt = 0) (fx_t_ne q4) ?_
    show fx_W _ _ _ 33 lv1 [] _ _
    refine fx_i2 aj_d235 rfl (Nat.le_succ _) (fun _ => rfl) hlv1_0 ?_
    refine fx_cv aj_d235 rfl (Nat.le_succ _) rfl [] rfl rfl (gx_214_ok) ?_
    rintro _ X5 ⟨w6, rfl, hR5⟩ hok5 hle5
    refine fx_qc hR5 ?_
    show fx_W _ _ _ 37 lv1 [.int w6] _ _
    refine fx_b0 (tgt := 47) aj_d235 rfl (Nat.le_succ _) rfl (fun q7 => ?_) (fun q7 => ?_)
    · skip
      refine fx_qi (c := (w6).toInt = 0) (fx_t_eq q7) ?_
      show fx_W _ _ _ 47 lv1 [] _ _
      refine fx_n (pc' := 48) (lv' := lv1) (st' := [.int (Int32.ofInt 0)]) aj_d235 rfl (Nat.le_succ _) (fun _ => rfl) ?_
      exact fx_ri aj_d235 rfl ⟨_, rfl, 0, rfl, rfl⟩
    · skip
      refine fx_qe (c := (w6).toInt = 0) (fx_f_eq q7) ?_
      show fx_W _ _ _ 40 lv1 [] _ _
      refine fx_i2 aj_d235 rfl (Nat.le_succ _) (fun _ => rfl) hlv1_0 ?_
      refine fx_cv aj_d235 rfl (Nat.le_succ _) rfl [] rfl rfl (gx_216_ok) ?_
      rintro _ X8 ⟨w9, rfl, hR8⟩ hok8 hle8
      refine fx_qc hR8 ?_
      show fx_W _ _ _ 44 lv1 [.int w9] _ _
      refine fx_b0 (tgt := 49) aj_d235 rfl (Nat.le_succ _) rfl (fun q10 => ?_) (fun q10 => ?_)
      · skip
        refine fx_qe (c := (w9).toInt = 0) (fx_t_ne q10) ?_
        show fx_W _ _ _ 49 lv1 [] _ _
        refine fx_i2 aj_d235 rfl (Nat.le_succ _) (fun _ => rfl) hlv1_0 ?_
        refine fx_n (pc' := 51) (lv' := lv1) (st' := [.int (Int32.ofInt 1), .ref 117]) aj_d235 rfl (Nat.le_succ _) (fun _ => rfl) ?_
        refine fx_pI aj_d235 rfl (Nat.le_succ _) rfl rfl (Or.inl rfl) fx_no_11_38 (by decide) ?_
        refine fx_qX (fun X11 eX11 => ?_)
        show fx_W _ _ _ 54 lv1 [] _ _
        refine fx_i2 aj_d235 rfl (Nat.le_succ _) (fun _ => rfl) hlv1_0 ?_
        refine fx_i2 aj_d235 rfl (Nat.le_succ _) (fun _ => rfl) hlv1_0 ?_
        refine fx_i2 aj_d235 rfl (Nat.le_succ _) (fun _ => rfl) hlv1_0 ?_
        refine fx_gI aj_d235 rfl (Nat.le_succ _) rfl rfl (Or.inl rfl) ?_
        refine fx_i2 aj_d235 rfl (Nat.le_succ _) (fun _ => rfl) hlv1_0 ?_
        refine fx_gL aj_d235 rfl (Nat.le_succ _) rfl rfl rfl ?_
        refine fx_cv aj_d235 rfl (Nat.le_succ _) rfl [_, _] rfl rfl (gx_217_ok (X11.1 117 37) (X11.2.1 117 33)) ?_
        rintro _ X12 ⟨w13, rfl, hR12⟩ hok12 hle12
        refine fx_qc hR12 ?_
        show fx_W _ _ _ 67 lv1 [.int w13, .ref 117] _ _
        refine fx_pI aj_d235 rfl (Nat.le_succ _) rfl rfl (Or.inl rfl) fx_no_11_39 (by decide) ?_
        refine fx_qX (fun X14 eX14 => ?_)
        show fx_W _ _ _ 70 lv1 [] _ _
        refine fx_i2 aj_d235 rfl (Nat.le_succ _) (fun _ => rfl) hlv1_0 ?_
        refine fx_gI aj_d235 rfl (Nat.le_succ _) rfl rfl (Or.inl rfl) ?_
        refine fx_b0 (tgt := 86) aj_d235 rfl (Nat.le_succ _) rfl (fun q15 => ?_) (fun q15 => ?_)
        · skip
          refine fx_qe (c := ((X14.1 117 39)).toInt < 0) (fx_t_ge q15) ?_
          show fx_W _ _ _ 86 lv1 [] _ _
          refine fx_n (pc' := 87) (lv' := lv1) (st' := [.int (Int32.ofInt 1)]) aj_d235 rfl (Nat.le_succ _) (fun _ => rfl) ?_
          exact fx_ri aj_d235 rfl ⟨_, rfl, 0, rfl, rfl⟩
        · skip
          refine fx_qi (c := ((X14.1 117 39)).toInt < 0) (fx_f_ge q15) ?_
          show fx_W _ _ _ 77 lv1 [] _ _
          refine fx_i2 aj_d235 rfl (Nat.le_succ _) (fun _ => rfl) hlv1_0 ?_
          refine fx_n (pc' := 79) (lv' := lv1) (st' := [.int (Int32.ofInt 4), .ref 117]) aj_d235 rfl (Nat.le_succ _) (fun _ => rfl) ?_
          refine fx_i2 aj_d235 rfl (Nat.le_succ _) (fun _ => rfl) hlv1_0 ?_
          refine fx_gI aj_d235 rfl (Nat.le_succ _) rfl rfl (Or.inl rfl) ?_
          refine fx_cv aj_d235 rfl (Nat.le_succ _) rfl [_, _] rfl rfl (gx_218_ok (Int32.ofInt 4) (X14.1 117 34)) ?_
          rintro _ X16 ⟨w17, rfl, hR16⟩ hok16 hle16
          refine fx_qc hR16 ?_
          show fx_W _ _ _ 86 lv1 [] _ _
          refine fx_n (pc' := 87) (lv' := lv1) (st' := [.int (Int32.ofInt 1)]) aj_d235 rfl (Nat.le_succ _) (fun _ => rfl) ?_
          exact fx_ri aj_d235 rfl ⟨_, rfl, 0, rfl, rfl⟩
      · skip
        refine fx_qi (c := (w9).toInt = 0) (fx_f_ne q10) ?_
        show fx_W _ _ _ 47 lv1 [] _ _
        refine fx_n (pc' := 48) (lv' := lv1) (st' := [.int (Int32.ofInt 0)]) aj_d235 rfl (Nat.le_succ _) (fun _ => rfl) ?_
        exact fx_ri aj_d235 rfl ⟨_, rfl, 0, rfl, rfl⟩
  · skip
    refine fx_qi (c := (w3).toInt = 0) (fx_f_ne q4) ?_
    show fx_W _ _ _ 9 lv1 [] _ _
    refine fx_i2 aj_d235 rfl (Nat.le_succ _) (fun _ => rfl) hlv1_0 ?_
    refine fx_n (pc' := 11) (lv' := lv1) (st' := [.int (Int32.ofInt 0), .ref 117]) aj_d235 rfl (Nat.le_succ _) (fun _ => rfl) ?_
    refine fx_pI aj_d235 rfl (Nat.le_succ _) rfl rfl (Or.inl rfl) fx_no_11_38 (by decide) ?_
    refine fx_qX (fun X18 eX18 => ?_)
    show fx_W _ _ _ 14 lv1 [] _ _
    refine fx_i2 aj_d235 rfl (Nat.le_succ _) (fun _ => rfl) hlv1_0 ?_
    refine fx_cv aj_d235 rfl (Nat.le_succ _) rfl [] rfl rfl (gx_221_ok) ?_
    rintro _ X19 ⟨w20, rfl, hR19⟩ hok19 hle19
    refine fx_qc hR19 ?_
    show fx_W _ _ _ 18 lv1 [.int w20] _ _
    refine fx_b0 (tgt := 23) aj_d235 rfl (Nat.le_succ _) rfl (fun q21 => ?_) (fun q21 => ?_)
    · skip
      refine fx_qe (c := (w20).toInt = 0) (fx_t_ne q21) ?_
      show fx_W _ _ _ 23 lv1 [] _ _
      refine fx_i2 aj_d235 rfl (Nat.le_succ _) (fun _ => rfl) hlv1_0 ?_
      refine fx_i2 aj_d235 rfl (Nat.le_succ _) (fun _ => rfl) hlv1_0 ?_
      refine fx_gI aj_d235 rfl (Nat.le_succ _) rfl rfl (Or.inl rfl) ?_
      refine fx_pI aj_d235 rfl (Nat.le_succ _) rfl rfl (Or.inl rfl) fx_no_11_39 (by decide) ?_
      refine fx_qX (fun X22 eX22 => ?_)
      show fx_W _ _ _ 31 lv1 [] _ _
      refine fx_n (pc' := 32) (lv' := lv1) (st' := [.int (Int32.ofInt 1)]) aj_d235 rfl (Nat.le_succ _) (fun _ => rfl) ?_
      exact fx_ri aj_d235 rfl ⟨_, rfl, 0, rfl, rfl⟩
    · skip
      refine fx_qi (c := (w20).toInt = 0) (fx_f_ne q21) ?_
      show fx_W _ _ _ 21 lv1 [] _ _
      refine fx_n (pc' := 22) (lv' := lv1) (st' := [.int (Int32.ofInt 0)]) aj_d235 rfl (Nat.le_succ _) (fun _ => rfl) ?_
      exact fx_ri aj_d235 rfl ⟨_, rfl, 0, rfl, rfl⟩
def gx_255 (p1 : Int32) (X : fx_X) (v : Int32) (X' : fx_X) : Prop :=
  (if ((X.1 117 26)).toInt = 1 then (∃ (w49 : Int32) (X48 : fx_X), gx_216 X w49 X48 ∧ (if (w49).toInt = 0 then (v = (Int32.ofInt 0) ∧ X' = X48) else (∃ X51 : fx_X, X51 = (fx_wI X48 117 52 (Int32.ofInt 2)) ∧ ∃ (w53 : Int32) (X52 : fx_X), gx_256 p1 X51 w53 X52 ∧ ∃ X54 : fx_X, X54 = (fx_wI X52 117 53 w53) ∧ (if ((X54.1 117 54)).toInt = 0 then ((if ((X54.1 117 53)).toInt < 0 then (∃ X59 : fx_X, X59 = (fx_wI X54 117 54 (Int32.ofInt 1)) ∧ v = (Int32.ofInt 1) ∧ X' = X59) else (∃ X58 : fx_X, X58 = (fx_wI X54 117 54 (Int32.ofInt 0)) ∧ v = (Int32.ofInt 1) ∧ X' = X58))) else (∃ X56 : fx_X, X56 = (fx_wI X54 117 54 (Int32.ofInt 1)) ∧ v = (Int32.ofInt 1) ∧ X' = X56))))) else ((if ((X.1 117 26)).toInt = 2 then (∃ (w5 : Int32) (X4 : fx_X), gx_235 X w5 X4 ∧ (if (w5).toInt = 0 then (v = (Int32.ofInt 0) ∧ X' = X4) else (∃ X7 : fx_X, X7 = (fx_wI X4 117 52 (X4.1 117 38)) ∧ ∃ X8 : fx_X, X8 = (fx_wI X7 117 53 (X7.1 117 39)) ∧ (if ((X8.1 117 54)).toInt = 0 then ((if ((X8.1 117 38)).toInt = 1 then ((if ((X8.1 117 39)).toInt < 0 then (∃ X15 : fx_X, X15 = (fx_wI X8 117 54 (Int32.ofInt 1)) ∧ v = (Int32.ofInt 1) ∧ X' = X15) else (∃ X14 : fx_X, X14 = (fx_wI X8 117 54 (Int32.ofInt 0)) ∧ v = (Int32.ofInt 1) ∧ X' = X14))) else (∃ X12 : fx_X, X12 = (fx_wI X8 117 54 (Int32.ofInt 0)) ∧ v = (Int32.ofInt 1) ∧ X' = X12))) else (∃ X10 : fx_X, X10 = (fx_wI X8 117 54 (Int32.ofInt 1)) ∧ v = (Int32.ofInt 1) ∧ X' = X10))))) else (∃ (w17 : Int32) (X16 : fx_X), gx_220 ((Int8.ofInt 45).toInt32) X w17 X16 ∧ (if (w17).toInt = 0 then (∃ (w32 : Int32) (X31 : fx_X), gx_220 ((Int8.ofInt 63).toInt32) X16 w32 X31 ∧ (if (w32).toInt = 0 then (∃ (w47 : Int32) (X46 : fx_X), gx_215 (Int32.ofInt 1) (X31.1 117 27) X31 w47 X46 ∧ v = w47 ∧ X' = X46) else (∃ (w35 : Int32) (X34 : fx_X), gx_235 X31 w35 X34 ∧ (if (w35).toInt = 0 then (v = (Int32.ofInt 0) ∧ X' = X34) else (∃ X37 : fx_X, X37 = (fx_wI X34 117 52 (X34.1 117 38)) ∧ ∃ X38 : fx_X, X38 = (fx_wI X37 117 53 (X37.1 117 39)) ∧ (if ((X38.1 117 54)).toInt = 0 then ((if ((X38.1 117 38)).toInt = 1 then ((if ((X38.1 117 39)).toInt < 0 then (∃ X45 : fx_X, X45 = (fx_wI X38 117 54 (Int32.ofInt 1)) ∧ v = (Int32.ofInt 1) ∧ X' = X45) else (∃ X44 : fx_X, X44 = (fx_wI X38 117 54 (Int32.ofInt 0)) ∧ v = (Int32.ofInt 1) ∧ X' = X44))) else (∃ X42 : fx_X, X42 = (fx_wI X38 117 54 (Int32.ofInt 0)) ∧ v = (Int32.ofInt 1) ∧ X' = X42))) else (∃ X40 : fx_X, X40 = (fx_wI X38 117 54 (Int32.ofInt 1)) ∧ v = (Int32.ofInt 1) ∧ X' = X40))))))) else (∃ (w20 : Int32) (X19 : fx_X), gx_235 X16 w20 X19 ∧ (if (w20).toInt = 0 then (v = (Int32.ofInt 0) ∧ X' = X19) else (∃ X22 : fx_X, X22 = (fx_wI X19 117 52 (X19.1 117 38)) ∧ ∃ X23 : fx_X, X23 = (fx_wI X22 117 53 (X22.1 117 39)) ∧ (if ((X23.1 117 54)).toInt = 0 then ((if ((X23.1 117 38)).toInt = 1 then ((if ((X23.1 117 39)).toInt < 0 then (∃ X30 : fx_X, X30 = (fx_wI X23 117 54 (Int32.ofInt 1)) ∧ v = (Int32.ofInt 1) ∧ X' = X30) else (∃ X29 : fx_X, X29 = (fx_wI X23 117 54 (Int32.ofInt 0)) ∧ v = (Int32.ofInt 1) ∧ X' = X29))) else (∃ X27 : fx_X, X27 = (fx_wI X23 117 54 (Int32.ofInt 0)) ∧ v = (Int32.ofInt 1) ∧ X' = X27))) else (∃ X25 : fx_X, X25 = (fx_wI X23 117 54 (Int32.ofInt 1)) ∧ v = (Int32.ofInt 1) ∧ X' = X25))))))))))
theorem gx_255_ok {tb : aj_T} (p1 : Int32) {X : fx_X} : fx_K tb 255 [.ref 117, .int p1] X (fx_Q fx_qI (fun v X' => gx_255 p1 X v X')) := by
  refine fx_m aj_m255_at rfl (fun N => ?_)
  refine fx_mono (Q := fx_Q fx_qI (fun v X' => ∃ n : Nat, gx_255 p1 X v X')) (fun r X' ⟨v, e, _, z⟩ => ⟨v, e, z⟩) ?_
  unfold gx_255
  show fx_W _ _ _ 0 [(0, .ref 117), (1, .int p1)] [] _ _
  obtain ⟨lv1, elv1⟩ : ∃ l : aj_V, l = [(0, .ref 117), (1, .int p1)] := ⟨_, rfl⟩
  rw [← elv1]
  have hlv1_0 : aj_lv lv1 0 = some (.ref 117) := by rw [elv1]; rfl
  have hlv1_1 : aj_lv lv1 1 = some (.int p1) := by rw [elv1]; rfl
  refine fx_i2 aj_d255 rfl (Nat.le_succ _) (fun _ => rfl) hlv1_0 ?_
  refine fx_gI aj_d255 rfl (Nat.le_succ _) rfl rfl (Or.inl rfl) ?_
  refine fx_n (pc' := 5) (lv' := lv1) (st' := [.int (Int32.ofInt 1), .int (X.1 117 26)]) aj_d255 rfl (Nat.le_succ _) (fun _ => rfl) ?_
  refine fx_b (tgt := 56) aj_d255 rfl (Nat.le_succ _) rfl (fun q2 => ?_) (fun q2 => ?_)
  · skip
    refine fx_qe (c := ((X.1 117 26)).toInt = 1) (fx_t_ne q2) ?_
    show fx_W _ _ _ 56 lv1 [] _ _
    refine fx_i2 aj_d255 rfl (Nat.le_succ _) (fun _ => rfl) hlv1_0 ?_
    refine fx_gI aj_d255 rfl (Nat.le_succ _) rfl rfl (Or.inl rfl) ?_
    refine fx_n (pc' := 61) (lv' := lv1) (st' := [.int (Int32.ofInt 2), .int (X.1 117 26)]) aj_d255 rfl (Nat.le_succ _) (fun _ => rfl) ?_
    refine fx_b (tgt := 92) aj_d255 rfl (Nat.le_succ _) rfl (fun q3 => ?_) (fun q3 => ?_)
    · skip
      refine fx_qi (c := ((X.1 117 26)).toInt = 2) (fx_t_eq q3) ?_
      show fx_W _ _ _ 92 lv1 [] _ _
      refine fx_i2 aj_d255 rfl (Nat.le_succ _) (fun _ => rfl) hlv1_0 ?_
      refine fx_cv aj_d255 rfl (Nat.le_succ _) rfl [] rfl rfl (gx_235_ok) ?_
      rintro _ X4 ⟨w5, rfl, hR4⟩ hok4 hle4
      refine fx_qc hR4 ?_
      show fx_W _ _ _ 96 lv1 [.int w5] _ _
      refine fx_b0 (tgt := 101) aj_d255 rfl (Nat.le_succ _) rfl (fun q6 => ?_) (fun q6 => ?_)
      · skip
        refine fx_qe (c := (w5).toInt = 0) (fx_t_ne q6) ?_
        show fx_W _ _ _ 101 lv1 [] _ _
        refine fx_i2 aj_d255 rfl (Nat.le_succ _) (fun _ => rfl) hlv1_0 ?_
        refine fx_i2 aj_d255 rfl (Nat.le_succ _) (fun _ => rfl) hlv1_0 ?_
        refine fx_gI aj_d255 rfl (Nat.le_succ _) rfl rfl (Or.inl rfl) ?_
        refine fx_pI aj_d255 rfl (Nat.le_succ _) rfl rfl (Or.inl rfl) fx_no_11_52 (by decide) ?_
        refine fx_qX (fun X7 eX7 => ?_)
        show fx_W _ _ _ 109 lv1 [] _ _
        refine fx_i2 aj_d255 rfl (Nat.le_succ _) (fun _ => rfl) hlv1_0 ?_
        refine fx_i2 aj_d255 rfl (Nat.le_succ _) (fun _ => rfl) hlv1_0 ?_
        refine fx_gI aj_d255 rfl (Nat.le_succ _) rfl rfl (Or.inl rfl) ?_
        refine fx_pI aj_d255 rfl (Nat.le_succ _) rfl rfl (Or.inl rfl) fx_no_11_53 (by decide) ?_
        refine fx_qX (fun X8 eX8 => ?_)
        show fx_W _ _ _ 117 lv1 [] _ _
        refine fx_i2 aj_d255 rfl (Nat.le_succ _) (fun _ => rfl) hlv1_0 ?_
        refine fx_i2 aj_d255 rfl (Nat.le_succ _) (fun _ => rfl) hlv1_0 ?_
        refine fx_gI aj_d255 rfl (Nat.le_succ _) rfl rfl (Or.inr (Or.inl rfl)) ?_
        refine fx_b0 (tgt := 140) aj_d255 rfl (Nat.le_succ _) rfl (fun q9 => ?_) (fun q9 => ?_)
        · skip
          refine fx_qe (c := ((X8.1 117 54)).toInt = 0) (fx_t_ne q9) ?_
          show fx_W _ _ _ 140 lv1 [.ref 117] _ _
          refine fx_n (pc' := 141) (lv' := lv1) (st' := [.int (Int32.ofInt 1), .ref 117]) aj_d255 rfl (Nat.le_succ _) (fun _ => rfl) ?_
          refine fx_n (pc' := 145) (lv' := lv1) (st' := [.int (Int32.ofInt 1), .ref 117]) aj_d255 rfl (Nat.le_succ _) (fun _ => rfl) ?_
          refine fx_pI aj_d255 rfl (Nat.le_succ _) rfl rfl (Or.inr (Or.inl rfl)) fx_no_11_54 (by decide) ?_
          refine fx_qX (fun X10 eX10 => ?_)
          show fx_W _ _ _ 148 lv1 [] _ _
          refine fx_n (pc' := 149) (lv' := lv1) (st' := [.int (Int32.ofInt 1)]) aj_d255 rfl (Nat.le_succ _) (fun _ => rfl) ?_
          exact fx_ri aj_d255 rfl ⟨_, rfl, 0, rfl, rfl⟩
        · skip
          refine fx_qi (c := ((X8.1 117 54)).toInt = 0) (fx_f_ne q9) ?_
          show fx_W _ _ _ 125 lv1 [.ref 117] _ _
          refine fx_i2 aj_d255 rfl (Nat.le_succ _) (fun _ => rfl) hlv1_0 ?_
          refine fx_gI aj_d255 rfl (Nat.le_succ _) rfl rfl (Or.inl rfl) ?_
          refine fx_n (pc' := 130) (lv' := lv1) (st' := [.int (Int32.ofInt 1), .int (X8.1 117 38), .ref 117]) aj_d255 rfl (Nat.le_succ _) (fun _ => rfl) ?_
          refine fx_b (tgt := 144) aj_d255 rfl (Nat.le_succ _) rfl (fun q11 => ?_) (fun q11 => ?_)
          · skip
            refine fx_qe (c := ((X8.1 117 38)).toInt = 1) (fx_t_ne q11) ?_
            show fx_W _ _ _ 144 lv1 [.ref 117] _ _
            refine fx_n (pc' := 145) (lv' := lv1) (st' := [.int (Int32.ofInt 0), .ref 117]) aj_d255 rfl (Nat.le_succ _) (fun _ => rfl) ?_
            refine fx_pI aj_d255 rfl (Nat.le_succ _) rfl rfl (Or.inr (Or.inl rfl)) fx_no_11_54 (by decide) ?_
            refine fx_qX (fun X12 eX12 => ?_)
            show fx_W _ _ _ 148 lv1 [] _ _
            refine fx_n (pc' := 149) (lv' := lv1) (st' := [.int (Int32.ofInt 1)]) aj_d255 rfl (Nat.le_succ _) (fun _ => rfl) ?_
            exact fx_ri aj_d255 rfl ⟨_, rfl, 0, rfl, rfl⟩
          · skip
            refine fx_qi (c := ((X8.1 117 38)).toInt = 1) (fx_f_ne q11) ?_
            show fx_W _ _ _ 133 lv1 [.ref 117] _ _
            refine fx_i2 aj_d255 rfl (Nat.le_succ _) (fun _ => rfl) hlv1_0 ?_
            refine fx_gI aj_d255 rfl (Nat.le_succ _) rfl rfl (Or.inl rfl) ?_
            refine fx_b0 (tgt := 144) aj_d255 rfl (Nat.le_succ _) rfl (fun q13 => ?_) (fun q13 => ?_)
            · skip
              refine fx_qe (c := ((X8.1 117 39)).toInt < 0) (fx_t_ge q13) ?_
              show fx_W _ _ _ 144 lv1 [.ref 117] _ _
              refine fx_n (pc' := 145) (lv' := lv1) (st' := [.int (Int32.ofInt 0), .ref 117]) aj_d255 rfl (Nat.le_succ _) (fun _ => rfl) ?_
              refine fx_pI aj_d255 rfl (Nat.le_succ _) rfl rfl (Or.inr (Or.inl rfl)) fx_no_11_54 (by decide) ?_
              refine fx_qX (fun X14 eX14 => ?_)
              show fx_W _ _ _ 148 lv1 [] _ _
              refine fx_n (pc' := 149) (lv' := lv1) (st' := [.int (Int32.ofInt 1)]) aj_d255 rfl (Nat.le_succ _) (fun _ => rfl) ?_
              exact fx_ri aj_d255 rfl ⟨_, rfl, 0, rfl, rfl⟩
            · skip
              refine fx_qi (c := ((X8.1 117 39)).toInt < 0) (fx_f_ge q13) ?_
              show fx_W _ _ _ 140 lv1 [.ref 117] _ _
              refine fx_n (pc' := 141) (lv' := lv1) (st' := [.int (Int32.ofInt 1), .ref 117]) aj_d255 rfl (Nat.le_succ _) (fun _ => rfl) ?_
              refine fx_n (pc' := 145) (lv' := lv1) (st' := [.int (Int32.ofInt 1), .ref 117]) aj_d255 rfl (Nat.le_succ _) (fun _ => rfl) ?_
              refine fx_pI aj_d255 rfl (Nat.le_succ _) rfl rfl (Or.inr (Or.inl rfl)) fx_no_11_54 (by decide) ?_
              refine fx_qX (fun X15 eX15 => ?_)
              show fx_W _ _ _ 148 lv1 [] _ _
              refine fx_n (pc' := 149) (lv' := lv1) (st' := [.int (Int32.ofInt 1)]) aj_d255 rfl (Nat.le_succ _) (fun _ => rfl) ?_
              exact fx_ri aj_d255 rfl ⟨_, rfl, 0, rfl, rfl⟩
      · skip
        refine fx_qi (c := (w5).toInt = 0) (fx_f_ne q6) ?_
        show fx_W _ _ _ 99 lv1 [] _ _
        refine fx_n (pc' := 100) (lv' := lv1) (st' := [.int (Int32.ofInt 0)]) aj_d255 rfl (Nat.le_succ _) (fun _ => rfl) ?_
        exact fx_ri aj_d255 rfl ⟨_, rfl, 0, rfl, rfl⟩
    · skip
      refine fx_qe (c := ((X.1 117 26)).toInt = 2) (fx_f_eq q3) ?_
      show fx_W _ _ _ 64 lv1 [] _ _
      refine fx_i2 aj_d255 rfl (Nat.le_succ _) (fun _ => rfl) hlv1_0 ?_
      refine fx_n (pc' := 67) (lv' := lv1) (st' := [.int ((Int8.ofInt 45).toInt32), .ref 117]) aj_d255 rfl (Nat.le_succ _) (fun _ => rfl) ?_
      refine fx_cv aj_d255 rfl (Nat.le_succ _) rfl [_] rfl rfl (gx_220_ok ((Int8.ofInt 45).toInt32)) ?_
      rintro _ X16 ⟨w17, rfl, hR16⟩ hok16 hle16
      refine fx_qc hR16 ?_
      show fx_W _ _ _ 70 lv1 [.int w17] _ _
      refine fx_b0 (tgt := 92) aj_d255 rfl (Nat.le_succ _) rfl (fun q18 => ?_) (fun q18 => ?_)
      · skip
        refine fx_qe (c := (w17).toInt = 0) (fx_t_ne q18) ?_
        show fx_W _ _ _ 92 lv1 [] _ _
        refine fx_i2 aj_d255 rfl (Nat.le_succ _) (fun _ => rfl) hlv1_0 ?_
        refine fx_cv aj_d255 rfl (Nat.le_succ _) rfl [] rfl rfl (gx_235_ok) ?_
        rintro _ X19 ⟨w20, rfl, hR19⟩ hok19 hle19
        refine fx_qc hR19 ?_
        show fx_W _ _ _ 96 lv1 [.int w20] _ _
        refine fx_b0 (tgt := 101) aj_d255 rfl (Nat.le_succ _) rfl (fun q21 => ?_) (fun q21 => ?_)
        · skip
          refine fx_qe (c := (w20).toInt = 0) (fx_t_ne q21) ?_
          show fx_W _ _ _ 101 lv1 [] _ _
          refine fx_i2 aj_d255 rfl (Nat.le_succ _) (fun _ => rfl) hlv1_0 ?_
          refine fx_i2 aj_d255 rfl (Nat.le_succ _) (fun _ => rfl) hlv1_0 ?_
          refine fx_gI aj_d255 rfl (Nat.le_succ _) rfl rfl (Or.inl rfl) ?_
          refine fx_pI aj_d255 rfl (Nat.le_succ _) rfl rfl (Or.inl rfl) fx_no_11_52 (by decide) ?_
          refine fx_qX (fun X22 eX22 => ?_)
          show fx_W _ _ _ 109 lv1 [] _ _
          refine fx_i2 aj_d255 rfl (Nat.le_succ _) (fun _ => rfl) hlv1_0 ?_
          refine fx_i2 aj_d255 rfl (Nat.le_succ _) (fun _ => rfl) hlv1_0 ?_
          refine fx_gI aj_d255 rfl (Nat.le_succ _) rfl rfl (Or.inl rfl) ?_
          refine fx_pI aj_d255 rfl (Nat.le_succ _) rfl rfl (Or.inl rfl) fx_no_11_53 (by decide) ?_
          refine fx_qX (fun X23 eX23 => ?_)
          show fx_W _ _ _ 117 lv1 [] _ _
          refine fx_i2 aj_d255 rfl (Nat.le_succ _) (fun _ => rfl) hlv1_0 ?_
          refine fx_i2 aj_d255 rfl (Nat.le_succ _) (fun _ => rfl) hlv1_0 ?_
          refine fx_gI aj_d255 rfl (Nat.le_succ _) rfl rfl (Or.inr (Or.inl rfl)) ?_
          refine fx_b0 (tgt := 140) aj_d255 rfl (Nat.le_succ _) rfl (fun q24 => ?_) (fun q24 => ?_)
          · skip
            refine fx_qe (c := ((X23.1 117 54)).toInt = 0) (fx_t_ne q24) ?_
            show fx_W _ _ _ 140 lv1 [.ref 117] _ _
            refine fx_n (pc' := 141) (lv' := lv1) (st' := [.int (Int32.ofInt 1), .ref 117]) aj_d255 rfl (Nat.le_succ _) (fun _ => rfl) ?_
            refine fx_n (pc' := 145) (lv' := lv1) (st' := [.int (Int32.ofInt 1), .ref 117]) aj_d255 rfl (Nat.le_succ _) (fun _ => rfl) ?_
            refine fx_pI aj_d255 rfl (Nat.le_succ _) rfl rfl (Or.inr (Or.inl rfl)) fx_no_11_54 (by decide) ?_
            refine fx_qX (fun X25 eX25 => ?_)
            show fx_W _ _ _ 148 lv1 [] _ _
            refine fx_n (pc' := 149) (lv' := lv1) (st' := [.int (Int32.ofInt 1)]) aj_d255 rfl (Nat.le_succ _) (fun _ => rfl) ?_
            exact fx_ri aj_d255 rfl ⟨_, rfl, 0, rfl, rfl⟩
          · skip
            refine fx_qi (c := ((X23.1 117 54)).toInt = 0) (fx_f_ne q24) ?_
            show fx_W _ _ _ 125 lv1 [.ref 117] _ _
            refine fx_i2 aj_d255 rfl (Nat.le_succ _) (fun _ => rfl) hlv1_0 ?_
            refine fx_gI aj_d255 rfl (Nat.le_succ _) rfl rfl (Or.inl rfl) ?_
            refine fx_n (pc' := 130) (lv' := lv1) (st' := [.int (Int32.ofInt 1), .int (X23.1 117 38), .ref 117]) aj_d255 rfl (Nat.le_succ _) (fun _ => rfl) ?_
            refine fx_b (tgt := 144) aj_d255 rfl (Nat.le_succ _) rfl (fun q26 => ?_) (fun q26 => ?_)
            · skip
              refine fx_qe (c := ((X23.1 117 38)).toInt = 1) (fx_t_ne q26) ?_
              show fx_W _ _ _ 144 lv1 [.ref 117] _ _
              refine fx_n (pc' := 145) (lv' := lv1) (st' := [.int (Int32.ofInt 0), .ref 117]) aj_d255 rfl (Nat.le_succ _) (fun _ => rfl) ?_
              refine fx_pI aj_d255 rfl (Nat.le_succ _) rfl rfl (Or.inr (Or.inl rfl)) fx_no_11_54 (by decide) ?_
              refine fx_qX (fun X27 eX27 => ?_)
              show fx_W _ _ _ 148 lv1 [] _ _
              refine fx_n (pc' := 149) (lv' := lv1) (st' := [.int (Int32.ofInt 1)]) aj_d255 rfl (Nat.le_succ _) (fun _ => rfl) ?_
              exact fx_ri aj_d255 rfl ⟨_, rfl, 0, rfl, rfl⟩
            · skip
              refine fx_qi (c := ((X23.1 117 38)).toInt = 1) (fx_f_ne q26) ?_
              show fx_W _ _ _ 133 lv1 [.ref 117] _ _
              refine fx_i2 aj_d255 rfl (Nat.le_succ _) (fun _ => rfl) hlv1_0 ?_
              refine fx_gI aj_d255 rfl (Nat.le_succ _) rfl rfl (Or.inl rfl) ?_
              refine fx_b0 (tgt := 144) aj_d255 rfl (Nat.le_succ _) rfl (fun q28 => ?_) (fun q28 => ?_)
              · skip
                refine fx_qe (c := ((X23.1 117 39)).toInt < 0) (fx_t_ge q28) ?_
                show fx_W _ _ _ 144 lv1 [.ref 117] _ _
                refine fx_n (pc' := 145) (lv' := lv1) (st' := [.int (Int32.ofInt 0), .ref 117]) aj_d255 rfl (Nat.le_succ _) (fun _ => rfl) ?_
                refine fx_pI aj_d255 rfl (Nat.le_succ _) rfl rfl (Or.inr (Or.inl rfl)) fx_no_11_54 (by decide) ?_
                refine fx_qX (fun X29 eX29 => ?_)
                show fx_W _ _ _ 148 lv1 [] _ _
                refine fx_n (pc' := 149) (lv' := lv1) (st' := [.int (Int32.ofInt 1)]) aj_d255 rfl (Nat.le_succ _) (fun _ => rfl) ?_
                exact fx_ri aj_d255 rfl ⟨_, rfl, 0, rfl, rfl⟩
              · skip
                refine fx_qi (c := ((X23.1 117 39)).toInt < 0) (fx_f_ge q28) ?_
                show fx_W _ _ _ 140 lv1 [.ref 117] _ _
                refine fx_n (pc' := 141) (lv' := lv1) (st' := [.int (Int32.ofInt 1), .ref 117]) aj_d255 rfl (Nat.le_succ _) (fun _ => rfl) ?_
                refine fx_n (pc' := 145) (lv' := lv1) (st' := [.int (Int32.ofInt 1), .ref 117]) aj_d255 rfl (Nat.le_succ _) (fun _ => rfl) ?_
                refine fx_pI aj_d255 rfl (Nat.le_succ _) rfl rfl (Or.inr (Or.inl rfl)) fx_no_11_54 (by decide) ?_
                refine fx_qX (fun X30 eX30 => ?_)
                show fx_W _ _ _ 148 lv1 [] _ _
                refine fx_n (pc' := 149) (lv' := lv1) (st' := [.int (Int32.ofInt 1)]) aj_d255 rfl (Nat.le_succ _) (fun _ => rfl) ?_
                exact fx_ri aj_d255 rfl ⟨_, rfl, 0, rfl, rfl⟩
        · skip
          refine fx_qi (c := (w20).toInt = 0) (fx_f_ne q21) ?_
          show fx_W _ _ _ 99 lv1 [] _ _
          refine fx_n (pc' := 100) (lv' := lv1) (st' := [.int (Int32.ofInt 0)]) aj_d255 rfl (Nat.le_succ _) (fun _ => rfl) ?_
          exact fx_ri aj_d255 rfl ⟨_, rfl, 0, rfl, rfl⟩
      · skip
        refine fx_qi (c := (w17).toInt = 0) (fx_f_ne q18) ?_
        show fx_W _ _ _ 73 lv1 [] _ _
        refine fx_i2 aj_d255 rfl (Nat.le_succ _) (fun _ => rfl) hlv1_0 ?_
        refine fx_n (pc' := 76) (lv' := lv1) (st' := [.int ((Int8.ofInt 63).toInt32), .ref 117]) aj_d255 rfl (Nat.le_succ _) (fun _ => rfl) ?_
        refine fx_cv aj_d255 rfl (Nat.le_succ _) rfl [_] rfl rfl (gx_220_ok ((Int8.ofInt 63).toInt32)) ?_
        rintro _ X31 ⟨w32, rfl, hR31⟩ hok31 hle31
        refine fx_qc hR31 ?_
        show fx_W _ _ _ 79 lv1 [.int w32] _ _
        refine fx_b0 (tgt := 92) aj_d255 rfl (Nat.le_succ _) rfl (fun q33 => ?_) (fun q33 => ?_)
        · skip
          refine fx_qe (c := (w32).toInt = 0) (fx_t_ne q33) ?_
          show fx_W _ _ _ 92 lv1 [] _ _
          refine fx_i2 aj_d255 rfl (Nat.le_succ _) (fun _ => rfl) hlv1_0 ?_
          refine fx_cv aj_d255 rfl (Nat.le_succ _) rfl [] rfl rfl (gx_235_ok) ?_
          rintro _ X34 ⟨w35, rfl, hR34⟩ hok34 hle34
          refine fx_qc hR34 ?_
          show fx_W _ _ _ 96 lv1 [.int w35] _ _
          refine fx_b0 (tgt := 101) aj_d255 rfl (Nat.le_succ _) rfl (fun q36 => ?_) (fun q36 => ?_)
          · skip
            refine fx_qe (c := (w35).toInt = 0) (fx_t_ne q36) ?_
            show fx_W _ _ _ 101 lv1 [] _ _
            refine fx_i2 aj_d255 rfl (Nat.le_succ _) (fun _ => rfl) hlv1_0 ?_
            refine fx_i2 aj_d255 rfl (Nat.le_succ _) (fun _ => rfl) hlv1_0 ?_
            refine fx_gI aj_d255 rfl (Nat.le_succ _) rfl rfl (Or.inl rfl) ?_
            refine fx_pI aj_d255 rfl (Nat.le_succ _) rfl rfl (Or.inl rfl) fx_no_11_52 (by decide) ?_
            refine fx_qX (fun X37 eX37 => ?_)
            show fx_W _ _ _ 109 lv1 [] _ _
            refine fx_i2 aj_d255 rfl (Nat.le_succ _) (fun _ => rfl) hlv1_0 ?_
            refine fx_i2 aj_d255 rfl (Nat.le_succ _) (fun _ => rfl) hlv1_0 ?_
            refine fx_gI aj_d255 rfl (Nat.le_succ _) rfl rfl (Or.inl rfl) ?_
            refine fx_pI aj_d255 rfl (Nat.le_succ _) rfl rfl (Or.inl rfl) fx_no_11_53 (by decide) ?_
            refine fx_qX (fun X38 eX38 => ?_)
            show fx_W _ _ _ 117 lv1 [] _ _
            refine fx_i2 aj_d255 rfl (Nat.le_succ _) (fun _ => rfl) hlv1_0 ?_
            refine fx_i2 aj_d255 rfl (Nat.le_succ _) (fun _ => rfl) hlv1_0 ?_
            refine fx_gI aj_d255 rfl (Nat.le_succ _) rfl rfl (Or.inr (Or.inl rfl)) ?_
            refine fx_b0 (tgt := 140) aj_d255 rfl (Nat.le_succ _) rfl (fun q39 => ?_) (fun q39 => ?_)
            · skip
              refine fx_qe (c := ((X38.1 117 54)).toInt = 0) (fx_t_ne q39) ?_
              show fx_W _ _ _ 140 lv1 [.ref 117] _ _
              refine fx_n (pc' := 141) (lv' := lv1) (st' := [.int (Int32.ofInt 1), .ref 117]) aj_d255 rfl (Nat.le_succ _) (fun _ => rfl) ?_
              refine fx_n (pc' := 145) (lv' := lv1) (st' := [.int (Int32.ofInt 1), .ref 117]) aj_d255 rfl (Nat.le_succ _) (fun _ => rfl) ?_
              refine fx_pI aj_d255 rfl (Nat.le_succ _) rfl rfl (Or.inr (Or.inl rfl)) fx_no_11_54 (by decide) ?_
              refine fx_qX (fun X40 eX40 => ?_)
              show fx_W _ _ _ 148 lv1 [] _ _
              refine fx_n (pc' := 149) (lv' := lv1) (st' := [.int (Int32.ofInt 1)]) aj_d255 rfl (Nat.le_succ _) (fun _ => rfl) ?_
              exact fx_ri aj_d255 rfl ⟨_, rfl, 0, rfl, rfl⟩
            · skip
              refine fx_qi (c := ((X38.1 117 54)).toInt = 0) (fx_f_ne q39) ?_
              show fx_W _ _ _ 125 lv1 [.ref 117] _ _
              refine fx_i2 aj_d255 rfl (Nat.le_succ _) (fun _ => rfl) hlv1_0 ?_
              refine fx_gI aj_d255 rfl (Nat.le_succ _) rfl rfl (Or.inl rfl) ?_
              refine fx_n (pc' := 130) (lv' := lv1) (st' := [.int (Int32.ofInt 1), .int (X38.1 117 38), .ref 117]) aj_d255 rfl (Nat.le_succ _) (fun _ => rfl) ?_
              refine fx_b (tgt := 144) aj_d255 rfl (Nat.le_succ _) rfl (fun q41 => ?_) (fun q41 => ?_)
              · skip
                refine fx_qe (c := ((X38.1 117 38)).toInt = 1) (fx_t_ne q41) ?_
                show fx_W _ _ _ 144 lv1 [.ref 117] _ _
                refine fx_n (pc' := 145) (lv' := lv1) (st' := [.int (Int32.ofInt 0), .ref 117]) aj_d255 rfl (Nat.le_succ _) (fun _ => rfl) ?_
                refine fx_pI aj_d255 rfl (Nat.le_succ _) rfl rfl (Or.inr (Or.inl rfl)) fx_no_11_54 (by decide) ?_
                refine fx_qX (fun X42 eX42 => ?_)
                show fx_W _ _ _ 148 lv1 [] _ _
                refine fx_n (pc' := 149) (lv' := lv1) (st' := [.int (Int32.ofInt 1)]) aj_d255 rfl (Nat.le_succ _) (fun _ => rfl) ?_
                exact fx_ri aj_d255 rfl ⟨_, rfl, 0, rfl, rfl⟩
              · skip
                refine fx_qi (c := ((X38.1 117 38)).toInt = 1) (fx_f_ne q41) ?_
                show fx_W _ _ _ 133 lv1 [.ref 117] _ _
                refine fx_i2 aj_d255 rfl (Nat.le_succ _) (fun _ => rfl) hlv1_0 ?_
                refine fx_gI aj_d255 rfl (Nat.le_succ _) rfl rfl (Or.inl rfl) ?_
                refine fx_b0 (tgt := 144) aj_d255 rfl (Nat.le_succ _) rfl (fun q43 => ?_) (fun q43 => ?_)
                · skip
                  refine fx_qe (c := ((X38.1 117 39)).toInt < 0) (fx_t_ge q43) ?_
                  show fx_W _ _ _ 144 lv1 [.ref 117] _ _
                  refine fx_n (pc' := 145) (lv' := lv1) (st' := [.int (Int32.ofInt 0), .ref 117]) aj_d255 rfl (Nat.le_succ _) (fun _ => rfl) ?_
                  refine fx_pI aj_d255 rfl (Nat.le_succ _) rfl rfl (Or.inr (Or.inl rfl)) fx_no_11_54 (by decide) ?_
                  refine fx_qX (fun X44 eX44 => ?_)
                  show fx_W _ _ _ 148 lv1 [] _ _
                  refine fx_n (pc' := 149) (lv' := lv1) (st' := [.int (Int32.ofInt 1)]) aj_d255 rfl (Nat.le_succ _) (fun _ => rfl) ?_
                  exact fx_ri aj_d255 rfl ⟨_, rfl, 0, rfl, rfl⟩
                · skip
                  refine fx_qi (c := ((X38.1 117 39)).toInt < 0) (fx_f_ge q43) ?_
                  show fx_W _ _ _ 140 lv1 [.ref 117] _ _
                  refine fx_n (pc' := 141) (lv' := lv1) (st' := [.int (Int32.ofInt 1), .ref 117]) aj_d255 rfl (Nat.le_succ _) (fun _ => rfl) ?_
                  refine fx_n (pc' := 145) (lv' := lv1) (st' := [.int (Int32.ofInt 1), .ref 117]) aj_d255 rfl (Nat.le_succ _) (fun _ => rfl) ?_
                  refine fx_pI aj_d255 rfl (Nat.le_succ _) rfl rfl (Or.inr (Or.inl rfl)) fx_no_11_54 (by decide) ?_
                  refine fx_qX (fun X45 eX45 => ?_)
                  show fx_W _ _ _ 148 lv1 [] _ _
                  refine fx_n (pc' := 149) (lv' := lv1) (st' := [.int (Int32.ofInt 1)]) aj_d255 rfl (Nat.le_succ _) (fun _ => rfl) ?_
                  exact fx_ri aj_d255 rfl ⟨_, rfl, 0, rfl, rfl⟩
          · skip
            refine fx_qi (c := (w35).toInt = 0) (fx_f_ne q36) ?_
            show fx_W _ _ _ 99 lv1 [] _ _
            refine fx_n (pc' := 100) (lv' := lv1) (st' := [.int (Int32.ofInt 0)]) aj_d255 rfl (Nat.le_succ _) (fun _ => rfl) ?_
            exact fx_ri aj_d255 rfl ⟨_, rfl, 0, rfl, rfl⟩
        · skip
          refine fx_qi (c := (w32).toInt = 0) (fx_f_ne q33) ?_
          show fx_W _ _ _ 82 lv1 [] _ _
          refine fx_i2 aj_d255 rfl (Nat.le_succ _) (fun _ => rfl) hlv1_0 ?_
          refine fx_n (pc' := 84) (lv' := lv1) (st' := [.int (Int32.ofInt 1), .ref 117]) aj_d255 rfl (Nat.le_succ _) (fun _ => rfl) ?_
          refine fx_i2 aj_d255 rfl (Nat.le_succ _) (fun _ => rfl) hlv1_0 ?_
          refine fx_gI aj_d255 rfl (Nat.le_succ _) rfl rfl (Or.inl rfl) ?_
          refine fx_cv aj_d255 rfl (Nat.le_succ _) rfl [_, _] rfl rfl (gx_215_ok (Int32.ofInt 1) (X31.1 117 27)) ?_
          rintro _ X46 ⟨w47, rfl, hR46⟩ hok46 hle46
          refine fx_qc hR46 ?_
          show fx_W _ _ _ 91 lv1 [.int w47] _ _
          exact fx_ri aj_d255 rfl ⟨_, rfl, 0, rfl, rfl⟩
  · skip
    refine fx_qi (c := ((X.1 117 26)).toInt = 1) (fx_f_ne q2) ?_
    show fx_W _ _ _ 8 lv1 [] _ _
    refine fx_i2 aj_d255 rfl (Nat.le_succ _) (fun _ => rfl) hlv1_0 ?_
    refine fx_cv aj_d255 rfl (Nat.le_succ _) rfl [] rfl rfl (gx_216_ok) ?_
    rintro _ X48 ⟨w49, rfl, hR48⟩ hok48 hle48
    refine fx_qc hR48 ?_
    show fx_W _ _ _ 12 lv1 [.int w49] _ _
    refine fx_b0 (tgt := 17) aj_d255 rfl (Nat.le_succ _) rfl (fun q50 => ?_) (fun q50 => ?_)
    · skip
      refine fx_qe (c := (w49).toInt = 0) (fx_t_ne q50) ?_
      show fx_W _ _ _ 17 lv1 [] _ _
      refine fx_i2 aj_d255 rfl (Nat.le_succ _) (fun _ => rfl) hlv1_0 ?_
      refine fx_n (pc' := 19) (lv' := lv1) (st' := [.int (Int32.ofInt 2), .ref 117]) aj_d255 rfl (Nat.le_succ _) (fun _ => rfl) ?_
      refine fx_pI aj_d255 rfl (Nat.le_succ _) rfl rfl (Or.inl rfl) fx_no_11_52 (by decide) ?_
      refine fx_qX (fun X51 eX51 => ?_)
      show fx_W _ _ _ 22 lv1 [] _ _
      refine fx_i2 aj_d255 rfl (Nat.le_succ _) (fun _ => rfl) hlv1_0 ?_
      refine fx_i2 aj_d255 rfl (Nat.le_succ _) (fun _ => rfl) hlv1_0 ?_
      refine fx_i0 aj_d255 rfl (Nat.le_succ _) (fun _ => rfl) hlv1_1 ?_
      refine fx_cv aj_d255 rfl (Nat.le_succ _) rfl [_] rfl rfl (gx_256_ok p1) ?_
      rintro _ X52 ⟨w53, rfl, hR52⟩ hok52 hle52
      refine fx_qc hR52 ?_
      show fx_W _ _ _ 28 lv1 [.int w53, .ref 117] _ _
      refine fx_pI aj_d255 rfl (Nat.le_succ _) rfl rfl (Or.inl rfl) fx_no_11_53 (by decide) ?_
      refine fx_qX (fun X54 eX54 => ?_)
      show fx_W _ _ _ 31 lv1 [] _ _
      refine fx_i2 aj_d255 rfl (Nat.le_succ _) (fun _ => rfl) hlv1_0 ?_
      refine fx_i2 aj_d255 rfl (Nat.le_succ _) (fun _ => rfl) hlv1_0 ?_
      refine fx_gI aj_d255 rfl (Nat.le_succ _) rfl rfl (Or.inr (Or.inl rfl)) ?_
      refine fx_b0 (tgt := 46) aj_d255 rfl (Nat.le_succ _) rfl (fun q55 => ?_) (fun q55 => ?_)
      · skip
        refine fx_qe (c := ((X54.1 117 54)).toInt = 0) (fx_t_ne q55) ?_
        show fx_W _ _ _ 46 lv1 [.ref 117] _ _
        refine fx_n (pc' := 47) (lv' := lv1) (st' := [.int (Int32.ofInt 1), .ref 117]) aj_d255 rfl (Nat.le_succ _) (fun _ => rfl) ?_
        refine fx_n (pc' := 51) (lv' := lv1) (st' := [.int (Int32.ofInt 1), .ref 117]) aj_d255 rfl (Nat.le_succ _) (fun _ => rfl) ?_
        refine fx_pI aj_d255 rfl (Nat.le_succ _) rfl rfl (Or.inr (Or.inl rfl)) fx_no_11_54 (by decide) ?_
        refine fx_qX (fun X56 eX56 => ?_)
        show fx_W _ _ _ 54 lv1 [] _ _
        refine fx_n (pc' := 55) (lv' := lv1) (st' := [.int (Int32.ofInt 1)]) aj_d255 rfl (Nat.le_succ _) (fun _ => rfl) ?_
        exact fx_ri aj_d255 rfl ⟨_, rfl, 0, rfl, rfl⟩
      · skip
        refine fx_qi (c := ((X54.1 117 54)).toInt = 0) (fx_f_ne q55) ?_
        show fx_W _ _ _ 39 lv1 [.ref 117] _ _
        refine fx_i2 aj_d255 rfl (Nat.le_succ _) (fun _ => rfl) hlv1_0 ?_
        refine fx_gI aj_d255 rfl (Nat.le_succ _) rfl rfl (Or.inl rfl) ?_
        refine fx_b0 (tgt := 50) aj_d255 rfl (Nat.le_succ _) rfl (fun q57 => ?_) (fun q57 => ?_)
        · skip
          refine fx_qe (c := ((X54.1 117 53)).toInt < 0) (fx_t_ge q57) ?_
          show fx_W _ _ _ 50 lv1 [.ref 117] _ _
          refine fx_n (pc' := 51) (lv' := lv1) (st' := [.int (Int32.ofInt 0), .ref 117]) aj_d255 rfl (Nat.le_succ _) (fun _ => rfl) ?_
          refine fx_pI aj_d255 rfl (Nat.le_succ _) rfl rfl (Or.inr (Or.inl rfl)) fx_no_11_54 (by decide) ?_
          refine fx_qX (fun X58 eX58 => ?_)
          show fx_W _ _ _ 54 lv1 [] _ _
          refine fx_n (pc' := 55) (lv' := lv1) (st' := [.int (Int32.ofInt 1)]) aj_d255 rfl (Nat.le_succ _) (fun _ => rfl) ?_
          exact fx_ri aj_d255 rfl ⟨_, rfl, 0, rfl, rfl⟩
        · skip
          refine fx_qi (c := ((X54.1 117 53)).toInt < 0) (fx_f_ge q57) ?_
          show fx_W _ _ _ 46 lv1 [.ref 117] _ _
          refine fx_n (pc' := 47) (lv' := lv1) (st' := [.int (Int32.ofInt 1), .ref 117]) aj_d255 rfl (Nat.le_succ _) (fun _ => rfl) ?_
          refine fx_n (pc' := 51) (lv' := lv1) (st' := [.int (Int32.ofInt 1), .ref 117]) aj_d255 rfl (Nat.le_succ _) (fun _ => rfl) ?_
          refine fx_pI aj_d255 rfl (Nat.le_succ _) rfl rfl (Or.inr (Or.inl rfl)) fx_no_11_54 (by decide) ?_
          refine fx_qX (fun X59 eX59 => ?_)
          show fx_W _ _ _ 54 lv1 [] _ _
          refine fx_n (pc' := 55) (lv' := lv1) (st' := [.int (Int32.ofInt 1)]) aj_d255 rfl (Nat.le_succ _) (fun _ => rfl) ?_
          exact fx_ri aj_d255 rfl ⟨_, rfl, 0, rfl, rfl⟩
    · skip
      refine fx_qi (c := (w49).toInt = 0) (fx_f_ne q50) ?_
      show fx_W _ _ _ 15 lv1 [] _ _
      refine fx_n (pc' := 16) (lv' := lv1) (st' := [.int (Int32.ofInt 0)]) aj_d255 rfl (Nat.le_succ _) (fun _ => rfl) ?_
      exact fx_ri aj_d255 rfl ⟨_, rfl, 0, rfl, rfl⟩
