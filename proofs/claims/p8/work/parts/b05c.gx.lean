/-! METHODS LIFTED (printed by wip/p7/gx.py, parts.py) -/
def gx_75 (p1 : Int32) (X : fx_X) (v : Unit) (X' : fx_X) : Prop :=
  ∃ (w3 : Int64) (X2 : fx_X), gx_60 p1 X w3 X2 ∧ ∃ (w6 : Int32) (X5 : fx_X), gx_74 ((X2.1 91 5) - (Int32.ofInt 1)) w3 X2 w6 X5 ∧ (if (w6).toInt < 0 then (∃ (w30 : Unit) (X29 : fx_X), gx_64 (Int32.ofInt 4) p1 X5 w30 X29 ∧ ∃ (w33 : Unit) (X32 : fx_X), gx_41 p1 w6 X29 w33 X32 ∧ X' = X32) else (∃ (w10 : Int32) (X9 : fx_X), gx_76 w3 X5 w10 X9 ∧ (if (w10).toInt = 0 then ((if ((X9.1 91 7)).toInt < 6 then ((0 ≤ ((X9.1 91 7)).toInt ∧ ((X9.1 91 7)).toInt < ((6 : Nat) : Int)) ∧ ∃ X19 : fx_X, X19 = (fx_wL X9 94 ((X9.1 91 7)).toInt.toNat w3) ∧ ∃ X20 : fx_X, X20 = (fx_wI X19 91 7 ((X19.1 91 7) + (Int32.ofInt 1))) ∧ ∃ (w23 : Unit) (X22 : fx_X), gx_41 p1 w6 X20 w23 X22 ∧ X' = X22) else (∃ (w16 : Unit) (X15 : fx_X), gx_41 p1 w6 X9 w16 X15 ∧ X' = X15))) else (∃ (w25 : Unit) (X24 : fx_X), gx_64 (Int32.ofInt 3) p1 X9 w25 X24 ∧ ∃ (w28 : Unit) (X27 : fx_X), gx_41 p1 w6 X24 w28 X27 ∧ X' = X27))))
theorem gx_75_ok {tb : aj_T} (p1 : Int32) {X : fx_X} : fx_K tb 75 [.ref 91, .int p1] X (fx_Q fx_qN (fun v X' => gx_75 p1 X v X')) := by
  refine fx_m aj_m75_at rfl (fun N => ?_)
  refine fx_mono (Q := fx_Q fx_qN (fun v X' => ∃ n : Nat, gx_75 p1 X v X')) (fun r X' ⟨v, e, _, z⟩ => ⟨v, e, z⟩) ?_
  unfold gx_75
  show fx_W _ _ _ 0 [(0, .ref 91), (1, .int p1)] [] _ _
  obtain ⟨lv1, elv1⟩ : ∃ l : aj_V, l = [(0, .ref 91), (1, .int p1)] := ⟨_, rfl⟩
  rw [← elv1]
  have hlv1_0 : aj_lv lv1 0 = some (.ref 91) := by rw [elv1]; rfl
  have hlv1_1 : aj_lv lv1 1 = some (.int p1) := by rw [elv1]; rfl
  refine fx_i2 aj_d75 rfl (Nat.le_succ _) (fun _ => rfl) hlv1_0 ?_
  refine fx_i0 aj_d75 rfl (Nat.le_succ _) (fun _ => rfl) hlv1_1 ?_
  refine fx_cv aj_d75 rfl (Nat.le_succ _) rfl [_] rfl rfl (gx_60_ok p1) ?_
  rintro _ X2 ⟨w3, rfl, hR2⟩ hok2 hle2
  refine fx_qc hR2 ?_
  show fx_W _ _ _ 5 lv1 [.long w3] _ _
  refine fx_s1 (j := 2) aj_d75 rfl (Nat.le_succ _) (by decide) (fun _ => rfl) ?_
  obtain ⟨lv4, elv4⟩ : ∃ l, l = aj_set2 lv1 2 (.long w3) := ⟨_, rfl⟩
  rw [← elv4]
  have hlv4_0 : aj_lv lv4 0 = some (.ref 91) := fx_e2 elv4 hlv1_0 (by decide) (by decide) (Or.inl (by decide))
  have hlv4_1 : aj_lv lv4 1 = some (.int p1) := fx_e2 elv4 hlv1_1 (by decide) (by decide) (Or.inr rfl)
  have hlv4_2 : aj_lv lv4 2 = some (.long w3) := by rw [elv4]; exact ak_set2_eq _ _ _
  show fx_W _ _ _ 6 lv4 [] _ _
  refine fx_i2 aj_d75 rfl (Nat.le_succ _) (fun _ => rfl) hlv4_0 ?_
  refine fx_i2 aj_d75 rfl (Nat.le_succ _) (fun _ => rfl) hlv4_0 ?_
  refine fx_gI aj_d75 rfl (Nat.le_succ _) rfl rfl (Or.inl rfl) ?_
  refine fx_n (pc' := 12) (lv' := lv4) (st' := [.int (Int32.ofInt 1), .int (X2.1 91 5), .ref 91]) aj_d75 rfl (Nat.le_succ _) (fun _ => rfl) ?_
  refine fx_n (pc' := 13) (lv' := lv4) (st' := [.int ((X2.1 91 5) - (Int32.ofInt 1)), .ref 91]) aj_d75 rfl (Nat.le_succ _) (fun _ => rfl) ?_
  refine fx_i1 aj_d75 rfl (Nat.le_succ _) (fun _ => rfl) hlv4_2 ?_
  refine fx_cv aj_d75 rfl (Nat.le_succ _) rfl [_, _] rfl rfl (gx_74_ok ((X2.1 91 5) - (Int32.ofInt 1)) w3) ?_
  rintro _ X5 ⟨w6, rfl, hR5⟩ hok5 hle5
  refine fx_qc hR5 ?_
  show fx_W _ _ _ 17 lv4 [.int w6] _ _
  refine fx_s0 (j := 4) aj_d75 rfl (Nat.le_succ _) (by decide) (fun _ => rfl) ?_
  obtain ⟨lv7, elv7⟩ : ∃ l, l = aj_set1 lv4 4 (.int w6) := ⟨_, rfl⟩
  rw [← elv7]
  have hlv7_0 : aj_lv lv7 0 = some (.ref 91) := fx_e1 elv7 hlv4_0 (by decide) (Or.inl (by decide))
  have hlv7_1 : aj_lv lv7 1 = some (.int p1) := fx_e1 elv7 hlv4_1 (by decide) (Or.inl (by decide))
  have hlv7_2 : aj_lv lv7 2 = some (.long w3) := fx_e1 elv7 hlv4_2 (by decide) (Or.inl (by decide))
  have hlv7_4 : aj_lv lv7 4 = some (.int w6) := by rw [elv7]; exact ak_set1_eq _ _ _
  show fx_W _ _ _ 19 lv7 [] _ _
  refine fx_i0 aj_d75 rfl (Nat.le_succ _) (fun _ => rfl) hlv7_4 ?_
  refine fx_b0 (tgt := 33) aj_d75 rfl (Nat.le_succ _) rfl (fun q8 => ?_) (fun q8 => ?_)
  · skip
    refine fx_qe (c := (w6).toInt < 0) (fx_t_ge q8) ?_
    show fx_W _ _ _ 33 lv7 [] _ _
    refine fx_i2 aj_d75 rfl (Nat.le_succ _) (fun _ => rfl) hlv7_0 ?_
    refine fx_i1 aj_d75 rfl (Nat.le_succ _) (fun _ => rfl) hlv7_2 ?_
    refine fx_cv aj_d75 rfl (Nat.le_succ _) rfl [_] rfl rfl (gx_76_ok w3) ?_
    rintro _ X9 ⟨w10, rfl, hR9⟩ hok9 hle9
    refine fx_qc hR9 ?_
    show fx_W _ _ _ 38 lv7 [.int w10] _ _
    refine fx_b0 (tgt := 50) aj_d75 rfl (Nat.le_succ _) rfl (fun q11 => ?_) (fun q11 => ?_)
    · skip
      refine fx_qi (c := (w10).toInt = 0) (fx_t_eq q11) ?_
      show fx_W _ _ _ 50 lv7 [] _ _
      refine fx_i2 aj_d75 rfl (Nat.le_succ _) (fun _ => rfl) hlv7_0 ?_
      refine fx_gI aj_d75 rfl (Nat.le_succ _) rfl rfl (Or.inl rfl) ?_
      refine fx_i2 aj_d75 rfl (Nat.le_succ _) (fun _ => rfl) hlv7_0 ?_
      refine fx_gF aj_d75 rfl (Nat.le_succ _) rfl rfl fx_in_0_6 (t := 94) rfl (fun hA12 => ?_)
      refine fx_al aj_d75 rfl (Nat.le_succ _) ?_
      rw [(hA12 : X9.2.2.2.1 94 = (1, 6))]
      show fx_W _ _ _ 59 lv7 [.int (Int32.ofNat 6), .int (X9.1 91 7)] _ _
      refine fx_b (tgt := 82) aj_d75 rfl (Nat.le_succ _) rfl (fun q13 => ?_) (fun q13 => ?_)
      · skip
        refine fx_qe (c := ((X9.1 91 7)).toInt < 6) (fx_t_ge q13) ?_
        show fx_W _ _ _ 82 lv7 [] _ _
        refine fx_i2 aj_d75 rfl (Nat.le_succ _) (fun _ => rfl) hlv7_0 ?_
        refine fx_gF aj_d75 rfl (Nat.le_succ _) rfl rfl fx_in_0_1 (t := 82) rfl (fun hA14 => ?_)
        refine fx_i0 aj_d75 rfl (Nat.le_succ _) (fun _ => rfl) hlv7_1 ?_
        refine fx_i0 aj_d75 rfl (Nat.le_succ _) (fun _ => rfl) hlv7_4 ?_
        refine fx_cv aj_d75 rfl (Nat.le_succ _) rfl [_, _] rfl rfl (gx_41_ok p1 w6) ?_
        rintro _ X15 ⟨w16, rfl, hR15⟩ hok15 hle15
        refine fx_qc hR15 ?_
        show fx_W _ _ _ 92 lv7 [] _ _
        exact fx_rn aj_d75 rfl ⟨(), rfl, 0, rfl⟩
      · skip
        refine fx_qi (c := ((X9.1 91 7)).toInt < 6) (fx_f_ge q13) ?_
        show fx_W _ _ _ 62 lv7 [] _ _
        refine fx_i2 aj_d75 rfl (Nat.le_succ _) (fun _ => rfl) hlv7_0 ?_
        refine fx_gF aj_d75 rfl (Nat.le_succ _) rfl rfl fx_in_0_6 (t := 94) rfl (fun hA17 => ?_)
        refine fx_i2 aj_d75 rfl (Nat.le_succ _) (fun _ => rfl) hlv7_0 ?_
        refine fx_gI aj_d75 rfl (Nat.le_succ _) rfl rfl (Or.inl rfl) ?_
        refine fx_i1 aj_d75 rfl (Nat.le_succ _) (fun _ => rfl) hlv7_2 ?_
        refine fx_sL aj_d75 rfl (Nat.le_succ _) (fun g180 g181 => ?_)
        refine fx_qa (c := 0 ≤ ((X9.1 91 7)).toInt ∧ ((X9.1 91 7)).toInt < ((6 : Nat) : Int)) ⟨g180, fx_lnk g181 hA17⟩ ?_
        refine fx_qX (fun X19 eX19 => ?_)
        show fx_W _ _ _ 72 lv7 [] _ _
        refine fx_i2 aj_d75 rfl (Nat.le_succ _) (fun _ => rfl) hlv7_0 ?_
        refine fx_n (pc' := 74) (lv' := lv7) (st' := [.ref 91, .ref 91]) aj_d75 rfl (Nat.le_succ _) (fun _ => rfl) ?_
        refine fx_gI aj_d75 rfl (Nat.le_succ _) rfl rfl (Or.inl rfl) ?_
        refine fx_n (pc' := 78) (lv' := lv7) (st' := [.int (Int32.ofInt 1), .int (X19.1 91 7), .ref 91]) aj_d75 rfl (Nat.le_succ _) (fun _ => rfl) ?_
        refine fx_n (pc' := 79) (lv' := lv7) (st' := [.int ((X19.1 91 7) + (Int32.ofInt 1)), .ref 91]) aj_d75 rfl (Nat.le_succ _) (fun _ => rfl) ?_
        refine fx_pI aj_d75 rfl (Nat.le_succ _) rfl rfl (Or.inl rfl) fx_no_0_7 (by decide) ?_
        refine fx_qX (fun X20 eX20 => ?_)
        show fx_W _ _ _ 82 lv7 [] _ _
        refine fx_i2 aj_d75 rfl (Nat.le_succ _) (fun _ => rfl) hlv7_0 ?_
        refine fx_gF aj_d75 rfl (Nat.le_succ _) rfl rfl fx_in_0_1 (t := 82) rfl (fun hA21 => ?_)
        refine fx_i0 aj_d75 rfl (Nat.le_succ _) (fun _ => rfl) hlv7_1 ?_
        refine fx_i0 aj_d75 rfl (Nat.le_succ _) (fun _ => rfl) hlv7_4 ?_
        refine fx_cv aj_d75 rfl (Nat.le_succ _) rfl [_, _] rfl rfl (gx_41_ok p1 w6) ?_
        rintro _ X22 ⟨w23, rfl, hR22⟩ hok22 hle22
        refine fx_qc hR22 ?_
        show fx_W _ _ _ 92 lv7 [] _ _
        exact fx_rn aj_d75 rfl ⟨(), rfl, 0, rfl⟩
    · skip
      refine fx_qe (c := (w10).toInt = 0) (fx_f_eq q11) ?_
      show fx_W _ _ _ 41 lv7 [] _ _
      refine fx_i2 aj_d75 rfl (Nat.le_succ _) (fun _ => rfl) hlv7_0 ?_
      refine fx_n (pc' := 43) (lv' := lv7) (st' := [.int (Int32.ofInt 3), .ref 91]) aj_d75 rfl (Nat.le_succ _) (fun _ => rfl) ?_
      refine fx_i0 aj_d75 rfl (Nat.le_succ _) (fun _ => rfl) hlv7_1 ?_
      refine fx_cv aj_d75 rfl (Nat.le_succ _) rfl [_, _] rfl rfl (gx_64_ok (Int32.ofInt 3) p1) ?_
      rintro _ X24 ⟨w25, rfl, hR24⟩ hok24 hle24
      refine fx_qc hR24 ?_
      show fx_W _ _ _ 47 lv7 [] _ _
      refine fx_n (pc' := 82) (lv' := lv7) (st' := []) aj_d75 rfl (Nat.le_succ _) (fun _ => rfl) ?_
      refine fx_i2 aj_d75 rfl (Nat.le_succ _) (fun _ => rfl) hlv7_0 ?_
      refine fx_gF aj_d75 rfl (Nat.le_succ _) rfl rfl fx_in_0_1 (t := 82) rfl (fun hA26 => ?_)
      refine fx_i0 aj_d75 rfl (Nat.le_succ _) (fun _ => rfl) hlv7_1 ?_
      refine fx_i0 aj_d75 rfl (Nat.le_succ _) (fun _ => rfl) hlv7_4 ?_
      refine fx_cv aj_d75 rfl (Nat.le_succ _) rfl [_, _] rfl rfl (gx_41_ok p1 w6) ?_
      rintro _ X27 ⟨w28, rfl, hR27⟩ hok27 hle27
      refine fx_qc hR27 ?_
      show fx_W _ _ _ 92 lv7 [] _ _
      exact fx_rn aj_d75 rfl ⟨(), rfl, 0, rfl⟩
  · skip
    refine fx_qi (c := (w6).toInt < 0) (fx_f_ge q8) ?_
    show fx_W _ _ _ 24 lv7 [] _ _
    refine fx_i2 aj_d75 rfl (Nat.le_succ _) (fun _ => rfl) hlv7_0 ?_
    refine fx_n (pc' := 26) (lv' := lv7) (st' := [.int (Int32.ofInt 4), .ref 91]) aj_d75 rfl (Nat.le_succ _) (fun _ => rfl) ?_
    refine fx_i0 aj_d75 rfl (Nat.le_succ _) (fun _ => rfl) hlv7_1 ?_
    refine fx_cv aj_d75 rfl (Nat.le_succ _) rfl [_, _] rfl rfl (gx_64_ok (Int32.ofInt 4) p1) ?_
    rintro _ X29 ⟨w30, rfl, hR29⟩ hok29 hle29
    refine fx_qc hR29 ?_
    show fx_W _ _ _ 30 lv7 [] _ _
    refine fx_n (pc' := 82) (lv' := lv7) (st' := []) aj_d75 rfl (Nat.le_succ _) (fun _ => rfl) ?_
    refine fx_i2 aj_d75 rfl (Nat.le_succ _) (fun _ => rfl) hlv7_0 ?_
    refine fx_gF aj_d75 rfl (Nat.le_succ _) rfl rfl fx_in_0_1 (t := 82) rfl (fun hA31 => ?_)
    refine fx_i0 aj_d75 rfl (Nat.le_succ _) (fun _ => rfl) hlv7_1 ?_
    refine fx_i0 aj_d75 rfl (Nat.le_succ _) (fun _ => rfl) hlv7_4 ?_
    refine fx_cv aj_d75 rfl (Nat.le_succ _) rfl [_, _] rfl rfl (gx_41_ok p1 w6) ?_
    rintro _ X32 ⟨w33, rfl, hR32⟩ hok32 hle32
    refine fx_qc hR32 ?_
    show fx_W _ _ _ 92 lv7 [] _ _
    exact fx_rn aj_d75 rfl ⟨(), rfl, 0, rfl⟩
def gxT_77_13 (P : Nat → List Int32 → List Int64 → List Nat → fx_X → Unit → fx_X → Prop) (y1 : Int32) (X : fx_X) (v : Unit) (X' : fx_X) : Prop :=
  (if (y1).toInt < ((X.1 91 7)).toInt then ((if (y1).toInt < 6 then ((0 ≤ (y1).toInt ∧ (y1).toInt < ((6 : Nat) : Int)) ∧ ∃ (w11 : Unit) (X10 : fx_X), gx_67 ((X.1 91 5) - (Int32.ofInt 1)) (X.2.1 94 (y1).toInt.toNat) X w11 X10 ∧ ∃ x12 : Int32, x12 = y1 + Int32.ofInt 1 ∧ P 13 [x12] [] [] X10 v X') else (X' = X))) else (X' = X))
def gxE_77 (P : Nat → List Int32 → List Int64 → List Nat → fx_X → Unit → fx_X → Prop) (X : fx_X) (v : Unit) (X' : fx_X) : Prop :=
  ∃ (w3 : Unit) (X2 : fx_X), gx_65 ((X.1 91 5) - (Int32.ofInt 1)) (Int32.ofInt 0) X w3 X2 ∧ P 13 [(Int32.ofInt 0)] [] [] X2 v X'
noncomputable def gxF_77 (n : Nat) : Nat → List Int32 → List Int64 → List Nat → fx_X → Unit → fx_X → Prop := Nat.rec (motive := fun _ => Nat → List Int32 → List Int64 → List Nat → fx_X → Unit → fx_X → Prop) (fun _ _ _ _ _ _ _ => False) (fun _ P l is ls rs X v X' => (l = 13 ∧ ∃ (y1 : Int32), is = [y1] ∧ ls = [] ∧ rs = [] ∧ gxT_77_13 P y1 X v X')) n
theorem gxI_77_13 {n : Nat} {y1 : Int32} {X : fx_X} {v : Unit} {X' : fx_X} (h : gxT_77_13 (gxF_77 n) y1 X v X') : gxF_77 (n + 1) 13 [y1] [] [] X v X' := ⟨rfl, y1, rfl, rfl, rfl, h⟩
theorem gxO_77_13 {n : Nat} {y1 : Int32} {X : fx_X} {v : Unit} {X' : fx_X} (h : gxF_77 (n + 1) 13 [y1] [] [] X v X') : gxT_77_13 (gxF_77 n) y1 X v X' := by
  rcases h with ⟨-, _, e1, e2, e3, h⟩
  · cases e1; cases e2; cases e3; exact h
def gx_77 (X : fx_X) (v : Unit) (X' : fx_X) : Prop := ∃ n : Nat, gxE_77 (gxF_77 n) X v X'
theorem gxL_77 {tb : aj_T} : ∀ N : Nat, (∀ (lv : aj_V) (y1 : Int32) (X : fx_X), aj_lv lv 0 = some (.ref 91) → aj_lv lv 1 = some (.int y1) → fx_W tb aj_m77 N 13 lv [] X (fx_Q fx_qN (fun v X' => ∃ n : Nat, gxF_77 n 13 [y1] [] [] X v X'))) := by
  intro N
  induction N with
  | zero => exact (by intros; exact fx_z)
  | succ N ih =>
    skip
    · intro lv y1 X hlv_0 hlv_1
      refine fx_mono (Q := fx_Q fx_qN (fun v X' => ∃ n : Nat, gxT_77_13 (gxF_77 n) y1 X v X')) (fun r X' ⟨v, e, n, z⟩ => ⟨v, e, n + 1, gxI_77_13 z⟩) ?_
      unfold gxT_77_13
      refine fx_i0 aj_d77 rfl (Nat.le_refl _) (fun _ => rfl) hlv_1 ?_
      refine fx_i2 aj_d77 rfl (Nat.le_succ _) (fun _ => rfl) hlv_0 ?_
      refine fx_gI aj_d77 rfl (Nat.le_succ _) rfl rfl (Or.inl rfl) ?_
      refine fx_b (tgt := 52) aj_d77 rfl (Nat.le_succ _) rfl (fun q5 => ?_) (fun q5 => ?_)
      · skip
        refine fx_qe (c := (y1).toInt < ((X.1 91 7)).toInt) (fx_t_ge q5) ?_
        show fx_W _ _ _ 52 lv [] _ _
        exact fx_rn aj_d77 rfl ⟨(), rfl, 0, rfl⟩
      · skip
        refine fx_qi (c := (y1).toInt < ((X.1 91 7)).toInt) (fx_f_ge q5) ?_
        show fx_W _ _ _ 21 lv [] _ _
        refine fx_i0 aj_d77 rfl (Nat.le_succ _) (fun _ => rfl) hlv_1 ?_
        refine fx_i2 aj_d77 rfl (Nat.le_succ _) (fun _ => rfl) hlv_0 ?_
        refine fx_gF aj_d77 rfl (Nat.le_succ _) rfl rfl fx_in_0_6 (t := 94) rfl (fun hA6 => ?_)
        refine fx_al aj_d77 rfl (Nat.le_succ _) ?_
        rw [(hA6 : X.2.2.2.1 94 = (1, 6))]
        show fx_W _ _ _ 27 lv [.int (Int32.ofNat 6), .int y1] _ _
        refine fx_b (tgt := 52) aj_d77 rfl (Nat.le_succ _) rfl (fun q7 => ?_) (fun q7 => ?_)
        · skip
          refine fx_qe (c := (y1).toInt < 6) (fx_t_ge q7) ?_
          show fx_W _ _ _ 52 lv [] _ _
          exact fx_rn aj_d77 rfl ⟨(), rfl, 0, rfl⟩
        · skip
          refine fx_qi (c := (y1).toInt < 6) (fx_f_ge q7) ?_
          show fx_W _ _ _ 30 lv [] _ _
          refine fx_i2 aj_d77 rfl (Nat.le_succ _) (fun _ => rfl) hlv_0 ?_
          refine fx_i2 aj_d77 rfl (Nat.le_succ _) (fun _ => rfl) hlv_0 ?_
          refine fx_gI aj_d77 rfl (Nat.le_succ _) rfl rfl (Or.inl rfl) ?_
          refine fx_n (pc' := 36) (lv' := lv) (st' := [.int (Int32.ofInt 1), .int (X.1 91 5), .ref 91]) aj_d77 rfl (Nat.le_succ _) (fun _ => rfl) ?_
          refine fx_n (pc' := 37) (lv' := lv) (st' := [.int ((X.1 91 5) - (Int32.ofInt 1)), .ref 91]) aj_d77 rfl (Nat.le_succ _) (fun _ => rfl) ?_
          refine fx_i2 aj_d77 rfl (Nat.le_succ _) (fun _ => rfl) hlv_0 ?_
          refine fx_gF aj_d77 rfl (Nat.le_succ _) rfl rfl fx_in_0_6 (t := 94) rfl (fun hA8 => ?_)
          refine fx_i0 aj_d77 rfl (Nat.le_succ _) (fun _ => rfl) hlv_1 ?_
          refine fx_ldL aj_d77 rfl (Nat.le_succ _) (fun g90 g91 => ?_)
          show fx_W _ _ _ 43 lv [.long (X.2.1 94 (y1).toInt.toNat), .int ((X.1 91 5) - (Int32.ofInt 1)), .ref 91] _ _
          refine fx_qa (c := 0 ≤ (y1).toInt ∧ (y1).toInt < ((6 : Nat) : Int)) ⟨g90, fx_lnk g91 hA8⟩ ?_
          refine fx_cv aj_d77 rfl (Nat.le_succ _) rfl [_, _] rfl rfl (gx_67_ok ((X.1 91 5) - (Int32.ofInt 1)) (X.2.1 94 (y1).toInt.toNat)) ?_
          rintro _ X10 ⟨w11, rfl, hR10⟩ hok10 hle10
          refine fx_qc hR10 ?_
          show fx_W _ _ _ 46 lv [] _ _
          refine fx_incq aj_d77 rfl (Nat.le_succ _) hlv_1 (by decide) (fun x12 ex12 => ?_)
          obtain ⟨lv13, elv13⟩ : ∃ l, l = aj_set1 lv 1 (.int x12) := ⟨_, rfl⟩
          rw [← elv13]
          have hlv13_0 : aj_lv lv13 0 = some (.ref 91) := fx_e1 elv13 hlv_0 (by decide) (Or.inr rfl)
          have hlv13_1 : aj_lv lv13 1 = some (.int x12) := by rw [elv13]; exact ak_set1_eq _ _ _
          show fx_W _ _ _ 49 lv13 [] _ _
          refine fx_n (pc' := 13) (lv' := lv13) (st' := []) aj_d77 rfl (Nat.le_succ _) (fun _ => rfl) ?_
          exact (ih) lv13 (x12) X10  hlv13_0 hlv13_1
theorem gx_77_ok {tb : aj_T} {X : fx_X} : fx_K tb 77 [.ref 91] X (fx_Q fx_qN (fun v X' => gx_77 X v X')) := by
  refine fx_m aj_m77_at rfl (fun N => ?_)
  refine fx_mono (Q := fx_Q fx_qN (fun v X' => ∃ n : Nat, gxE_77 (gxF_77 n) X v X')) (fun r X' h => h) ?_
  unfold gxE_77
  show fx_W _ _ _ 0 [(0, .ref 91)] [] _ _
  obtain ⟨lv1, elv1⟩ : ∃ l : aj_V, l = [(0, .ref 91)] := ⟨_, rfl⟩
  rw [← elv1]
  have hlv1_0 : aj_lv lv1 0 = some (.ref 91) := by rw [elv1]; rfl
  refine fx_i2 aj_d77 rfl (Nat.le_succ _) (fun _ => rfl) hlv1_0 ?_
  refine fx_i2 aj_d77 rfl (Nat.le_succ _) (fun _ => rfl) hlv1_0 ?_
  refine fx_gI aj_d77 rfl (Nat.le_succ _) rfl rfl (Or.inl rfl) ?_
  refine fx_n (pc' := 6) (lv' := lv1) (st' := [.int (Int32.ofInt 1), .int (X.1 91 5), .ref 91]) aj_d77 rfl (Nat.le_succ _) (fun _ => rfl) ?_
  refine fx_n (pc' := 7) (lv' := lv1) (st' := [.int ((X.1 91 5) - (Int32.ofInt 1)), .ref 91]) aj_d77 rfl (Nat.le_succ _) (fun _ => rfl) ?_
  refine fx_n (pc' := 8) (lv' := lv1) (st' := [.int (Int32.ofInt 0), .int ((X.1 91 5) - (Int32.ofInt 1)), .ref 91]) aj_d77 rfl (Nat.le_succ _) (fun _ => rfl) ?_
  refine fx_cv aj_d77 rfl (Nat.le_succ _) rfl [_, _] rfl rfl (gx_65_ok ((X.1 91 5) - (Int32.ofInt 1)) (Int32.ofInt 0)) ?_
  rintro _ X2 ⟨w3, rfl, hR2⟩ hok2 hle2
  refine fx_qc hR2 ?_
  show fx_W _ _ _ 11 lv1 [] _ _
  refine fx_n (pc' := 12) (lv' := lv1) (st' := [.int (Int32.ofInt 0)]) aj_d77 rfl (Nat.le_succ _) (fun _ => rfl) ?_
  refine fx_s0 (j := 1) aj_d77 rfl (Nat.le_succ _) (by decide) (fun _ => rfl) ?_
  obtain ⟨lv4, elv4⟩ : ∃ l, l = aj_set1 lv1 1 (.int (Int32.ofInt 0)) := ⟨_, rfl⟩
  rw [← elv4]
  have hlv4_0 : aj_lv lv4 0 = some (.ref 91) := fx_e1 elv4 hlv1_0 (by decide) (Or.inr rfl)
  have hlv4_1 : aj_lv lv4 1 = some (.int (Int32.ofInt 0)) := by rw [elv4]; exact ak_set1_eq _ _ _
  show fx_W _ _ _ 13 lv4 [] _ _
  exact ((gxL_77 N)) lv4 ((Int32.ofInt 0)) X2  hlv4_0 hlv4_1
def gx_79 (p1 : Int32) (p2 : Int32) (p3 : Int64) (X : fx_X) (v : Unit) (X' : fx_X) : Prop :=
  ∃ x2 : Int32, x2 = ((p1 * ((Int8.ofInt 6).toInt32)) + p2) ∧ (if (p1).toInt < 0 then (X' = X) else ((if (p2).toInt < 0 then (X' = X) else ((if (p2).toInt < 6 then ((if (x2).toInt < 120 then ((0 ≤ (x2).toInt ∧ (x2).toInt < ((120 : Nat) : Int)) ∧ ∃ X11 : fx_X, X11 = (fx_wL X 92 (x2).toInt.toNat p3) ∧ X' = X11) else (X' = X))) else (X' = X))))))
theorem gx_79_ok {tb : aj_T} (p1 : Int32) (p2 : Int32) (p3 : Int64) {X : fx_X} : fx_K tb 79 [.ref 91, .int p1, .int p2, .long p3] X (fx_Q fx_qN (fun v X' => gx_79 p1 p2 p3 X v X')) := by
  refine fx_m aj_m79_at rfl (fun N => ?_)
  refine fx_mono (Q := fx_Q fx_qN (fun v X' => ∃ n : Nat, gx_79 p1 p2 p3 X v X')) (fun r X' ⟨v, e, _, z⟩ => ⟨v, e, z⟩) ?_
  unfold gx_79
  show fx_W _ _ _ 0 [(0, .ref 91), (1, .int p1), (2, .int p2), (3, .long p3)] [] _ _
  obtain ⟨lv1, elv1⟩ : ∃ l : aj_V, l = [(0, .ref 91), (1, .int p1), (2, .int p2), (3, .long p3)] := ⟨_, rfl⟩
  rw [← elv1]
  have hlv1_0 : aj_lv lv1 0 = some (.ref 91) := by rw [elv1]; rfl
  have hlv1_1 : aj_lv lv1 1 = some (.int p1) := by rw [elv1]; rfl
  have hlv1_2 : aj_lv lv1 2 = some (.int p2) := by rw [elv1]; rfl
  have hlv1_3 : aj_lv lv1 3 = some (.long p3) := by rw [elv1]; rfl
  refine fx_i0 aj_d79 rfl (Nat.le_succ _) (fun _ => rfl) hlv1_1 ?_
  refine fx_n (pc' := 3) (lv' := lv1) (st' := [.int ((Int8.ofInt 6).toInt32), .int p1]) aj_d79 rfl (Nat.le_succ _) (fun _ => rfl) ?_
  refine fx_n (pc' := 4) (lv' := lv1) (st' := [.int (p1 * ((Int8.ofInt 6).toInt32))]) aj_d79 rfl (Nat.le_succ _) (fun _ => rfl) ?_
  refine fx_i0 aj_d79 rfl (Nat.le_succ _) (fun _ => rfl) hlv1_2 ?_
  refine fx_n (pc' := 6) (lv' := lv1) (st' := [.int ((p1 * ((Int8.ofInt 6).toInt32)) + p2)]) aj_d79 rfl (Nat.le_succ _) (fun _ => rfl) ?_
  refine fx_qxI (fun x2 ex2 => ?_)
  refine fx_s0 (j := 5) aj_d79 rfl (Nat.le_succ _) (by decide) (fun _ => rfl) ?_
  obtain ⟨lv3, elv3⟩ : ∃ l, l = aj_set1 lv1 5 (.int x2) := ⟨_, rfl⟩
  rw [← elv3]
  have hlv3_0 : aj_lv lv3 0 = some (.ref 91) := fx_e1 elv3 hlv1_0 (by decide) (Or.inl (by decide))
  have hlv3_1 : aj_lv lv3 1 = some (.int p1) := fx_e1 elv3 hlv1_1 (by decide) (Or.inl (by decide))
  have hlv3_2 : aj_lv lv3 2 = some (.int p2) := fx_e1 elv3 hlv1_2 (by decide) (Or.inl (by decide))
  have hlv3_3 : aj_lv lv3 3 = some (.long p3) := fx_e1 elv3 hlv1_3 (by decide) (Or.inl (by decide))
  have hlv3_5 : aj_lv lv3 5 = some (.int x2) := by rw [elv3]; exact ak_set1_eq _ _ _
  show fx_W _ _ _ 8 lv3 [] _ _
  refine fx_i0 aj_d79 rfl (Nat.le_succ _) (fun _ => rfl) hlv3_1 ?_
  refine fx_b0 (tgt := 40) aj_d79 rfl (Nat.le_succ _) rfl (fun q4 => ?_) (fun q4 => ?_)
  · skip
    refine fx_qi (c := (p1).toInt < 0) (fx_t_lt q4) ?_
    show fx_W _ _ _ 40 lv3 [] _ _
    exact fx_rn aj_d79 rfl ⟨(), rfl, 0, rfl⟩
  · skip
    refine fx_qe (c := (p1).toInt < 0) (fx_f_lt q4) ?_
    show fx_W _ _ _ 12 lv3 [] _ _
    refine fx_i0 aj_d79 rfl (Nat.le_succ _) (fun _ => rfl) hlv3_2 ?_
    refine fx_b0 (tgt := 40) aj_d79 rfl (Nat.le_succ _) rfl (fun q5 => ?_) (fun q5 => ?_)
    · skip
      refine fx_qi (c := (p2).toInt < 0) (fx_t_lt q5) ?_
      show fx_W _ _ _ 40 lv3 [] _ _
      exact fx_rn aj_d79 rfl ⟨(), rfl, 0, rfl⟩
    · skip
      refine fx_qe (c := (p2).toInt < 0) (fx_f_lt q5) ?_
      show fx_W _ _ _ 16 lv3 [] _ _
      refine fx_i0 aj_d79 rfl (Nat.le_succ _) (fun _ => rfl) hlv3_2 ?_
      refine fx_n (pc' := 19) (lv' := lv3) (st' := [.int ((Int8.ofInt 6).toInt32), .int p2]) aj_d79 rfl (Nat.le_succ _) (fun _ => rfl) ?_
      refine fx_b (tgt := 40) aj_d79 rfl (Nat.le_succ _) rfl (fun q6 => ?_) (fun q6 => ?_)
      · skip
        refine fx_qe (c := (p2).toInt < 6) (fx_t_ge q6) ?_
        show fx_W _ _ _ 40 lv3 [] _ _
        exact fx_rn aj_d79 rfl ⟨(), rfl, 0, rfl⟩
      · skip
        refine fx_qi (c := (p2).toInt < 6) (fx_f_ge q6) ?_
        show fx_W _ _ _ 22 lv3 [] _ _
        refine fx_i0 aj_d79 rfl (Nat.le_succ _) (fun _ => rfl) hlv3_5 ?_
        refine fx_i2 aj_d79 rfl (Nat.le_succ _) (fun _ => rfl) hlv3_0 ?_
        refine fx_gF aj_d79 rfl (Nat.le_succ _) rfl rfl fx_in_0_3 (t := 92) rfl (fun hA7 => ?_)
        refine fx_al aj_d79 rfl (Nat.le_succ _) ?_
        rw [(hA7 : X.2.2.2.1 92 = (1, 120))]
        show fx_W _ _ _ 29 lv3 [.int (Int32.ofNat 120), .int x2] _ _
        refine fx_b (tgt := 40) aj_d79 rfl (Nat.le_succ _) rfl (fun q8 => ?_) (fun q8 => ?_)
        · skip
          refine fx_qe (c := (x2).toInt < 120) (fx_t_ge q8) ?_
          show fx_W _ _ _ 40 lv3 [] _ _
          exact fx_rn aj_d79 rfl ⟨(), rfl, 0, rfl⟩
        · skip
          refine fx_qi (c := (x2).toInt < 120) (fx_f_ge q8) ?_
          show fx_W _ _ _ 32 lv3 [] _ _
          refine fx_i2 aj_d79 rfl (Nat.le_succ _) (fun _ => rfl) hlv3_0 ?_
          refine fx_gF aj_d79 rfl (Nat.le_succ _) rfl rfl fx_in_0_3 (t := 92) rfl (fun hA9 => ?_)
          refine fx_i0 aj_d79 rfl (Nat.le_succ _) (fun _ => rfl) hlv3_5 ?_
          refine fx_i1 aj_d79 rfl (Nat.le_succ _) (fun _ => rfl) hlv3_3 ?_
          refine fx_sL aj_d79 rfl (Nat.le_succ _) (fun g100 g101 => ?_)
          refine fx_qa (c := 0 ≤ (x2).toInt ∧ (x2).toInt < ((120 : Nat) : Int)) ⟨g100, fx_lnk g101 hA9⟩ ?_
          refine fx_qX (fun X11 eX11 => ?_)
          show fx_W _ _ _ 40 lv3 [] _ _
          exact fx_rn aj_d79 rfl ⟨(), rfl, 0, rfl⟩
def gx_80 (p1 : Int32) (X : fx_X) (v : Unit) (X' : fx_X) : Prop :=
  ∃ (w3 : Int64) (X2 : fx_X), gx_60 p1 X w3 X2 ∧ ∃ (w5 : Int32) (X4 : fx_X), gx_76 w3 X2 w5 X4 ∧ (if (w5).toInt = 0 then (∃ (w8 : Unit) (X7 : fx_X), gx_77 X4 w8 X7 ∧ ∃ (w10 : Int64) (X9 : fx_X), gx_60 p1 X7 w10 X9 ∧ ∃ (w12 : Unit) (X11 : fx_X), gx_67 ((X7.1 91 5) - (Int32.ofInt 1)) w10 X9 w12 X11 ∧ X' = X11) else (∃ (w14 : Unit) (X13 : fx_X), gx_64 (Int32.ofInt 3) p1 X4 w14 X13 ∧ X' = X13))
theorem gx_80_ok {tb : aj_T} (p1 : Int32) {X : fx_X} : fx_K tb 80 [.ref 91, .int p1] X (fx_Q fx_qN (fun v X' => gx_80 p1 X v X')) := by
  refine fx_m aj_m80_at rfl (fun N => ?_)
  refine fx_mono (Q := fx_Q fx_qN (fun v X' => ∃ n : Nat, gx_80 p1 X v X')) (fun r X' ⟨v, e, _, z⟩ => ⟨v, e, z⟩) ?_
  unfold gx_80
  show fx_W _ _ _ 0 [(0, .ref 91), (1, .int p1)] [] _ _
  obtain ⟨lv1, elv1⟩ : ∃ l : aj_V, l = [(0, .ref 91), (1, .int p1)] := ⟨_, rfl⟩
  rw [← elv1]
  have hlv1_0 : aj_lv lv1 0 = some (.ref 91) := by rw [elv1]; rfl
  have hlv1_1 : aj_lv lv1 1 = some (.int p1) := by rw [elv1]; rfl
  refine fx_i2 aj_d80 rfl (Nat.le_succ _) (fun _ => rfl) hlv1_0 ?_
  refine fx_i2 aj_d80 rfl (Nat.le_succ _) (fun _ => rfl) hlv1_0 ?_
  refine fx_i0 aj_d80 rfl (Nat.le_succ _) (fun _ => rfl) hlv1_1 ?_
  refine fx_cv aj_d80 rfl (Nat.le_succ _) rfl [_] rfl rfl (gx_60_ok p1) ?_
  rintro _ X2 ⟨w3, rfl, hR2⟩ hok2 hle2
  refine fx_qc hR2 ?_
  show fx_W _ _ _ 6 lv1 [.long w3, .ref 91] _ _
  refine fx_cv aj_d80 rfl (Nat.le_succ _) rfl [_] rfl rfl (gx_76_ok w3) ?_
  rintro _ X4 ⟨w5, rfl, hR4⟩ hok4 hle4
  refine fx_qc hR4 ?_
  show fx_W _ _ _ 9 lv1 [.int w5] _ _
  refine fx_b0 (tgt := 19) aj_d80 rfl (Nat.le_succ _) rfl (fun q6 => ?_) (fun q6 => ?_)
  · skip
    refine fx_qi (c := (w5).toInt = 0) (fx_t_eq q6) ?_
    show fx_W _ _ _ 19 lv1 [] _ _
    refine fx_i2 aj_d80 rfl (Nat.le_succ _) (fun _ => rfl) hlv1_0 ?_
    refine fx_cv aj_d80 rfl (Nat.le_succ _) rfl [] rfl rfl (gx_77_ok) ?_
    rintro _ X7 ⟨w8, rfl, hR7⟩ hok7 hle7
    refine fx_qc hR7 ?_
    show fx_W _ _ _ 23 lv1 [] _ _
    refine fx_i2 aj_d80 rfl (Nat.le_succ _) (fun _ => rfl) hlv1_0 ?_
    refine fx_i2 aj_d80 rfl (Nat.le_succ _) (fun _ => rfl) hlv1_0 ?_
    refine fx_gI aj_d80 rfl (Nat.le_succ _) rfl rfl (Or.inl rfl) ?_
    refine fx_n (pc' := 29) (lv' := lv1) (st' := [.int (Int32.ofInt 1), .int (X7.1 91 5), .ref 91]) aj_d80 rfl (Nat.le_succ _) (fun _ => rfl) ?_
    refine fx_n (pc' := 30) (lv' := lv1) (st' := [.int ((X7.1 91 5) - (Int32.ofInt 1)), .ref 91]) aj_d80 rfl (Nat.le_succ _) (fun _ => rfl) ?_
    refine fx_i2 aj_d80 rfl (Nat.le_succ _) (fun _ => rfl) hlv1_0 ?_
    refine fx_i0 aj_d80 rfl (Nat.le_succ _) (fun _ => rfl) hlv1_1 ?_
    refine fx_cv aj_d80 rfl (Nat.le_succ _) rfl [_] rfl rfl (gx_60_ok p1) ?_
    rintro _ X9 ⟨w10, rfl, hR9⟩ hok9 hle9
    refine fx_qc hR9 ?_
    show fx_W _ _ _ 35 lv1 [.long w10, .int ((X7.1 91 5) - (Int32.ofInt 1)), .ref 91] _ _
    refine fx_cv aj_d80 rfl (Nat.le_succ _) rfl [_, _] rfl rfl (gx_67_ok ((X7.1 91 5) - (Int32.ofInt 1)) w10) ?_
    rintro _ X11 ⟨w12, rfl, hR11⟩ hok11 hle11
    refine fx_qc hR11 ?_
    show fx_W _ _ _ 38 lv1 [] _ _
    exact fx_rn aj_d80 rfl ⟨(), rfl, 0, rfl⟩
  · skip
    refine fx_qe (c := (w5).toInt = 0) (fx_f_eq q6) ?_
    show fx_W _ _ _ 12 lv1 [] _ _
    refine fx_i2 aj_d80 rfl (Nat.le_succ _) (fun _ => rfl) hlv1_0 ?_
    refine fx_n (pc' := 14) (lv' := lv1) (st' := [.int (Int32.ofInt 3), .ref 91]) aj_d80 rfl (Nat.le_succ _) (fun _ => rfl) ?_
    refine fx_i0 aj_d80 rfl (Nat.le_succ _) (fun _ => rfl) hlv1_1 ?_
    refine fx_cv aj_d80 rfl (Nat.le_succ _) rfl [_, _] rfl rfl (gx_64_ok (Int32.ofInt 3) p1) ?_
    rintro _ X13 ⟨w14, rfl, hR13⟩ hok13 hle13
    refine fx_qc hR13 ?_
    show fx_W _ _ _ 18 lv1 [] _ _
    exact fx_rn aj_d80 rfl ⟨(), rfl, 0, rfl⟩
def gx_58 (p1 : Int32) (p2 : Int32) (X : fx_X) (v : Unit) (X' : fx_X) : Prop :=
  (if (p1).toInt = 210 then (∃ (w5 : Unit) (X4 : fx_X), gx_59 p2 X w5 X4 ∧ X' = X4) else ((if (p1).toInt = 211 then (∃ X7 : fx_X, X7 = (fx_wI X 91 5 ((X.1 91 5) - (Int32.ofInt 1))) ∧ ∃ (w9 : Int32) (X8 : fx_X), gx_68 ((X7.1 91 5) - (Int32.ofInt 1)) (X7.1 91 5) X7 w9 X8 ∧ (if (w9).toInt = 0 then (∃ (w12 : Unit) (X11 : fx_X), gx_71 (Int32.ofInt 5) p2 X8 w12 X11 ∧ X' = X11) else (X' = X8))) else ((if (p1).toInt = 212 then (∃ X14 : fx_X, X14 = (fx_wI X 91 5 ((X.1 91 5) - (Int32.ofInt 1))) ∧ ∃ (w16 : Int32) (X15 : fx_X), gx_68 ((X14.1 91 5) - (Int32.ofInt 1)) (X14.1 91 5) X14 w16 X15 ∧ (if (w16).toInt = 0 then (∃ (w19 : Unit) (X18 : fx_X), gx_71 (Int32.ofInt 5) p2 X15 w19 X18 ∧ X' = X18) else (X' = X15))) else ((if (p1).toInt = 213 then (∃ X21 : fx_X, X21 = (fx_wI X 91 5 ((X.1 91 5) - (Int32.ofInt 1))) ∧ ∃ (w23 : Unit) (X22 : fx_X), gx_73 p2 X21 w23 X22 ∧ X' = X22) else ((if (p1).toInt = 215 then (∃ X25 : fx_X, X25 = (fx_wI X 91 7 (Int32.ofInt 0)) ∧ X' = X25) else ((if (p1).toInt = 216 then (∃ (w28 : Unit) (X27 : fx_X), gx_75 p2 X w28 X27 ∧ X' = X27) else ((if (p1).toInt = 217 then (∃ (w31 : Unit) (X30 : fx_X), gx_77 X w31 X30 ∧ X' = X30) else ((if (p1).toInt = 218 then (∃ (w34 : Int64) (X33 : fx_X), gx_60 p2 X w34 X33 ∧ ∃ X35 : fx_X, X35 = (fx_wL X33 91 8 w34) ∧ ∃ (w37 : Int32) (X36 : fx_X), gx_74 ((X35.1 91 5) - (Int32.ofInt 1)) (X35.2.1 91 8) X35 w37 X36 ∧ (if (w37).toInt < 0 then (X' = X36) else (∃ (w40 : Unit) (X39 : fx_X), gx_64 (Int32.ofInt 3) p2 X36 w40 X39 ∧ X' = X39))) else ((if (p1).toInt = 219 then (∃ (w43 : Int64) (X42 : fx_X), gx_60 p2 X w43 X42 ∧ ∃ (w45 : Int32) (X44 : fx_X), gx_74 ((X.1 91 5) - (Int32.ofInt 1)) w43 X42 w45 X44 ∧ ∃ (w47 : Unit) (X46 : fx_X), gx_78 p2 w45 X44 w47 X46 ∧ ∃ (w50 : Int32) (X49 : fx_X), gx_40 p2 X46 w50 X49 ∧ ∃ (w52 : Unit) (X51 : fx_X), gx_79 ((X46.1 91 5) - (Int32.ofInt 1)) w50 (X49.2.1 91 8) X49 w52 X51 ∧ X' = X51) else ((if (p1).toInt = 220 then ((if ((X.1 91 7)).toInt < 6 then (X' = X) else (∃ (w56 : Unit) (X55 : fx_X), gx_71 (Int32.ofInt 5) p2 X w56 X55 ∧ X' = X55))) else ((if (p1).toInt = 221 then (∃ (w62 : Int32) (X61 : fx_X), gx_61 p2 X w62 X61 ∧ ∃ (w64 : Int32) (X63 : fx_X), gx_46 w62 X61 w64 X63 ∧ ∃ (w66 : Unit) (X65 : fx_X), gx_41 p2 w64 X63 w66 X65 ∧ X' = X65) else ((if (p1).toInt = 222 then (∃ (w69 : Int64) (X68 : fx_X), gx_60 p2 X w69 X68 ∧ ∃ (w71 : Int32) (X70 : fx_X), gx_74 ((X.1 91 5) - (Int32.ofInt 1)) w69 X68 w71 X70 ∧ ∃ (w73 : Unit) (X72 : fx_X), gx_78 p2 w71 X70 w73 X72 ∧ X' = X72) else ((if (p1).toInt = 223 then (∃ (w76 : Unit) (X75 : fx_X), gx_80 p2 X w76 X75 ∧ X' = X75) else (X' = X))))))))))))))))))))))))))
theorem gx_58_ok {tb : aj_T} (p1 : Int32) (p2 : Int32) {X : fx_X} : fx_K tb 58 [.ref 91, .int p1, .int p2] X (fx_Q fx_qN (fun v X' => gx_58 p1 p2 X v X')) := by
  refine fx_m aj_m58_at rfl (fun N => ?_)
  refine fx_mono (Q := fx_Q fx_qN (fun v X' => ∃ n : Nat, gx_58 p1 p2 X v X')) (fun r X' ⟨v, e, _, z⟩ => ⟨v, e, z⟩) ?_
  unfold gx_58
  show fx_W _ _ _ 0 [(0, .ref 91), (1, .int p1), (2, .int p2)] [] _ _
  obtain ⟨lv1, elv1⟩ : ∃ l : aj_V, l = [(0, .ref 91), (1, .int p1), (2, .int p2)] := ⟨_, rfl⟩
  rw [← elv1]
  have hlv1_0 : aj_lv lv1 0 = some (.ref 91) := by rw [elv1]; rfl
  have hlv1_1 : aj_lv lv1 1 = some (.int p1) := by rw [elv1]; rfl
  have hlv1_2 : aj_lv lv1 2 = some (.int p2) := by rw [elv1]; rfl
  refine fx_i0 aj_d58 rfl (Nat.le_succ _) (fun _ => rfl) hlv1_1 ?_
  by_cases q3 : (p1).toInt = 210
  · skip
    refine fx_qi (c := (p1).toInt = 210) q3 ?_
    refine fx_ts (tgt := 72) aj_d58 rfl (Nat.le_succ _) q3 (by decide) rfl rfl ?_
    show fx_W _ _ _ 72 lv1 [] _ _
    refine fx_i2 aj_d58 rfl (Nat.le_succ _) (fun _ => rfl) hlv1_0 ?_
    refine fx_i0 aj_d58 rfl (Nat.le_succ _) (fun _ => rfl) hlv1_2 ?_
    refine fx_cv aj_d58 rfl (Nat.le_succ _) rfl [_] rfl rfl (gx_59_ok p2) ?_
    rintro _ X4 ⟨w5, rfl, hR4⟩ hok4 hle4
    refine fx_qc hR4 ?_
    show fx_W _ _ _ 77 lv1 [] _ _
    refine fx_n (pc' := 312) (lv' := lv1) (st' := []) aj_d58 rfl (Nat.le_succ _) (fun _ => rfl) ?_
    exact fx_rn aj_d58 rfl ⟨(), rfl, 0, rfl⟩
  · skip
    refine fx_qe (c := (p1).toInt = 210) q3 ?_
    by_cases q6 : (p1).toInt = 211
    · skip
      refine fx_qi (c := (p1).toInt = 211) q6 ?_
      refine fx_ts (tgt := 80) aj_d58 rfl (Nat.le_succ _) q6 (by decide) rfl rfl ?_
      show fx_W _ _ _ 80 lv1 [] _ _
      refine fx_i2 aj_d58 rfl (Nat.le_succ _) (fun _ => rfl) hlv1_0 ?_
      refine fx_n (pc' := 82) (lv' := lv1) (st' := [.ref 91, .ref 91]) aj_d58 rfl (Nat.le_succ _) (fun _ => rfl) ?_
      refine fx_gI aj_d58 rfl (Nat.le_succ _) rfl rfl (Or.inl rfl) ?_
      refine fx_n (pc' := 86) (lv' := lv1) (st' := [.int (Int32.ofInt 1), .int (X.1 91 5), .ref 91]) aj_d58 rfl (Nat.le_succ _) (fun _ => rfl) ?_
      refine fx_n (pc' := 87) (lv' := lv1) (st' := [.int ((X.1 91 5) - (Int32.ofInt 1)), .ref 91]) aj_d58 rfl (Nat.le_succ _) (fun _ => rfl) ?_
      refine fx_pI aj_d58 rfl (Nat.le_succ _) rfl rfl (Or.inl rfl) fx_no_0_5 (by decide) ?_
      refine fx_qX (fun X7 eX7 => ?_)
      show fx_W _ _ _ 90 lv1 [] _ _
      refine fx_i2 aj_d58 rfl (Nat.le_succ _) (fun _ => rfl) hlv1_0 ?_
      refine fx_i2 aj_d58 rfl (Nat.le_succ _) (fun _ => rfl) hlv1_0 ?_
      refine fx_gI aj_d58 rfl (Nat.le_succ _) rfl rfl (Or.inl rfl) ?_
      refine fx_n (pc' := 96) (lv' := lv1) (st' := [.int (Int32.ofInt 1), .int (X7.1 91 5), .ref 91]) aj_d58 rfl (Nat.le_succ _) (fun _ => rfl) ?_
      refine fx_n (pc' := 97) (lv' := lv1) (st' := [.int ((X7.1 91 5) - (Int32.ofInt 1)), .ref 91]) aj_d58 rfl (Nat.le_succ _) (fun _ => rfl) ?_
      refine fx_i2 aj_d58 rfl (Nat.le_succ _) (fun _ => rfl) hlv1_0 ?_
      refine fx_gI aj_d58 rfl (Nat.le_succ _) rfl rfl (Or.inl rfl) ?_
      refine fx_cv aj_d58 rfl (Nat.le_succ _) rfl [_, _] rfl rfl (gx_68_ok ((X7.1 91 5) - (Int32.ofInt 1)) (X7.1 91 5)) ?_
      rintro _ X8 ⟨w9, rfl, hR8⟩ hok8 hle8
      refine fx_qc hR8 ?_
      show fx_W _ _ _ 104 lv1 [.int w9] _ _
      refine fx_b0 (tgt := 312) aj_d58 rfl (Nat.le_succ _) rfl (fun q10 => ?_) (fun q10 => ?_)
      · skip
        refine fx_qe (c := (w9).toInt = 0) (fx_t_ne q10) ?_
        show fx_W _ _ _ 312 lv1 [] _ _
        exact fx_rn aj_d58 rfl ⟨(), rfl, 0, rfl⟩
      · skip
        refine fx_qi (c := (w9).toInt = 0) (fx_f_ne q10) ?_
        show fx_W _ _ _ 107 lv1 [] _ _
        refine fx_i2 aj_d58 rfl (Nat.le_succ _) (fun _ => rfl) hlv1_0 ?_
        refine fx_n (pc' := 109) (lv' := lv1) (st' := [.int (Int32.ofInt 5), .ref 91]) aj_d58 rfl (Nat.le_succ _) (fun _ => rfl) ?_
        refine fx_i0 aj_d58 rfl (Nat.le_succ _) (fun _ => rfl) hlv1_2 ?_
        refine fx_cv aj_d58 rfl (Nat.le_succ _) rfl [_, _] rfl rfl (gx_71_ok (Int32.ofInt 5) p2) ?_
        rintro _ X11 ⟨w12, rfl, hR11⟩ hok11 hle11
        refine fx_qc hR11 ?_
        show fx_W _ _ _ 113 lv1 [] _ _
        refine fx_n (pc' := 312) (lv' := lv1) (st' := []) aj_d58 rfl (Nat.le_succ _) (fun _ => rfl) ?_
        exact fx_rn aj_d58 rfl ⟨(), rfl, 0, rfl⟩
    · skip
      refine fx_qe (c := (p1).toInt = 211) q6 ?_
      by_cases q13 : (p1).toInt = 212
      · skip
        refine fx_qi (c := (p1).toInt = 212) q13 ?_
        refine fx_ts (tgt := 80) aj_d58 rfl (Nat.le_succ _) q13 (by decide) rfl rfl ?_
        show fx_W _ _ _ 80 lv1 [] _ _
        refine fx_i2 aj_d58 rfl (Nat.le_succ _) (fun _ => rfl) hlv1_0 ?_
        refine fx_n (pc' := 82) (lv' := lv1) (st' := [.ref 91, .ref 91]) aj_d58 rfl (Nat.le_succ _) (fun _ => rfl) ?_
        refine fx_gI aj_d58 rfl (Nat.le_succ _) rfl rfl (Or.inl rfl) ?_
        refine fx_n (pc' := 86) (lv' := lv1) (st' := [.int (Int32.ofInt 1), .int (X.1 91 5), .ref 91]) aj_d58 rfl (Nat.le_succ _) (fun _ => rfl) ?_
        refine fx_n (pc' := 87) (lv' := lv1) (st' := [.int ((X.1 91 5) - (Int32.ofInt 1)), .ref 91]) aj_d58 rfl (Nat.le_succ _) (fun _ => rfl) ?_
        refine fx_pI aj_d58 rfl (Nat.le_succ _) rfl rfl (Or.inl rfl) fx_no_0_5 (by decide) ?_
        refine fx_qX (fun X14 eX14 => ?_)
        show fx_W _ _ _ 90 lv1 [] _ _
        refine fx_i2 aj_d58 rfl (Nat.le_succ _) (fun _ => rfl) hlv1_0 ?_
        refine fx_i2 aj_d58 rfl (Nat.le_succ _) (fun _ => rfl) hlv1_0 ?_
        refine fx_gI aj_d58 rfl (Nat.le_succ _) rfl rfl (Or.inl rfl) ?_
        refine fx_n (pc' := 96) (lv' := lv1) (st' := [.int (Int32.ofInt 1), .int (X14.1 91 5), .ref 91]) aj_d58 rfl (Nat.le_succ _) (fun _ => rfl) ?_
        refine fx_n (pc' := 97) (lv' := lv1) (st' := [.int ((X14.1 91 5) - (Int32.ofInt 1)), .ref 91]) aj_d58 rfl (Nat.le_succ _) (fun _ => rfl) ?_
        refine fx_i2 aj_d58 rfl (Nat.le_succ _) (fun _ => rfl) hlv1_0 ?_
        refine fx_gI aj_d58 rfl (Nat.le_succ _) rfl rfl (Or.inl rfl) ?_
        refine fx_cv aj_d58 rfl (Nat.le_succ _) rfl [_, _] rfl rfl (gx_68_ok ((X14.1 91 5) - (Int32.ofInt 1)) (X14.1 91 5)) ?_
        rintro _ X15 ⟨w16, rfl, hR15⟩ hok15 hle15
        refine fx_qc hR15 ?_
        show fx_W _ _ _ 104 lv1 [.int w16] _ _
        refine fx_b0 (tgt := 312) aj_d58 rfl (Nat.le_succ _) rfl (fun q17 => ?_) (fun q17 => ?_)
        · skip
          refine fx_qe (c := (w16).toInt = 0) (fx_t_ne q17) ?_
          show fx_W _ _ _ 312 lv1 [] _ _
          exact fx_rn aj_d58 rfl ⟨(), rfl, 0, rfl⟩
        · skip
          refine fx_qi (c := (w16).toInt = 0) (fx_f_ne q17) ?_
          show fx_W _ _ _ 107 lv1 [] _ _
          refine fx_i2 aj_d58 rfl (Nat.le_succ _) (fun _ => rfl) hlv1_0 ?_
          refine fx_n (pc' := 109) (lv' := lv1) (st' := [.int (Int32.ofInt 5), .ref 91]) aj_d58 rfl (Nat.le_succ _) (fun _ => rfl) ?_
          refine fx_i0 aj_d58 rfl (Nat.le_succ _) (fun _ => rfl) hlv1_2 ?_
          refine fx_cv aj_d58 rfl (Nat.le_succ _) rfl [_, _] rfl rfl (gx_71_ok (Int32.ofInt 5) p2) ?_
          rintro _ X18 ⟨w19, rfl, hR18⟩ hok18 hle18
          refine fx_qc hR18 ?_
          show fx_W _ _ _ 113 lv1 [] _ _
          refine fx_n (pc' := 312) (lv' := lv1) (st' := []) aj_d58 rfl (Nat.le_succ _) (fun _ => rfl) ?_
          exact fx_rn aj_d58 rfl ⟨(), rfl, 0, rfl⟩
      · skip
        refine fx_qe (c := (p1).toInt = 212) q13 ?_
        by_cases q20 : (p1).toInt = 213
        · skip
          refine fx_qi (c := (p1).toInt = 213) q20 ?_
          refine fx_ts (tgt := 116) aj_d58 rfl (Nat.le_succ _) q20 (by decide) rfl rfl ?_
          show fx_W _ _ _ 116 lv1 [] _ _
          refine fx_i2 aj_d58 rfl (Nat.le_succ _) (fun _ => rfl) hlv1_0 ?_
          refine fx_n (pc' := 118) (lv' := lv1) (st' := [.ref 91, .ref 91]) aj_d58 rfl (Nat.le_succ _) (fun _ => rfl) ?_
          refine fx_gI aj_d58 rfl (Nat.le_succ _) rfl rfl (Or.inl rfl) ?_
          refine fx_n (pc' := 122) (lv' := lv1) (st' := [.int (Int32.ofInt 1), .int (X.1 91 5), .ref 91]) aj_d58 rfl (Nat.le_succ _) (fun _ => rfl) ?_
          refine fx_n (pc' := 123) (lv' := lv1) (st' := [.int ((X.1 91 5) - (Int32.ofInt 1)), .ref 91]) aj_d58 rfl (Nat.le_succ _) (fun _ => rfl) ?_
          refine fx_pI aj_d58 rfl (Nat.le_succ _) rfl rfl (Or.inl rfl) fx_no_0_5 (by decide) ?_
          refine fx_qX (fun X21 eX21 => ?_)
          show fx_W _ _ _ 126 lv1 [] _ _
          refine fx_i2 aj_d58 rfl (Nat.le_succ _) (fun _ => rfl) hlv1_0 ?_
          refine fx_i0 aj_d58 rfl (Nat.le_succ _) (fun _ => rfl) hlv1_2 ?_
          refine fx_cv aj_d58 rfl (Nat.le_succ _) rfl [_] rfl rfl (gx_73_ok p2) ?_
          rintro _ X22 ⟨w23, rfl, hR22⟩ hok22 hle22
          refine fx_qc hR22 ?_
          show fx_W _ _ _ 131 lv1 [] _ _
          refine fx_n (pc' := 312) (lv' := lv1) (st' := []) aj_d58 rfl (Nat.le_succ _) (fun _ => rfl) ?_
          exact fx_rn aj_d58 rfl ⟨(), rfl, 0, rfl⟩
        · skip
          refine fx_qe (c := (p1).toInt = 213) q20 ?_
          by_cases q24 : (p1).toInt = 215
          · skip
            refine fx_qi (c := (p1).toInt = 215) q24 ?_
            refine fx_ts (tgt := 134) aj_d58 rfl (Nat.le_succ _) q24 (by decide) rfl rfl ?_
            show fx_W _ _ _ 134 lv1 [] _ _
            refine fx_i2 aj_d58 rfl (Nat.le_succ _) (fun _ => rfl) hlv1_0 ?_
            refine fx_n (pc' := 136) (lv' := lv1) (st' := [.int (Int32.ofInt 0), .ref 91]) aj_d58 rfl (Nat.le_succ _) (fun _ => rfl) ?_
            refine fx_pI aj_d58 rfl (Nat.le_succ _) rfl rfl (Or.inl rfl) fx_no_0_7 (by decide) ?_
            refine fx_qX (fun X25 eX25 => ?_)
            show fx_W _ _ _ 139 lv1 [] _ _
            refine fx_n (pc' := 312) (lv' := lv1) (st' := []) aj_d58 rfl (Nat.le_succ _) (fun _ => rfl) ?_
            exact fx_rn aj_d58 rfl ⟨(), rfl, 0, rfl⟩
          · skip
            refine fx_qe (c := (p1).toInt = 215) q24 ?_
            by_cases q26 : (p1).toInt = 216
            · skip
              refine fx_qi (c := (p1).toInt = 216) q26 ?_
              refine fx_ts (tgt := 142) aj_d58 rfl (Nat.le_succ _) q26 (by decide) rfl rfl ?_
              show fx_W _ _ _ 142 lv1 [] _ _
              refine fx_i2 aj_d58 rfl (Nat.le_succ _) (fun _ => rfl) hlv1_0 ?_
              refine fx_i0 aj_d58 rfl (Nat.le_succ _) (fun _ => rfl) hlv1_2 ?_
              refine fx_cv aj_d58 rfl (Nat.le_succ _) rfl [_] rfl rfl (gx_75_ok p2) ?_
              rintro _ X27 ⟨w28, rfl, hR27⟩ hok27 hle27
              refine fx_qc hR27 ?_
              show fx_W _ _ _ 147 lv1 [] _ _
              refine fx_n (pc' := 312) (lv' := lv1) (st' := []) aj_d58 rfl (Nat.le_succ _) (fun _ => rfl) ?_
              exact fx_rn aj_d58 rfl ⟨(), rfl, 0, rfl⟩
            · skip
              refine fx_qe (c := (p1).toInt = 216) q26 ?_
              by_cases q29 : (p1).toInt = 217
              · skip
                refine fx_qi (c := (p1).toInt = 217) q29 ?_
                refine fx_ts (tgt := 150) aj_d58 rfl (Nat.le_succ _) q29 (by decide) rfl rfl ?_
                show fx_W _ _ _ 150 lv1 [] _ _
                refine fx_i2 aj_d58 rfl (Nat.le_succ _) (fun _ => rfl) hlv1_0 ?_
                refine fx_cv aj_d58 rfl (Nat.le_succ _) rfl [] rfl rfl (gx_77_ok) ?_
                rintro _ X30 ⟨w31, rfl, hR30⟩ hok30 hle30
                refine fx_qc hR30 ?_
                show fx_W _ _ _ 154 lv1 [] _ _
                refine fx_n (pc' := 312) (lv' := lv1) (st' := []) aj_d58 rfl (Nat.le_succ _) (fun _ => rfl) ?_
                exact fx_rn aj_d58 rfl ⟨(), rfl, 0, rfl⟩
              · skip
                refine fx_qe (c := (p1).toInt = 217) q29 ?_
                by_cases q32 : (p1).toInt = 218
                · skip
                  refine fx_qi (c := (p1).toInt = 218) q32 ?_
                  refine fx_ts (tgt := 157) aj_d58 rfl (Nat.le_succ _) q32 (by decide) rfl rfl ?_
                  show fx_W _ _ _ 157 lv1 [] _ _
                  refine fx_i2 aj_d58 rfl (Nat.le_succ _) (fun _ => rfl) hlv1_0 ?_
                  refine fx_i2 aj_d58 rfl (Nat.le_succ _) (fun _ => rfl) hlv1_0 ?_
                  refine fx_i0 aj_d58 rfl (Nat.le_succ _) (fun _ => rfl) hlv1_2 ?_
                  refine fx_cv aj_d58 rfl (Nat.le_succ _) rfl [_] rfl rfl (gx_60_ok p2) ?_
                  rintro _ X33 ⟨w34, rfl, hR33⟩ hok33 hle33
                  refine fx_qc hR33 ?_
                  show fx_W _ _ _ 163 lv1 [.long w34, .ref 91] _ _
                  refine fx_pL aj_d58 rfl (Nat.le_succ _) rfl rfl rfl fx_no_0_8 (by decide) ?_
                  refine fx_qX (fun X35 eX35 => ?_)
                  show fx_W _ _ _ 166 lv1 [] _ _
                  refine fx_i2 aj_d58 rfl (Nat.le_succ _) (fun _ => rfl) hlv1_0 ?_
                  refine fx_i2 aj_d58 rfl (Nat.le_succ _) (fun _ => rfl) hlv1_0 ?_
                  refine fx_gI aj_d58 rfl (Nat.le_succ _) rfl rfl (Or.inl rfl) ?_
                  refine fx_n (pc' := 172) (lv' := lv1) (st' := [.int (Int32.ofInt 1), .int (X35.1 91 5), .ref 91]) aj_d58 rfl (Nat.le_succ _) (fun _ => rfl) ?_
                  refine fx_n (pc' := 173) (lv' := lv1) (st' := [.int ((X35.1 91 5) - (Int32.ofInt 1)), .ref 91]) aj_d58 rfl (Nat.le_succ _) (fun _ => rfl) ?_
                  refine fx_i2 aj_d58 rfl (Nat.le_succ _) (fun _ => rfl) hlv1_0 ?_
                  refine fx_gL aj_d58 rfl (Nat.le_succ _) rfl rfl rfl ?_
                  refine fx_cv aj_d58 rfl (Nat.le_succ _) rfl [_, _] rfl rfl (gx_74_ok ((X35.1 91 5) - (Int32.ofInt 1)) (X35.2.1 91 8)) ?_
                  rintro _ X36 ⟨w37, rfl, hR36⟩ hok36 hle36
                  refine fx_qc hR36 ?_
                  show fx_W _ _ _ 180 lv1 [.int w37] _ _
                  refine fx_b0 (tgt := 312) aj_d58 rfl (Nat.le_succ _) rfl (fun q38 => ?_) (fun q38 => ?_)
                  · skip
                    refine fx_qi (c := (w37).toInt < 0) (fx_t_lt q38) ?_
                    show fx_W _ _ _ 312 lv1 [] _ _
                    exact fx_rn aj_d58 rfl ⟨(), rfl, 0, rfl⟩
                  · skip
                    refine fx_qe (c := (w37).toInt < 0) (fx_f_lt q38) ?_
                    show fx_W _ _ _ 183 lv1 [] _ _
                    refine fx_i2 aj_d58 rfl (Nat.le_succ _) (fun _ => rfl) hlv1_0 ?_
                    refine fx_n (pc' := 185) (lv' := lv1) (st' := [.int (Int32.ofInt 3), .ref 91]) aj_d58 rfl (Nat.le_succ _) (fun _ => rfl) ?_
                    refine fx_i0 aj_d58 rfl (Nat.le_succ _) (fun _ => rfl) hlv1_2 ?_
                    refine fx_cv aj_d58 rfl (Nat.le_succ _) rfl [_, _] rfl rfl (gx_64_ok (Int32.ofInt 3) p2) ?_
                    rintro _ X39 ⟨w40, rfl, hR39⟩ hok39 hle39
                    refine fx_qc hR39 ?_
                    show fx_W _ _ _ 189 lv1 [] _ _
                    refine fx_n (pc' := 312) (lv' := lv1) (st' := []) aj_d58 rfl (Nat.le_succ _) (fun _ => rfl) ?_
                    exact fx_rn aj_d58 rfl ⟨(), rfl, 0, rfl⟩
                · skip
                  refine fx_qe (c := (p1).toInt = 218) q32 ?_
                  by_cases q41 : (p1).toInt = 219
                  · skip
                    refine fx_qi (c := (p1).toInt = 219) q41 ?_
                    refine fx_ts (tgt := 192) aj_d58 rfl (Nat.le_succ _) q41 (by decide) rfl rfl ?_
                    show fx_W _ _ _ 192 lv1 [] _ _
                    refine fx_i2 aj_d58 rfl (Nat.le_succ _) (fun _ => rfl) hlv1_0 ?_
                    refine fx_i0 aj_d58 rfl (Nat.le_succ _) (fun _ => rfl) hlv1_2 ?_
                    refine fx_i2 aj_d58 rfl (Nat.le_succ _) (fun _ => rfl) hlv1_0 ?_
                    refine fx_i2 aj_d58 rfl (Nat.le_succ _) (fun _ => rfl) hlv1_0 ?_
                    refine fx_gI aj_d58 rfl (Nat.le_succ _) rfl rfl (Or.inl rfl) ?_
                    refine fx_n (pc' := 200) (lv' := lv1) (st' := [.int (Int32.ofInt 1), .int (X.1 91 5), .ref 91, .int p2, .ref 91]) aj_d58 rfl (Nat.le_succ _) (fun _ => rfl) ?_
                    refine fx_n (pc' := 201) (lv' := lv1) (st' := [.int ((X.1 91 5) - (Int32.ofInt 1)), .ref 91, .int p2, .ref 91]) aj_d58 rfl (Nat.le_succ _) (fun _ => rfl) ?_
                    refine fx_i2 aj_d58 rfl (Nat.le_succ _) (fun _ => rfl) hlv1_0 ?_
                    refine fx_i0 aj_d58 rfl (Nat.le_succ _) (fun _ => rfl) hlv1_2 ?_
                    refine fx_cv aj_d58 rfl (Nat.le_succ _) rfl [_] rfl rfl (gx_60_ok p2) ?_
                    rintro _ X42 ⟨w43, rfl, hR42⟩ hok42 hle42
                    refine fx_qc hR42 ?_
                    show fx_W _ _ _ 206 lv1 [.long w43, .int ((X.1 91 5) - (Int32.ofInt 1)), .ref 91, .int p2, .ref 91] _ _
                    refine fx_cv aj_d58 rfl (Nat.le_succ _) rfl [_, _] rfl rfl (gx_74_ok ((X.1 91 5) - (Int32.ofInt 1)) w43) ?_
                    rintro _ X44 ⟨w45, rfl, hR44⟩ hok44 hle44
                    refine fx_qc hR44 ?_
                    show fx_W _ _ _ 209 lv1 [.int w45, .int p2, .ref 91] _ _
                    refine fx_cv aj_d58 rfl (Nat.le_succ _) rfl [_, _] rfl rfl (gx_78_ok p2 w45) ?_
                    rintro _ X46 ⟨w47, rfl, hR46⟩ hok46 hle46
                    refine fx_qc hR46 ?_
                    show fx_W _ _ _ 212 lv1 [] _ _
                    refine fx_i2 aj_d58 rfl (Nat.le_succ _) (fun _ => rfl) hlv1_0 ?_
                    refine fx_i2 aj_d58 rfl (Nat.le_succ _) (fun _ => rfl) hlv1_0 ?_
                    refine fx_gI aj_d58 rfl (Nat.le_succ _) rfl rfl (Or.inl rfl) ?_
                    refine fx_n (pc' := 218) (lv' := lv1) (st' := [.int (Int32.ofInt 1), .int (X46.1 91 5), .ref 91]) aj_d58 rfl (Nat.le_succ _) (fun _ => rfl) ?_
                    refine fx_n (pc' := 219) (lv' := lv1) (st' := [.int ((X46.1 91 5) - (Int32.ofInt 1)), .ref 91]) aj_d58 rfl (Nat.le_succ _) (fun _ => rfl) ?_
                    refine fx_i2 aj_d58 rfl (Nat.le_succ _) (fun _ => rfl) hlv1_0 ?_
                    refine fx_gF aj_d58 rfl (Nat.le_succ _) rfl rfl fx_in_0_1 (t := 82) rfl (fun hA48 => ?_)
                    refine fx_i0 aj_d58 rfl (Nat.le_succ _) (fun _ => rfl) hlv1_2 ?_
                    refine fx_cv aj_d58 rfl (Nat.le_succ _) rfl [_] rfl rfl (gx_40_ok p2) ?_
                    rintro _ X49 ⟨w50, rfl, hR49⟩ hok49 hle49
                    refine fx_qc hR49 ?_
                    show fx_W _ _ _ 227 lv1 [.int w50, .int ((X46.1 91 5) - (Int32.ofInt 1)), .ref 91] _ _
                    refine fx_i2 aj_d58 rfl (Nat.le_succ _) (fun _ => rfl) hlv1_0 ?_
                    refine fx_gL aj_d58 rfl (Nat.le_succ _) rfl rfl rfl ?_
                    refine fx_cv aj_d58 rfl (Nat.le_succ _) rfl [_, _, _] rfl rfl (gx_79_ok ((X46.1 91 5) - (Int32.ofInt 1)) w50 (X49.2.1 91 8)) ?_
                    rintro _ X51 ⟨w52, rfl, hR51⟩ hok51 hle51
                    refine fx_qc hR51 ?_
                    show fx_W _ _ _ 234 lv1 [] _ _
                    refine fx_n (pc' := 312) (lv' := lv1) (st' := []) aj_d58 rfl (Nat.le_succ _) (fun _ => rfl) ?_
                    exact fx_rn aj_d58 rfl ⟨(), rfl, 0, rfl⟩
                  · skip
                    refine fx_qe (c := (p1).toInt = 219) q41 ?_
                    by_cases q53 : (p1).toInt = 220
                    · skip
                      refine fx_qi (c := (p1).toInt = 220) q53 ?_
                      refine fx_ts (tgt := 237) aj_d58 rfl (Nat.le_succ _) q53 (by decide) rfl rfl ?_
                      show fx_W _ _ _ 237 lv1 [] _ _
                      refine fx_i2 aj_d58 rfl (Nat.le_succ _) (fun _ => rfl) hlv1_0 ?_
                      refine fx_gI aj_d58 rfl (Nat.le_succ _) rfl rfl (Or.inl rfl) ?_
                      refine fx_n (pc' := 243) (lv' := lv1) (st' := [.int ((Int8.ofInt 6).toInt32), .int (X.1 91 7)]) aj_d58 rfl (Nat.le_succ _) (fun _ => rfl) ?_
                      refine fx_b (tgt := 312) aj_d58 rfl (Nat.le_succ _) rfl (fun q54 => ?_) (fun q54 => ?_)
                      · skip
                        refine fx_qi (c := ((X.1 91 7)).toInt < 6) (fx_t_lt q54) ?_
                        show fx_W _ _ _ 312 lv1 [] _ _
                        exact fx_rn aj_d58 rfl ⟨(), rfl, 0, rfl⟩
                      · skip
                        refine fx_qe (c := ((X.1 91 7)).toInt < 6) (fx_f_lt q54) ?_
                        show fx_W _ _ _ 246 lv1 [] _ _
                        refine fx_i2 aj_d58 rfl (Nat.le_succ _) (fun _ => rfl) hlv1_0 ?_
                        refine fx_n (pc' := 248) (lv' := lv1) (st' := [.int (Int32.ofInt 5), .ref 91]) aj_d58 rfl (Nat.le_succ _) (fun _ => rfl) ?_
                        refine fx_i0 aj_d58 rfl (Nat.le_succ _) (fun _ => rfl) hlv1_2 ?_
                        refine fx_cv aj_d58 rfl (Nat.le_succ _) rfl [_, _] rfl rfl (gx_71_ok (Int32.ofInt 5) p2) ?_
                        rintro _ X55 ⟨w56, rfl, hR55⟩ hok55 hle55
                        refine fx_qc hR55 ?_
                        show fx_W _ _ _ 252 lv1 [] _ _
                        refine fx_n (pc' := 312) (lv' := lv1) (st' := []) aj_d58 rfl (Nat.le_succ _) (fun _ => rfl) ?_
                        exact fx_rn aj_d58 rfl ⟨(), rfl, 0, rfl⟩
                    · skip
                      refine fx_qe (c := (p1).toInt = 220) q53 ?_
                      by_cases q57 : (p1).toInt = 221
                      · skip
                        refine fx_qi (c := (p1).toInt = 221) q57 ?_
                        refine fx_ts (tgt := 255) aj_d58 rfl (Nat.le_succ _) q57 (by decide) rfl rfl ?_
                        show fx_W _ _ _ 255 lv1 [] _ _
                        refine fx_i2 aj_d58 rfl (Nat.le_succ _) (fun _ => rfl) hlv1_0 ?_
                        refine fx_gF aj_d58 rfl (Nat.le_succ _) rfl rfl fx_in_0_1 (t := 82) rfl (fun hA58 => ?_)
                        refine fx_i0 aj_d58 rfl (Nat.le_succ _) (fun _ => rfl) hlv1_2 ?_
                        refine fx_i2 aj_d58 rfl (Nat.le_succ _) (fun _ => rfl) hlv1_0 ?_
                        refine fx_gF aj_d58 rfl (Nat.le_succ _) rfl rfl fx_in_0_0 (t := 78) rfl (fun hA59 => ?_)
                        refine fx_i2 aj_d58 rfl (Nat.le_succ _) (fun _ => rfl) hlv1_0 ?_
                        refine fx_gF aj_d58 rfl (Nat.le_succ _) rfl rfl fx_in_0_1 (t := 82) rfl (fun hA60 => ?_)
                        refine fx_i0 aj_d58 rfl (Nat.le_succ _) (fun _ => rfl) hlv1_2 ?_
                        refine fx_cv aj_d58 rfl (Nat.le_succ _) rfl [_] rfl rfl (gx_61_ok p2) ?_
                        rintro _ X61 ⟨w62, rfl, hR61⟩ hok61 hle61
                        refine fx_qc hR61 ?_
                        show fx_W _ _ _ 272 lv1 [.int w62, .ref 78, .int p2, .ref 82] _ _
                        refine fx_cv aj_d58 rfl (Nat.le_succ _) rfl [_] rfl rfl (gx_46_ok w62) ?_
                        rintro _ X63 ⟨w64, rfl, hR63⟩ hok63 hle63
                        refine fx_qc hR63 ?_
                        show fx_W _ _ _ 275 lv1 [.int w64, .int p2, .ref 82] _ _
                        refine fx_cv aj_d58 rfl (Nat.le_succ _) rfl [_, _] rfl rfl (gx_41_ok p2 w64) ?_
                        rintro _ X65 ⟨w66, rfl, hR65⟩ hok65 hle65
                        refine fx_qc hR65 ?_
                        show fx_W _ _ _ 278 lv1 [] _ _
                        refine fx_n (pc' := 312) (lv' := lv1) (st' := []) aj_d58 rfl (Nat.le_succ _) (fun _ => rfl) ?_
                        exact fx_rn aj_d58 rfl ⟨(), rfl, 0, rfl⟩
                      · skip
                        refine fx_qe (c := (p1).toInt = 221) q57 ?_
                        by_cases q67 : (p1).toInt = 222
                        · skip
                          refine fx_qi (c := (p1).toInt = 222) q67 ?_
                          refine fx_ts (tgt := 281) aj_d58 rfl (Nat.le_succ _) q67 (by decide) rfl rfl ?_
                          show fx_W _ _ _ 281 lv1 [] _ _
                          refine fx_i2 aj_d58 rfl (Nat.le_succ _) (fun _ => rfl) hlv1_0 ?_
                          refine fx_i0 aj_d58 rfl (Nat.le_succ _) (fun _ => rfl) hlv1_2 ?_
                          refine fx_i2 aj_d58 rfl (Nat.le_succ _) (fun _ => rfl) hlv1_0 ?_
                          refine fx_i2 aj_d58 rfl (Nat.le_succ _) (fun _ => rfl) hlv1_0 ?_
                          refine fx_gI aj_d58 rfl (Nat.le_succ _) rfl rfl (Or.inl rfl) ?_
                          refine fx_n (pc' := 289) (lv' := lv1) (st' := [.int (Int32.ofInt 1), .int (X.1 91 5), .ref 91, .int p2, .ref 91]) aj_d58 rfl (Nat.le_succ _) (fun _ => rfl) ?_
                          refine fx_n (pc' := 290) (lv' := lv1) (st' := [.int ((X.1 91 5) - (Int32.ofInt 1)), .ref 91, .int p2, .ref 91]) aj_d58 rfl (Nat.le_succ _) (fun _ => rfl) ?_
                          refine fx_i2 aj_d58 rfl (Nat.le_succ _) (fun _ => rfl) hlv1_0 ?_
                          refine fx_i0 aj_d58 rfl (Nat.le_succ _) (fun _ => rfl) hlv1_2 ?_
                          refine fx_cv aj_d58 rfl (Nat.le_succ _) rfl [_] rfl rfl (gx_60_ok p2) ?_
                          rintro _ X68 ⟨w69, rfl, hR68⟩ hok68 hle68
                          refine fx_qc hR68 ?_
                          show fx_W _ _ _ 295 lv1 [.long w69, .int ((X.1 91 5) - (Int32.ofInt 1)), .ref 91, .int p2, .ref 91] _ _
                          refine fx_cv aj_d58 rfl (Nat.le_succ _) rfl [_, _] rfl rfl (gx_74_ok ((X.1 91 5) - (Int32.ofInt 1)) w69) ?_
                          rintro _ X70 ⟨w71, rfl, hR70⟩ hok70 hle70
                          refine fx_qc hR70 ?_
                          show fx_W _ _ _ 298 lv1 [.int w71, .int p2, .ref 91] _ _
                          refine fx_cv aj_d58 rfl (Nat.le_succ _) rfl [_, _] rfl rfl (gx_78_ok p2 w71) ?_
                          rintro _ X72 ⟨w73, rfl, hR72⟩ hok72 hle72
                          refine fx_qc hR72 ?_
                          show fx_W _ _ _ 301 lv1 [] _ _
                          refine fx_n (pc' := 312) (lv' := lv1) (st' := []) aj_d58 rfl (Nat.le_succ _) (fun _ => rfl) ?_
                          exact fx_rn aj_d58 rfl ⟨(), rfl, 0, rfl⟩
                        · skip
                          refine fx_qe (c := (p1).toInt = 222) q67 ?_
                          by_cases q74 : (p1).toInt = 223
                          · skip
                            refine fx_qi (c := (p1).toInt = 223) q74 ?_
                            refine fx_ts (tgt := 304) aj_d58 rfl (Nat.le_succ _) q74 (by decide) rfl rfl ?_
                            show fx_W _ _ _ 304 lv1 [] _ _
                            refine fx_i2 aj_d58 rfl (Nat.le_succ _) (fun _ => rfl) hlv1_0 ?_
                            refine fx_i0 aj_d58 rfl (Nat.le_succ _) (fun _ => rfl) hlv1_2 ?_
                            refine fx_cv aj_d58 rfl (Nat.le_succ _) rfl [_] rfl rfl (gx_80_ok p2) ?_
                            rintro _ X75 ⟨w76, rfl, hR75⟩ hok75 hle75
                            refine fx_qc hR75 ?_
                            show fx_W _ _ _ 309 lv1 [] _ _
                            refine fx_n (pc' := 312) (lv' := lv1) (st' := []) aj_d58 rfl (Nat.le_succ _) (fun _ => rfl) ?_
                            exact fx_rn aj_d58 rfl ⟨(), rfl, 0, rfl⟩
                          · skip
                            refine fx_qe (c := (p1).toInt = 223) q74 ?_
                            by_cases q77 : (p1).toInt = 214
                            · refine fx_ts (tgt := 312) aj_d58 rfl (Nat.le_succ _) q77 (by decide) rfl rfl ?_
                              show fx_W _ _ _ 312 lv1 [] _ _
                              exact fx_rn aj_d58 rfl ⟨(), rfl, 0, rfl⟩
                            · skip
                              refine fx_td (tgt := 312) aj_d58 rfl (Nat.le_succ _) (by omega) rfl ?_
                              show fx_W _ _ _ 312 lv1 [] _ _
                              exact fx_rn aj_d58 rfl ⟨(), rfl, 0, rfl⟩
def gxT_56_17 (p1 : Nat) (P : Nat → List Int32 → List Int64 → List Nat → fx_X → Unit → fx_X → Prop) (y2 : Int32) (X : fx_X) (v : Unit) (X' : fx_X) : Prop :=
  (if (y2).toInt < ((X.1 82 4)).toInt then (∃ (w10 : Int32) (X9 : fx_X), gx_57 y2 X w10 X9 ∧ (if ((X9.1 82 5)).toInt = 0 then ((if (w10).toInt < 210 then ((if (w10).toInt < 200 then (∃ (w17 : Unit) (X16 : fx_X), gx_85 w10 y2 X9 w17 X16 ∧ ∃ x18 : Int32, x18 = y2 + Int32.ofInt 1 ∧ P 17 [x18] [] [] X16 v X') else (∃ (w21 : Unit) (X20 : fx_X), gx_81 w10 y2 X9 w21 X20 ∧ ∃ x22 : Int32, x22 = y2 + Int32.ofInt 1 ∧ P 17 [x22] [] [] X20 v X'))) else (∃ (w25 : Unit) (X24 : fx_X), gx_58 w10 y2 X9 w25 X24 ∧ ∃ x26 : Int32, x26 = y2 + Int32.ofInt 1 ∧ P 17 [x26] [] [] X24 v X'))) else ((if (w10).toInt = 216 then ((if (w10).toInt < 210 then ((if (w10).toInt < 200 then (∃ (w32 : Unit) (X31 : fx_X), gx_85 w10 y2 X9 w32 X31 ∧ ∃ x33 : Int32, x33 = y2 + Int32.ofInt 1 ∧ P 17 [x33] [] [] X31 v X') else (∃ (w36 : Unit) (X35 : fx_X), gx_81 w10 y2 X9 w36 X35 ∧ ∃ x37 : Int32, x37 = y2 + Int32.ofInt 1 ∧ P 17 [x37] [] [] X35 v X'))) else (∃ (w40 : Unit) (X39 : fx_X), gx_58 w10 y2 X9 w40 X39 ∧ ∃ x41 : Int32, x41 = y2 + Int32.ofInt 1 ∧ P 17 [x41] [] [] X39 v X'))) else ((if (w10).toInt = 220 then ((if (w10).toInt < 210 then ((if (w10).toInt < 200 then (∃ (w47 : Unit) (X46 : fx_X), gx_85 w10 y2 X9 w47 X46 ∧ ∃ x48 : Int32, x48 = y2 + Int32.ofInt 1 ∧ P 17 [x48] [] [] X46 v X') else (∃ (w51 : Unit) (X50 : fx_X), gx_81 w10 y2 X9 w51 X50 ∧ ∃ x52 : Int32, x52 = y2 + Int32.ofInt 1 ∧ P 17 [x52] [] [] X50 v X'))) else (∃ (w55 : Unit) (X54 : fx_X), gx_58 w10 y2 X9 w55 X54 ∧ ∃ x56 : Int32, x56 = y2 + Int32.ofInt 1 ∧ P 17 [x56] [] [] X54 v X'))) else (X' = X9))))))) else (X' = X))
def gxE_56 (p1 : Nat) (P : Nat → List Int32 → List Int64 → List Nat → fx_X → Unit → fx_X → Prop) (X : fx_X) (v : Unit) (X' : fx_X) : Prop :=
  ∃ X2 : fx_X, X2 = (fx_wR X 91 2 (some p1)) ∧ ∃ X3 : fx_X, X3 = (fx_wI X2 91 5 (Int32.ofInt 0)) ∧ ∃ X4 : fx_X, X4 = (fx_wI X3 91 7 (Int32.ofInt 0)) ∧ P 17 [(Int32.ofInt 0)] [] [] X4 v X'
noncomputable def gxF_56 (p1 : Nat) (n : Nat) : Nat → List Int32 → List Int64 → List Nat → fx_X → Unit → fx_X → Prop := Nat.rec (motive := fun _ => Nat → List Int32 → List Int64 → List Nat → fx_X → Unit → fx_X → Prop) (fun _ _ _ _ _ _ _ => False) (fun _ P l is ls rs X v X' => (l = 17 ∧ ∃ (y2 : Int32), is = [y2] ∧ ls = [] ∧ rs = [] ∧ gxT_56_17 p1 P y2 X v X')) n
theorem gxI_56_17 {p1 : Nat} {n : Nat} {y2 : Int32} {X : fx_X} {v : Unit} {X' : fx_X} (h : gxT_56_17 p1 (gxF_56 p1 n) y2 X v X') : gxF_56 p1 (n + 1) 17 [y2] [] [] X v X' := ⟨rfl, y2, rfl, rfl, rfl, h⟩
theorem gxO_56_17 {p1 : Nat} {n : Nat} {y2 : Int32} {X : fx_X} {v : Unit} {X' : fx_X} (h : gxF_56 p1 (n + 1) 17 [y2] [] [] X v X') : gxT_56_17 p1 (gxF_56 p1 n) y2 X v X' := by
  rcases h with ⟨-, _, e1, e2, e3, h⟩
  · cases e1; cases e2; cases e3; exact h
def gx_56 (p1 : Nat) (X : fx_X) (v : Unit) (X' : fx_X) : Prop := ∃ n : Nat, gxE_56 p1 (gxF_56 p1 n) X v X'
theorem gxL_56 {tb : aj_T} (p1 : Nat) : ∀ N : Nat, (∀ (lv : aj_V) (y2 : Int32) (X : fx_X), aj_lv lv 0 = some (.ref 91) → aj_lv lv 2 = some (.int y2) → fx_W tb aj_m56 N 17 lv [] X (fx_Q fx_qN (fun v X' => ∃ n : Nat, gxF_56 p1 n 17 [y2] [] [] X v X'))) := by
  intro N
  induction N with
  | zero => exact (by intros; exact fx_z)
  | succ N ih =>
    skip
    · intro lv y2 X hlv_0 hlv_2
      refine fx_mono (Q := fx_Q fx_qN (fun v X' => ∃ n : Nat, gxT_56_17 p1 (gxF_56 p1 n) y2 X v X')) (fun r X' ⟨v, e, n, z⟩ => ⟨v, e, n + 1, gxI_56_17 z⟩) ?_
      unfold gxT_56_17
      refine fx_i0 aj_d56 rfl (Nat.le_refl _) (fun _ => rfl) hlv_2 ?_
      refine fx_i2 aj_d56 rfl (Nat.le_succ _) (fun _ => rfl) hlv_0 ?_
      refine fx_gF aj_d56 rfl (Nat.le_succ _) rfl rfl fx_in_0_1 (t := 82) rfl (fun hA6 => ?_)
      refine fx_gI aj_d56 rfl (Nat.le_succ _) rfl rfl (Or.inl rfl) ?_
      refine fx_b (tgt := 106) aj_d56 rfl (Nat.le_succ _) rfl (fun q7 => ?_) (fun q7 => ?_)
      · skip
        refine fx_qe (c := (y2).toInt < ((X.1 82 4)).toInt) (fx_t_ge q7) ?_
        show fx_W _ _ _ 106 lv [] _ _
        exact fx_rn aj_d56 rfl ⟨(), rfl, 0, rfl⟩
      · skip
        refine fx_qi (c := (y2).toInt < ((X.1 82 4)).toInt) (fx_f_ge q7) ?_
        show fx_W _ _ _ 28 lv [] _ _
        refine fx_i2 aj_d56 rfl (Nat.le_succ _) (fun _ => rfl) hlv_0 ?_
        refine fx_gF aj_d56 rfl (Nat.le_succ _) rfl rfl fx_in_0_1 (t := 82) rfl (fun hA8 => ?_)
        refine fx_i0 aj_d56 rfl (Nat.le_succ _) (fun _ => rfl) hlv_2 ?_
        refine fx_cv aj_d56 rfl (Nat.le_succ _) rfl [_] rfl rfl (gx_57_ok y2) ?_
        rintro _ X9 ⟨w10, rfl, hR9⟩ hok9 hle9
        refine fx_qc hR9 ?_
        show fx_W _ _ _ 36 lv [.int w10] _ _
        refine fx_s0 (j := 3) aj_d56 rfl (Nat.le_succ _) (by decide) (fun _ => rfl) ?_
        obtain ⟨lv11, elv11⟩ : ∃ l, l = aj_set1 lv 3 (.int w10) := ⟨_, rfl⟩
        rw [← elv11]
        have hlv11_0 : aj_lv lv11 0 = some (.ref 91) := fx_e1 elv11 hlv_0 (by decide) (Or.inl (by decide))
        have hlv11_2 : aj_lv lv11 2 = some (.int y2) := fx_e1 elv11 hlv_2 (by decide) (Or.inr rfl)
        have hlv11_3 : aj_lv lv11 3 = some (.int w10) := by rw [elv11]; exact ak_set1_eq _ _ _
        show fx_W _ _ _ 37 lv11 [] _ _
        refine fx_i2 aj_d56 rfl (Nat.le_succ _) (fun _ => rfl) hlv11_0 ?_
        refine fx_gF aj_d56 rfl (Nat.le_succ _) rfl rfl fx_in_0_1 (t := 82) rfl (fun hA12 => ?_)
        refine fx_gI aj_d56 rfl (Nat.le_succ _) rfl rfl (Or.inl rfl) ?_
        refine fx_b0 (tgt := 62) aj_d56 rfl (Nat.le_succ _) rfl (fun q13 => ?_) (fun q13 => ?_)
        · skip
          refine fx_qi (c := ((X9.1 82 5)).toInt = 0) (fx_t_eq q13) ?_
          show fx_W _ _ _ 62 lv11 [] _ _
          refine fx_i0 aj_d56 rfl (Nat.le_succ _) (fun _ => rfl) hlv11_3 ?_
          refine fx_n (pc' := 66) (lv' := lv11) (st' := [.int ((Int16.ofInt 210).toInt32), .int w10]) aj_d56 rfl (Nat.le_succ _) (fun _ => rfl) ?_
          refine fx_b (tgt := 78) aj_d56 rfl (Nat.le_succ _) rfl (fun q14 => ?_) (fun q14 => ?_)
          · skip
            refine fx_qi (c := (w10).toInt < 210) (fx_t_lt q14) ?_
            show fx_W _ _ _ 78 lv11 [] _ _
            refine fx_i0 aj_d56 rfl (Nat.le_succ _) (fun _ => rfl) hlv11_3 ?_
            refine fx_n (pc' := 82) (lv' := lv11) (st' := [.int ((Int16.ofInt 200).toInt32), .int w10]) aj_d56 rfl (Nat.le_succ _) (fun _ => rfl) ?_
            refine fx_b (tgt := 94) aj_d56 rfl (Nat.le_succ _) rfl (fun q15 => ?_) (fun q15 => ?_)
            · skip
              refine fx_qi (c := (w10).toInt < 200) (fx_t_lt q15) ?_
              show fx_W _ _ _ 94 lv11 [] _ _
              refine fx_i2 aj_d56 rfl (Nat.le_succ _) (fun _ => rfl) hlv11_0 ?_
              refine fx_i0 aj_d56 rfl (Nat.le_succ _) (fun _ => rfl) hlv11_3 ?_
              refine fx_i0 aj_d56 rfl (Nat.le_succ _) (fun _ => rfl) hlv11_2 ?_
              refine fx_cv aj_d56 rfl (Nat.le_succ _) rfl [_, _] rfl rfl (gx_85_ok w10 y2) ?_
              rintro _ X16 ⟨w17, rfl, hR16⟩ hok16 hle16
              refine fx_qc hR16 ?_
              show fx_W _ _ _ 100 lv11 [] _ _
              refine fx_incq aj_d56 rfl (Nat.le_succ _) hlv11_2 (by decide) (fun x18 ex18 => ?_)
              obtain ⟨lv19, elv19⟩ : ∃ l, l = aj_set1 lv11 2 (.int x18) := ⟨_, rfl⟩
              rw [← elv19]
              have hlv19_0 : aj_lv lv19 0 = some (.ref 91) := fx_e1 elv19 hlv11_0 (by decide) (Or.inl (by decide))
              have hlv19_2 : aj_lv lv19 2 = some (.int x18) := by rw [elv19]; exact ak_set1_eq _ _ _
              show fx_W _ _ _ 103 lv19 [] _ _
              refine fx_n (pc' := 17) (lv' := lv19) (st' := []) aj_d56 rfl (Nat.le_succ _) (fun _ => rfl) ?_
              exact (ih) lv19 (x18) X16  hlv19_0 hlv19_2
            · skip
              refine fx_qe (c := (w10).toInt < 200) (fx_f_lt q15) ?_
              show fx_W _ _ _ 85 lv11 [] _ _
              refine fx_i2 aj_d56 rfl (Nat.le_succ _) (fun _ => rfl) hlv11_0 ?_
              refine fx_i0 aj_d56 rfl (Nat.le_succ _) (fun _ => rfl) hlv11_3 ?_
              refine fx_i0 aj_d56 rfl (Nat.le_succ _) (fun _ => rfl) hlv11_2 ?_
              refine fx_cv aj_d56 rfl (Nat.le_succ _) rfl [_, _] rfl rfl (gx_81_ok w10 y2) ?_
              rintro _ X20 ⟨w21, rfl, hR20⟩ hok20 hle20
              refine fx_qc hR20 ?_
              show fx_W _ _ _ 91 lv11 [] _ _
              refine fx_n (pc' := 100) (lv' := lv11) (st' := []) aj_d56 rfl (Nat.le_succ _) (fun _ => rfl) ?_
              refine fx_incq aj_d56 rfl (Nat.le_succ _) hlv11_2 (by decide) (fun x22 ex22 => ?_)
              obtain ⟨lv23, elv23⟩ : ∃ l, l = aj_set1 lv11 2 (.int x22) := ⟨_, rfl⟩
              rw [← elv23]
              have hlv23_0 : aj_lv lv23 0 = some (.ref 91) := fx_e1 elv23 hlv11_0 (by decide) (Or.inl (by decide))
              have hlv23_2 : aj_lv lv23 2 = some (.int x22) := by rw [elv23]; exact ak_set1_eq _ _ _
              show fx_W _ _ _ 103 lv23 [] _ _
              refine fx_n (pc' := 17) (lv' := lv23) (st' := []) aj_d56 rfl (Nat.le_succ _) (fun _ => rfl) ?_
              exact (ih) lv23 (x22) X20  hlv23_0 hlv23_2
          · skip
            refine fx_qe (c := (w10).toInt < 210) (fx_f_lt q14) ?_
            show fx_W _ _ _ 69 lv11 [] _ _
            refine fx_i2 aj_d56 rfl (Nat.le_succ _) (fun _ => rfl) hlv11_0 ?_
            refine fx_i0 aj_d56 rfl (Nat.le_succ _) (fun _ => rfl) hlv11_3 ?_
            refine fx_i0 aj_d56 rfl (Nat.le_succ _) (fun _ => rfl) hlv11_2 ?_
            refine fx_cv aj_d56 rfl (Nat.le_succ _) rfl [_, _] rfl rfl (gx_58_ok w10 y2) ?_
            rintro _ X24 ⟨w25, rfl, hR24⟩ hok24 hle24
            refine fx_qc hR24 ?_
            show fx_W _ _ _ 75 lv11 [] _ _
            refine fx_n (pc' := 100) (lv' := lv11) (st' := []) aj_d56 rfl (Nat.le_succ _) (fun _ => rfl) ?_
            refine fx_incq aj_d56 rfl (Nat.le_succ _) hlv11_2 (by decide) (fun x26 ex26 => ?_)
            obtain ⟨lv27, elv27⟩ : ∃ l, l = aj_set1 lv11 2 (.int x26) := ⟨_, rfl⟩
            rw [← elv27]
            have hlv27_0 : aj_lv lv27 0 = some (.ref 91) := fx_e1 elv27 hlv11_0 (by decide) (Or.inl (by decide))
            have hlv27_2 : aj_lv lv27 2 = some (.int x26) := by rw [elv27]; exact ak_set1_eq _ _ _
            show fx_W _ _ _ 103 lv27 [] _ _
            refine fx_n (pc' := 17) (lv' := lv27) (st' := []) aj_d56 rfl (Nat.le_succ _) (fun _ => rfl) ?_
            exact (ih) lv27 (x26) X24  hlv27_0 hlv27_2
        · skip
          refine fx_qe (c := ((X9.1 82 5)).toInt = 0) (fx_f_eq q13) ?_
          show fx_W _ _ _ 47 lv11 [] _ _
          refine fx_i0 aj_d56 rfl (Nat.le_succ _) (fun _ => rfl) hlv11_3 ?_
          refine fx_n (pc' := 51) (lv' := lv11) (st' := [.int ((Int16.ofInt 216).toInt32), .int w10]) aj_d56 rfl (Nat.le_succ _) (fun _ => rfl) ?_
          refine fx_b (tgt := 62) aj_d56 rfl (Nat.le_succ _) rfl (fun q28 => ?_) (fun q28 => ?_)
          · skip
            refine fx_qi (c := (w10).toInt = 216) (fx_t_eq q28) ?_
            show fx_W _ _ _ 62 lv11 [] _ _
            refine fx_i0 aj_d56 rfl (Nat.le_succ _) (fun _ => rfl) hlv11_3 ?_
            refine fx_n (pc' := 66) (lv' := lv11) (st' := [.int ((Int16.ofInt 210).toInt32), .int w10]) aj_d56 rfl (Nat.le_succ _) (fun _ => rfl) ?_
            refine fx_b (tgt := 78) aj_d56 rfl (Nat.le_succ _) rfl (fun q29 => ?_) (fun q29 => ?_)
            · skip
              refine fx_qi (c := (w10).toInt < 210) (fx_t_lt q29) ?_
              show fx_W _ _ _ 78 lv11 [] _ _
              refine fx_i0 aj_d56 rfl (Nat.le_succ _) (fun _ => rfl) hlv11_3 ?_
              refine fx_n (pc' := 82) (lv' := lv11) (st' := [.int ((Int16.ofInt 200).toInt32), .int w10]) aj_d56 rfl (Nat.le_succ _) (fun _ => rfl) ?_
              refine fx_b (tgt := 94) aj_d56 rfl (Nat.le_succ _) rfl (fun q30 => ?_) (fun q30 => ?_)
              · skip
                refine fx_qi (c := (w10).toInt < 200) (fx_t_lt q30) ?_
                show fx_W _ _ _ 94 lv11 [] _ _
                refine fx_i2 aj_d56 rfl (Nat.le_succ _) (fun _ => rfl) hlv11_0 ?_
                refine fx_i0 aj_d56 rfl (Nat.le_succ _) (fun _ => rfl) hlv11_3 ?_
                refine fx_i0 aj_d56 rfl (Nat.le_succ _) (fun _ => rfl) hlv11_2 ?_
                refine fx_cv aj_d56 rfl (Nat.le_succ _) rfl [_, _] rfl rfl (gx_85_ok w10 y2) ?_
                rintro _ X31 ⟨w32, rfl, hR31⟩ hok31 hle31
                refine fx_qc hR31 ?_
                show fx_W _ _ _ 100 lv11 [] _ _
                refine fx_incq aj_d56 rfl (Nat.le_succ _) hlv11_2 (by decide) (fun x33 ex33 => ?_)
                obtain ⟨lv34, elv34⟩ : ∃ l, l = aj_set1 lv11 2 (.int x33) := ⟨_, rfl⟩
                rw [← elv34]
                have hlv34_0 : aj_lv lv34 0 = some (.ref 91) := fx_e1 elv34 hlv11_0 (by decide) (Or.inl (by decide))
                have hlv34_2 : aj_lv lv34 2 = some (.int x33) := by rw [elv34]; exact ak_set1_eq _ _ _
                show fx_W _ _ _ 103 lv34 [] _ _
                refine fx_n (pc' := 17) (lv' := lv34) (st' := []) aj_d56 rfl (Nat.le_succ _) (fun _ => rfl) ?_
                exact (ih) lv34 (x33) X31  hlv34_0 hlv34_2
              · skip
                refine fx_qe (c := (w10).toInt < 200) (fx_f_lt q30) ?_
                show fx_W _ _ _ 85 lv11 [] _ _
                refine fx_i2 aj_d56 rfl (Nat.le_succ _) (fun _ => rfl) hlv11_0 ?_
                refine fx_i0 aj_d56 rfl (Nat.le_succ _) (fun _ => rfl) hlv11_3 ?_
                refine fx_i0 aj_d56 rfl (Nat.le_succ _) (fun _ => rfl) hlv11_2 ?_
                refine fx_cv aj_d56 rfl (Nat.le_succ _) rfl [_, _] rfl rfl (gx_81_ok w10 y2) ?_
                rintro _ X35 ⟨w36, rfl, hR35⟩ hok35 hle35
                refine fx_qc hR35 ?_
                show fx_W _ _ _ 91 lv11 [] _ _
                refine fx_n (pc' := 100) (lv' := lv11) (st' := []) aj_d56 rfl (Nat.le_succ _) (fun _ => rfl) ?_
                refine fx_incq aj_d56 rfl (Nat.le_succ _) hlv11_2 (by decide) (fun x37 ex37 => ?_)
                obtain ⟨lv38, elv38⟩ : ∃ l, l = aj_set1 lv11 2 (.int x37) := ⟨_, rfl⟩
                rw [← elv38]
                have hlv38_0 : aj_lv lv38 0 = some (.ref 91) := fx_e1 elv38 hlv11_0 (by decide) (Or.inl (by decide))
                have hlv38_2 : aj_lv lv38 2 = some (.int x37) := by rw [elv38]; exact ak_set1_eq _ _ _
                show fx_W _ _ _ 103 lv38 [] _ _
                refine fx_n (pc' := 17) (lv' := lv38) (st' := []) aj_d56 rfl (Nat.le_succ _) (fun _ => rfl) ?_
                exact (ih) lv38 (x37) X35  hlv38_0 hlv38_2
            · skip
              refine fx_qe (c := (w10).toInt < 210) (fx_f_lt q29) ?_
              show fx_W _ _ _ 69 lv11 [] _ _
              refine fx_i2 aj_d56 rfl (Nat.le_succ _) (fun _ => rfl) hlv11_0 ?_
              refine fx_i0 aj_d56 rfl (Nat.le_succ _) (fun _ => rfl) hlv11_3 ?_
              refine fx_i0 aj_d56 rfl (Nat.le_succ _) (fun _ => rfl) hlv11_2 ?_
              refine fx_cv aj_d56 rfl (Nat.le_succ _) rfl [_, _] rfl rfl (gx_58_ok w10 y2) ?_
              rintro _ X39 ⟨w40, rfl, hR39⟩ hok39 hle39
              refine fx_qc hR39 ?_
              show fx_W _ _ _ 75 lv11 [] _ _
              refine fx_n (pc' := 100) (lv' := lv11) (st' := []) aj_d56 rfl (Nat.le_succ _) (fun _ => rfl) ?_
              refine fx_incq aj_d56 rfl (Nat.le_succ _) hlv11_2 (by decide) (fun x41 ex41 => ?_)
              obtain ⟨lv42, elv42⟩ : ∃ l, l = aj_set1 lv11 2 (.int x41) := ⟨_, rfl⟩
              rw [← elv42]
              have hlv42_0 : aj_lv lv42 0 = some (.ref 91) := fx_e1 elv42 hlv11_0 (by decide) (Or.inl (by decide))
              have hlv42_2 : aj_lv lv42 2 = some (.int x41) := by rw [elv42]; exact ak_set1_eq _ _ _
              show fx_W _ _ _ 103 lv42 [] _ _
              refine fx_n (pc' := 17) (lv' := lv42) (st' := []) aj_d56 rfl (Nat.le_succ _) (fun _ => rfl) ?_
              exact (ih) lv42 (x41) X39  hlv42_0 hlv42_2
          · skip
            refine fx_qe (c := (w10).toInt = 216) (fx_f_eq q28) ?_
            show fx_W _ _ _ 54 lv11 [] _ _
            refine fx_i0 aj_d56 rfl (Nat.le_succ _) (fun _ => rfl) hlv11_3 ?_
            refine fx_n (pc' := 58) (lv' := lv11) (st' := [.int ((Int16.ofInt 220).toInt32), .int w10]) aj_d56 rfl (Nat.le_succ _) (fun _ => rfl) ?_
            refine fx_b (tgt := 62) aj_d56 rfl (Nat.le_succ _) rfl (fun q43 => ?_) (fun q43 => ?_)
            · skip
              refine fx_qi (c := (w10).toInt = 220) (fx_t_eq q43) ?_
              show fx_W _ _ _ 62 lv11 [] _ _
              refine fx_i0 aj_d56 rfl (Nat.le_succ _) (fun _ => rfl) hlv11_3 ?_
              refine fx_n (pc' := 66) (lv' := lv11) (st' := [.int ((Int16.ofInt 210).toInt32), .int w10]) aj_d56 rfl (Nat.le_succ _) (fun _ => rfl) ?_
              refine fx_b (tgt := 78) aj_d56 rfl (Nat.le_succ _) rfl (fun q44 => ?_) (fun q44 => ?_)
              · skip
                refine fx_qi (c := (w10).toInt < 210) (fx_t_lt q44) ?_
                show fx_W _ _ _ 78 lv11 [] _ _
                refine fx_i0 aj_d56 rfl (Nat.le_succ _) (fun _ => rfl) hlv11_3 ?_
                refine fx_n (pc' := 82) (lv' := lv11) (st' := [.int ((Int16.ofInt 200).toInt32), .int w10]) aj_d56 rfl (Nat.le_succ _) (fun _ => rfl) ?_
                refine fx_b (tgt := 94) aj_d56 rfl (Nat.le_succ _) rfl (fun q45 => ?_) (fun q45 => ?_)
                · skip
                  refine fx_qi (c := (w10).toInt < 200) (fx_t_lt q45) ?_
                  show fx_W _ _ _ 94 lv11 [] _ _
                  refine fx_i2 aj_d56 rfl (Nat.le_succ _) (fun _ => rfl) hlv11_0 ?_
                  refine fx_i0 aj_d56 rfl (Nat.le_succ _) (fun _ => rfl) hlv11_3 ?_
                  refine fx_i0 aj_d56 rfl (Nat.le_succ _) (fun _ => rfl) hlv11_2 ?_
                  refine fx_cv aj_d56 rfl (Nat.le_succ _) rfl [_, _] rfl rfl (gx_85_ok w10 y2) ?_
                  rintro _ X46 ⟨w47, rfl, hR46⟩ hok46 hle46
                  refine fx_qc hR46 ?_
                  show fx_W _ _ _ 100 lv11 [] _ _
                  refine fx_incq aj_d56 rfl (Nat.le_succ _) hlv11_2 (by decide) (fun x48 ex48 => ?_)
                  obtain ⟨lv49, elv49⟩ : ∃ l, l = aj_set1 lv11 2 (.int x48) := ⟨_, rfl⟩
                  rw [← elv49]
                  have hlv49_0 : aj_lv lv49 0 = some (.ref 91) := fx_e1 elv49 hlv11_0 (by decide) (Or.inl (by decide))
                  have hlv49_2 : aj_lv lv49 2 = some (.int x48) := by rw [elv49]; exact ak_set1_eq _ _ _
                  show fx_W _ _ _ 103 lv49 [] _ _
                  refine fx_n (pc' := 17) (lv' := lv49) (st' := []) aj_d56 rfl (Nat.le_succ _) (fun _ => rfl) ?_
                  exact (ih) lv49 (x48) X46  hlv49_0 hlv49_2
                · skip
                  refine fx_qe (c := (w10).toInt < 200) (fx_f_lt q45) ?_
                  show fx_W _ _ _ 85 lv11 [] _ _
                  refine fx_i2 aj_d56 rfl (Nat.le_succ _) (fun _ => rfl) hlv11_0 ?_
                  refine fx_i0 aj_d56 rfl (Nat.le_succ _) (fun _ => rfl) hlv11_3 ?_
                  refine fx_i0 aj_d56 rfl (Nat.le_succ _) (fun _ => rfl) hlv11_2 ?_
                  refine fx_cv aj_d56 rfl (Nat.le_succ _) rfl [_, _] rfl rfl (gx_81_ok w10 y2) ?_
                  rintro _ X50 ⟨w51, rfl, hR50⟩ hok50 hle50
                  refine fx_qc hR50 ?_
                  show fx_W _ _ _ 91 lv11 [] _ _
                  refine fx_n (pc' := 100) (lv' := lv11) (st' := []) aj_d56 rfl (Nat.le_succ _) (fun _ => rfl) ?_
                  refine fx_incq aj_d56 rfl (Nat.le_succ _) hlv11_2 (by decide) (fun x52 ex52 => ?_)
                  obtain ⟨lv53, elv53⟩ : ∃ l, l = aj_set1 lv11 2 (.int x52) := ⟨_, rfl⟩
                  rw [← elv53]
                  have hlv53_0 : aj_lv lv53 0 = some (.ref 91) := fx_e1 elv53 hlv11_0 (by decide) (Or.inl (by decide))
                  have hlv53_2 : aj_lv lv53 2 = some (.int x52) := by rw [elv53]; exact ak_set1_eq _ _ _
                  show fx_W _ _ _ 103 lv53 [] _ _
                  refine fx_n (pc' := 17) (lv' := lv53) (st' := []) aj_d56 rfl (Nat.le_succ _) (fun _ => rfl) ?_
                  exact (ih) lv53 (x52) X50  hlv53_0 hlv53_2
              · skip
                refine fx_qe (c := (w10).toInt < 210) (fx_f_lt q44) ?_
                show fx_W _ _ _ 69 lv11 [] _ _
                refine fx_i2 aj_d56 rfl (Nat.le_succ _) (fun _ => rfl) hlv11_0 ?_
                refine fx_i0 aj_d56 rfl (Nat.le_succ _) (fun _ => rfl) hlv11_3 ?_
                refine fx_i0 aj_d56 rfl (Nat.le_succ _) (fun _ => rfl) hlv11_2 ?_
                refine fx_cv aj_d56 rfl (Nat.le_succ _) rfl [_, _] rfl rfl (gx_58_ok w10 y2) ?_
                rintro _ X54 ⟨w55, rfl, hR54⟩ hok54 hle54
                refine fx_qc hR54 ?_
                show fx_W _ _ _ 75 lv11 [] _ _
                refine fx_n (pc' := 100) (lv' := lv11) (st' := []) aj_d56 rfl (Nat.le_succ _) (fun _ => rfl) ?_
                refine fx_incq aj_d56 rfl (Nat.le_succ _) hlv11_2 (by decide) (fun x56 ex56 => ?_)
                obtain ⟨lv57, elv57⟩ : ∃ l, l = aj_set1 lv11 2 (.int x56) := ⟨_, rfl⟩
                rw [← elv57]
                have hlv57_0 : aj_lv lv57 0 = some (.ref 91) := fx_e1 elv57 hlv11_0 (by decide) (Or.inl (by decide))
                have hlv57_2 : aj_lv lv57 2 = some (.int x56) := by rw [elv57]; exact ak_set1_eq _ _ _
                show fx_W _ _ _ 103 lv57 [] _ _
                refine fx_n (pc' := 17) (lv' := lv57) (st' := []) aj_d56 rfl (Nat.le_succ _) (fun _ => rfl) ?_
                exact (ih) lv57 (x56) X54  hlv57_0 hlv57_2
            · skip
              refine fx_qe (c := (w10).toInt = 220) (fx_f_eq q43) ?_
              show fx_W _ _ _ 61 lv11 [] _ _
              exact fx_rn aj_d56 rfl ⟨(), rfl, 0, rfl⟩
theorem gx_56_ok {tb : aj_T} (p1 : Nat) {X : fx_X} : fx_K tb 56 [.ref 91, .ref p1] X (fx_Q fx_qN (fun v X' => gx_56 p1 X v X')) := by
  refine fx_m aj_m56_at rfl (fun N => ?_)
  refine fx_mono (Q := fx_Q fx_qN (fun v X' => ∃ n : Nat, gxE_56 p1 (gxF_56 p1 n) X v X')) (fun r X' h => h) ?_
  unfold gxE_56
  show fx_W _ _ _ 0 [(0, .ref 91), (1, .ref p1)] [] _ _
  obtain ⟨lv1, elv1⟩ : ∃ l : aj_V, l = [(0, .ref 91), (1, .ref p1)] := ⟨_, rfl⟩
  rw [← elv1]
  have hlv1_0 : aj_lv lv1 0 = some (.ref 91) := by rw [elv1]; rfl
  have hlv1_1 : aj_lv lv1 1 = some (.ref p1) := by rw [elv1]; rfl
  refine fx_i2 aj_d56 rfl (Nat.le_succ _) (fun _ => rfl) hlv1_0 ?_
  refine fx_i2 aj_d56 rfl (Nat.le_succ _) (fun _ => rfl) hlv1_1 ?_
  refine fx_pR aj_d56 rfl (Nat.le_succ _) rfl rfl (Or.inl ⟨_, rfl⟩) fx_no_0_2 (o := (some p1)) rfl (fun _ z => by cases z) ?_
  refine fx_qX (fun X2 eX2 => ?_)
  show fx_W _ _ _ 5 lv1 [] _ _
  refine fx_i2 aj_d56 rfl (Nat.le_succ _) (fun _ => rfl) hlv1_0 ?_
  refine fx_n (pc' := 7) (lv' := lv1) (st' := [.int (Int32.ofInt 0), .ref 91]) aj_d56 rfl (Nat.le_succ _) (fun _ => rfl) ?_
  refine fx_pI aj_d56 rfl (Nat.le_succ _) rfl rfl (Or.inl rfl) fx_no_0_5 (by decide) ?_
  refine fx_qX (fun X3 eX3 => ?_)
  show fx_W _ _ _ 10 lv1 [] _ _
  refine fx_i2 aj_d56 rfl (Nat.le_succ _) (fun _ => rfl) hlv1_0 ?_
  refine fx_n (pc' := 12) (lv' := lv1) (st' := [.int (Int32.ofInt 0), .ref 91]) aj_d56 rfl (Nat.le_succ _) (fun _ => rfl) ?_
  refine fx_pI aj_d56 rfl (Nat.le_succ _) rfl rfl (Or.inl rfl) fx_no_0_7 (by decide) ?_
  refine fx_qX (fun X4 eX4 => ?_)
  show fx_W _ _ _ 15 lv1 [] _ _
  refine fx_n (pc' := 16) (lv' := lv1) (st' := [.int (Int32.ofInt 0)]) aj_d56 rfl (Nat.le_succ _) (fun _ => rfl) ?_
  refine fx_s0 (j := 2) aj_d56 rfl (Nat.le_succ _) (by decide) (fun _ => rfl) ?_
  obtain ⟨lv5, elv5⟩ : ∃ l, l = aj_set1 lv1 2 (.int (Int32.ofInt 0)) := ⟨_, rfl⟩
  rw [← elv5]
  have hlv5_0 : aj_lv lv5 0 = some (.ref 91) := fx_e1 elv5 hlv1_0 (by decide) (Or.inl (by decide))
  have hlv5_2 : aj_lv lv5 2 = some (.int (Int32.ofInt 0)) := by rw [elv5]; exact ak_set1_eq _ _ _
  show fx_W _ _ _ 17 lv5 [] _ _
  exact ((gxL_56 p1 N)) lv5 ((Int32.ofInt 0)) X4  hlv5_0 hlv5_2
def gx_20 (p1 : Int32) (p2 : Nat) (X : fx_X) (v : Unit) (X' : fx_X) : Prop :=
  ∃ (w5 : Unit) (X4 : fx_X), gx_21 (X.1 52 1) X w5 X4 ∧ ∃ X6 : fx_X, X6 = (fx_wI X4 52 1 (Int32.ofInt 0)) ∧ ∃ (w9 : Unit) (X8 : fx_X), gx_31 X6 w9 X8 ∧ ∃ (w12 : Unit) (X11 : fx_X), gx_32 p1 X8 w12 X11 ∧ (if ((X11.1 82 5)).toInt = 0 then (∃ (w17 : Unit) (X16 : fx_X), gx_56 p2 X11 w17 X16 ∧ X' = X16) else (X' = X11))
theorem gx_20_ok {tb : aj_T} (p1 : Int32) (p2 : Nat) {X : fx_X} : fx_K tb 20 [.ref 52, .int p1, .ref p2] X (fx_Q fx_qN (fun v X' => gx_20 p1 p2 X v X')) := by
  refine fx_m aj_m20_at rfl (fun N => ?_)
  refine fx_mono (Q := fx_Q fx_qN (fun v X' => ∃ n : Nat, gx_20 p1 p2 X v X')) (fun r X' ⟨v, e, _, z⟩ => ⟨v, e, z⟩) ?_
  unfold gx_20
  show fx_W _ _ _ 0 [(0, .ref 52), (1, .int p1), (2, .ref p2)] [] _ _
  obtain ⟨lv1, elv1⟩ : ∃ l : aj_V, l = [(0, .ref 52), (1, .int p1), (2, .ref p2)] := ⟨_, rfl⟩
  rw [← elv1]
  have hlv1_0 : aj_lv lv1 0 = some (.ref 52) := by rw [elv1]; rfl
  have hlv1_1 : aj_lv lv1 1 = some (.int p1) := by rw [elv1]; rfl
  have hlv1_2 : aj_lv lv1 2 = some (.ref p2) := by rw [elv1]; rfl
  refine fx_i2 aj_d20 rfl (Nat.le_succ _) (fun _ => rfl) hlv1_0 ?_
  refine fx_gF aj_d20 rfl (Nat.le_succ _) rfl rfl fx_in_10_5 (t := 78) rfl (fun hA2 => ?_)
  refine fx_i2 aj_d20 rfl (Nat.le_succ _) (fun _ => rfl) hlv1_0 ?_
  refine fx_gF aj_d20 rfl (Nat.le_succ _) rfl rfl fx_in_10_0 (t := 53) rfl (fun hA3 => ?_)
  refine fx_i2 aj_d20 rfl (Nat.le_succ _) (fun _ => rfl) hlv1_0 ?_
  refine fx_gI aj_d20 rfl (Nat.le_succ _) rfl rfl (Or.inl rfl) ?_
  refine fx_cv aj_d20 rfl (Nat.le_succ _) rfl [_, _] rfl rfl (gx_21_ok (X.1 52 1)) ?_
  rintro _ X4 ⟨w5, rfl, hR4⟩ hok4 hle4
  refine fx_qc hR4 ?_
  show fx_W _ _ _ 15 lv1 [] _ _
  refine fx_i2 aj_d20 rfl (Nat.le_succ _) (fun _ => rfl) hlv1_0 ?_
  refine fx_n (pc' := 17) (lv' := lv1) (st' := [.int (Int32.ofInt 0), .ref 52]) aj_d20 rfl (Nat.le_succ _) (fun _ => rfl) ?_
  refine fx_pI aj_d20 rfl (Nat.le_succ _) rfl rfl (Or.inl rfl) fx_no_10_1 (by decide) ?_
  refine fx_qX (fun X6 eX6 => ?_)
  show fx_W _ _ _ 20 lv1 [] _ _
  refine fx_i2 aj_d20 rfl (Nat.le_succ _) (fun _ => rfl) hlv1_0 ?_
  refine fx_gF aj_d20 rfl (Nat.le_succ _) rfl rfl fx_in_10_6 (t := 82) rfl (fun hA7 => ?_)
  refine fx_cv aj_d20 rfl (Nat.le_succ _) rfl [] rfl rfl (gx_31_ok) ?_
  rintro _ X8 ⟨w9, rfl, hR8⟩ hok8 hle8
  refine fx_qc hR8 ?_
  show fx_W _ _ _ 27 lv1 [] _ _
  refine fx_i2 aj_d20 rfl (Nat.le_succ _) (fun _ => rfl) hlv1_0 ?_
  refine fx_gF aj_d20 rfl (Nat.le_succ _) rfl rfl fx_in_10_7 (t := 87) rfl (fun hA10 => ?_)
  refine fx_i0 aj_d20 rfl (Nat.le_succ _) (fun _ => rfl) hlv1_1 ?_
  refine fx_cv aj_d20 rfl (Nat.le_succ _) rfl [_] rfl rfl (gx_32_ok p1) ?_
  rintro _ X11 ⟨w12, rfl, hR11⟩ hok11 hle11
  refine fx_qc hR11 ?_
  show fx_W _ _ _ 35 lv1 [] _ _
  refine fx_i2 aj_d20 rfl (Nat.le_succ _) (fun _ => rfl) hlv1_0 ?_
  refine fx_gF aj_d20 rfl (Nat.le_succ _) rfl rfl fx_in_10_6 (t := 82) rfl (fun hA13 => ?_)
  refine fx_gI aj_d20 rfl (Nat.le_succ _) rfl rfl (Or.inl rfl) ?_
  refine fx_b0 (tgt := 53) aj_d20 rfl (Nat.le_succ _) rfl (fun q14 => ?_) (fun q14 => ?_)
  · skip
    refine fx_qe (c := ((X11.1 82 5)).toInt = 0) (fx_t_ne q14) ?_
    show fx_W _ _ _ 53 lv1 [] _ _
    exact fx_rn aj_d20 rfl ⟨(), rfl, 0, rfl⟩
  · skip
    refine fx_qi (c := ((X11.1 82 5)).toInt = 0) (fx_f_ne q14) ?_
    show fx_W _ _ _ 45 lv1 [] _ _
    refine fx_i2 aj_d20 rfl (Nat.le_succ _) (fun _ => rfl) hlv1_0 ?_
    refine fx_gF aj_d20 rfl (Nat.le_succ _) rfl rfl fx_in_10_8 (t := 91) rfl (fun hA15 => ?_)
    refine fx_i2 aj_d20 rfl (Nat.le_succ _) (fun _ => rfl) hlv1_2 ?_
    refine fx_cv aj_d20 rfl (Nat.le_succ _) rfl [_] rfl rfl (gx_56_ok p2) ?_
    rintro _ X16 ⟨w17, rfl, hR16⟩ hok16 hle16
    refine fx_qc hR16 ?_
    show fx_W _ _ _ 53 lv1 [] _ _
    exact fx_rn aj_d20 rfl ⟨(), rfl, 0, rfl⟩
def gx_151 (X : fx_X) (v : Unit) (X' : fx_X) : Prop :=
  ∃ X2 : fx_X, X2 = (fx_wI X 107 0 (Int32.ofInt (-1))) ∧ X' = X2
theorem gx_151_ok {tb : aj_T} {X : fx_X} : fx_K tb 151 [.ref 107] X (fx_Q fx_qN (fun v X' => gx_151 X v X')) := by
  refine fx_m aj_m151_at rfl (fun N => ?_)
  refine fx_mono (Q := fx_Q fx_qN (fun v X' => ∃ n : Nat, gx_151 X v X')) (fun r X' ⟨v, e, _, z⟩ => ⟨v, e, z⟩) ?_
  unfold gx_151
  show fx_W _ _ _ 0 [(0, .ref 107)] [] _ _
  obtain ⟨lv1, elv1⟩ : ∃ l : aj_V, l = [(0, .ref 107)] := ⟨_, rfl⟩
  rw [← elv1]
  have hlv1_0 : aj_lv lv1 0 = some (.ref 107) := by rw [elv1]; rfl
  refine fx_i2 aj_d151 rfl (Nat.le_succ _) (fun _ => rfl) hlv1_0 ?_
  refine fx_n (pc' := 2) (lv' := lv1) (st' := [.int (Int32.ofInt (-1)), .ref 107]) aj_d151 rfl (Nat.le_succ _) (fun _ => rfl) ?_
  refine fx_pI aj_d151 rfl (Nat.le_succ _) rfl rfl (Or.inl rfl) fx_no_2_0 (by decide) ?_
  refine fx_qX (fun X2 eX2 => ?_)
  show fx_W _ _ _ 5 lv1 [] _ _
  exact fx_rn aj_d151 rfl ⟨(), rfl, 0, rfl⟩
def gx_152 (X : fx_X) (v : Unit) (X' : fx_X) : Prop :=
  ∃ X2 : fx_X, X2 = (fx_wI X 113 0 (Int32.ofInt 0)) ∧ X' = X2
theorem gx_152_ok {tb : aj_T} {X : fx_X} : fx_K tb 152 [.ref 113] X (fx_Q fx_qN (fun v X' => gx_152 X v X')) := by
  refine fx_m aj_m152_at rfl (fun N => ?_)
  refine fx_mono (Q := fx_Q fx_qN (fun v X' => ∃ n : Nat, gx_152 X v X')) (fun r X' ⟨v, e, _, z⟩ => ⟨v, e, z⟩) ?_
  unfold gx_152
  show fx_W _ _ _ 0 [(0, .ref 113)] [] _ _
  obtain ⟨lv1, elv1⟩ : ∃ l : aj_V, l = [(0, .ref 113)] := ⟨_, rfl⟩
  rw [← elv1]
  have hlv1_0 : aj_lv lv1 0 = some (.ref 113) := by rw [elv1]; rfl
  refine fx_i2 aj_d152 rfl (Nat.le_succ _) (fun _ => rfl) hlv1_0 ?_
  refine fx_n (pc' := 2) (lv' := lv1) (st' := [.int (Int32.ofInt 0), .ref 113]) aj_d152 rfl (Nat.le_succ _) (fun _ => rfl) ?_
  refine fx_pI aj_d152 rfl (Nat.le_succ _) rfl rfl (Or.inr (Or.inl rfl)) fx_no_5_0 (by decide) ?_
  refine fx_qX (fun X2 eX2 => ?_)
  show fx_W _ _ _ 5 lv1 [] _ _
  exact fx_rn aj_d152 rfl ⟨(), rfl, 0, rfl⟩
def gx_150 (X : fx_X) (v : Unit) (X' : fx_X) : Prop :=
  ∃ (w4 : Unit) (X3 : fx_X), gx_151 X w4 X3 ∧ ∃ (w7 : Unit) (X6 : fx_X), gx_152 X3 w7 X6 ∧ X' = X6
theorem gx_150_ok {tb : aj_T} {X : fx_X} : fx_K tb 150 [.ref 52] X (fx_Q fx_qN (fun v X' => gx_150 X v X')) := by
  refine fx_m aj_m150_at rfl (fun N => ?_)
  refine fx_mono (Q := fx_Q fx_qN (fun v X' => ∃ n : Nat, gx_150 X v X')) (fun r X' ⟨v, e, _, z⟩ => ⟨v, e, z⟩) ?_
  unfold gx_150
  show fx_W _ _ _ 0 [(0, .ref 52)] [] _ _
  obtain ⟨lv1, elv1⟩ : ∃ l : aj_V, l = [(0, .ref 52)] := ⟨_, rfl⟩
  rw [← elv1]
  have hlv1_0 : aj_lv lv1 0 = some (.ref 52) := by rw [elv1]; rfl
  refine fx_i2 aj_d150 rfl (Nat.le_succ _) (fun _ => rfl) hlv1_0 ?_
  refine fx_gF aj_d150 rfl (Nat.le_succ _) rfl rfl fx_in_10_10 (t := 107) rfl (fun hA2 => ?_)
  refine fx_cv aj_d150 rfl (Nat.le_succ _) rfl [] rfl rfl (gx_151_ok) ?_
  rintro _ X3 ⟨w4, rfl, hR3⟩ hok3 hle3
  refine fx_qc hR3 ?_
  show fx_W _ _ _ 7 lv1 [] _ _
  refine fx_i2 aj_d150 rfl (Nat.le_succ _) (fun _ => rfl) hlv1_0 ?_
  refine fx_gF aj_d150 rfl (Nat.le_succ _) rfl rfl fx_in_10_11 (t := 113) rfl (fun hA5 => ?_)
  refine fx_cv aj_d150 rfl (Nat.le_succ _) rfl [] rfl rfl (gx_152_ok) ?_
  rintro _ X6 ⟨w7, rfl, hR6⟩ hok6 hle6
  refine fx_qc hR6 ?_
  show fx_W _ _ _ 14 lv1 [] _ _
  exact fx_rn aj_d150 rfl ⟨(), rfl, 0, rfl⟩
def gx_144_1 (X : fx_X) (v : Unit) (X' : fx_X) : Prop :=
  X' = X
theorem gx_144_1_ok {tb : aj_T} {X : fx_X} : fx_K tb 144 [.ref 95, .null] X (fx_Q fx_qN (fun v X' => gx_144_1 X v X')) := by
  refine fx_m aj_m144_at rfl (fun N => ?_)
  refine fx_mono (Q := fx_Q fx_qN (fun v X' => ∃ n : Nat, gx_144_1 X v X')) (fun r X' ⟨v, e, _, z⟩ => ⟨v, e, z⟩) ?_
  unfold gx_144_1
  show fx_W _ _ _ 0 [(0, .ref 95), (1, .null)] [] _ _
  obtain ⟨lv1, elv1⟩ : ∃ l : aj_V, l = [(0, .ref 95), (1, .null)] := ⟨_, rfl⟩
  rw [← elv1]
  have hlv1_0 : aj_lv lv1 0 = some (.ref 95) := by rw [elv1]; rfl
  have hlv1_1 : aj_lv lv1 1 = some (.null) := by rw [elv1]; rfl
  refine fx_i3 aj_d144 rfl (Nat.le_succ _) (fun _ => rfl) hlv1_1 ?_
  refine fx_n (pc' := 4) (lv' := lv1) (st' := []) aj_d144 rfl (Nat.le_succ _) (fun _ => rfl) ?_
  exact fx_rn aj_d144 rfl ⟨(), rfl, 0, rfl⟩
def gx_109 (p0 : Nat) (p1 : Int32) (p2 : Int32) (X : fx_X) (v : Unit) (X' : fx_X) : Prop :=
  (if (p2).toInt < 0 then (X' = X) else ((if (p2).toInt < 1024 then ((0 ≤ (p2).toInt ∧ (p2).toInt < ((1024 : Nat) : Int)) ∧ (0 ≤ (p2).toInt ∧ (p2).toInt < ((1024 : Nat) : Int)) ∧ ∃ X8 : fx_X, X8 = (fx_wI X (p0 + 3) (p2).toInt.toNat ((X.1 (p0 + 3) (p2).toInt.toNat) ||| ((Int32.ofInt 1) <<< (p1 &&& 31)))) ∧ X' = X8) else (X' = X))))
theorem gx_109_ok {tb : aj_T} (p0 : Nat) (p1 : Int32) (p2 : Int32) {X : fx_X} : fx_K tb 109 [.ref p0, .int p1, .int p2] X (fx_Q fx_qN (fun v X' => gx_109 p0 p1 p2 X v X')) := by
  refine fx_m aj_m109_at rfl (fun N => ?_)
  refine fx_mono (Q := fx_Q fx_qN (fun v X' => ∃ n : Nat, gx_109 p0 p1 p2 X v X')) (fun r X' ⟨v, e, _, z⟩ => ⟨v, e, z⟩) ?_
  unfold gx_109
  show fx_W _ _ _ 0 [(0, .ref p0), (1, .int p1), (2, .int p2)] [] _ _
  obtain ⟨lv1, elv1⟩ : ∃ l : aj_V, l = [(0, .ref p0), (1, .int p1), (2, .int p2)] := ⟨_, rfl⟩
  rw [← elv1]
  have hlv1_0 : aj_lv lv1 0 = some (.ref p0) := by rw [elv1]; rfl
  have hlv1_1 : aj_lv lv1 1 = some (.int p1) := by rw [elv1]; rfl
  have hlv1_2 : aj_lv lv1 2 = some (.int p2) := by rw [elv1]; rfl
  refine fx_i0 aj_d109 rfl (Nat.le_succ _) (fun _ => rfl) hlv1_2 ?_
  refine fx_b0 (tgt := 25) aj_d109 rfl (Nat.le_succ _) rfl (fun q2 => ?_) (fun q2 => ?_)
  · skip
    refine fx_qi (c := (p2).toInt < 0) (fx_t_lt q2) ?_
    show fx_W _ _ _ 25 lv1 [] _ _
    exact fx_rn aj_d109 rfl ⟨(), rfl, 0, rfl⟩
  · skip
    refine fx_qe (c := (p2).toInt < 0) (fx_f_lt q2) ?_
    show fx_W _ _ _ 4 lv1 [] _ _
    refine fx_i0 aj_d109 rfl (Nat.le_succ _) (fun _ => rfl) hlv1_2 ?_
    refine fx_i2 aj_d109 rfl (Nat.le_succ _) (fun _ => rfl) hlv1_0 ?_
    refine fx_gF aj_d109 rfl (Nat.le_succ _) rfl rfl fx_in_6_2 (t := (p0 + 3)) rfl (fun hA3 => ?_)
    refine fx_al aj_d109 rfl (Nat.le_succ _) ?_
    rw [(hA3 : X.2.2.2.1 (p0 + 3) = (0, 1024))]
    show fx_W _ _ _ 10 lv1 [.int (Int32.ofNat 1024), .int p2] _ _
    refine fx_b (tgt := 25) aj_d109 rfl (Nat.le_succ _) rfl (fun q4 => ?_) (fun q4 => ?_)
    · skip
      refine fx_qe (c := (p2).toInt < 1024) (fx_t_ge q4) ?_
      show fx_W _ _ _ 25 lv1 [] _ _
      exact fx_rn aj_d109 rfl ⟨(), rfl, 0, rfl⟩
    · skip
      refine fx_qi (c := (p2).toInt < 1024) (fx_f_ge q4) ?_
      show fx_W _ _ _ 13 lv1 [] _ _
      refine fx_i2 aj_d109 rfl (Nat.le_succ _) (fun _ => rfl) hlv1_0 ?_
      refine fx_gF aj_d109 rfl (Nat.le_succ _) rfl rfl fx_in_6_2 (t := (p0 + 3)) rfl (fun hA5 => ?_)
      refine fx_i0 aj_d109 rfl (Nat.le_succ _) (fun _ => rfl) hlv1_2 ?_
      refine fx_n (pc' := 19) (lv' := lv1) (st' := [.int p2, .ref (p0 + 3), .int p2, .ref (p0 + 3)]) aj_d109 rfl (Nat.le_succ _) (fun _ => rfl) ?_
      refine fx_ld aj_d109 (Or.inl rfl) rfl (Nat.le_succ _) (fun g60 g61 => ?_)
      show fx_W _ _ _ 20 lv1 [.int (X.1 (p0 + 3) (p2).toInt.toNat), .int p2, .ref (p0 + 3)] _ _
      refine fx_qa (c := 0 ≤ (p2).toInt ∧ (p2).toInt < ((1024 : Nat) : Int)) ⟨g60, fx_lnk g61 hA5⟩ ?_
      refine fx_n (pc' := 21) (lv' := lv1) (st' := [.int (Int32.ofInt 1), .int (X.1 (p0 + 3) (p2).toInt.toNat), .int p2, .ref (p0 + 3)]) aj_d109 rfl (Nat.le_succ _) (fun _ => rfl) ?_
      refine fx_i0 aj_d109 rfl (Nat.le_succ _) (fun _ => rfl) hlv1_1 ?_
      refine fx_n (pc' := 23) (lv' := lv1) (st' := [.int ((Int32.ofInt 1) <<< (p1 &&& 31)), .int (X.1 (p0 + 3) (p2).toInt.toNat), .int p2, .ref (p0 + 3)]) aj_d109 rfl (Nat.le_succ _) (fun _ => rfl) ?_
      refine fx_n (pc' := 24) (lv' := lv1) (st' := [.int ((X.1 (p0 + 3) (p2).toInt.toNat) ||| ((Int32.ofInt 1) <<< (p1 &&& 31))), .int p2, .ref (p0 + 3)]) aj_d109 rfl (Nat.le_succ _) (fun _ => rfl) ?_
      refine fx_st aj_d109 (Or.inl ⟨rfl, rfl⟩) rfl (Nat.le_succ _) (fun g70 g71 => ?_)
      show fx_W _ _ _ _ _ _ (fx_wI X (p0 + 3) (p2).toInt.toNat ((X.1 (p0 + 3) (p2).toInt.toNat) ||| ((Int32.ofInt 1) <<< (p1 &&& 31)))) _
      refine fx_qa (c := 0 ≤ (p2).toInt ∧ (p2).toInt < ((1024 : Nat) : Int)) ⟨g70, fx_lnk g71 hA5⟩ ?_
      refine fx_qX (fun X8 eX8 => ?_)
      show fx_W _ _ _ 25 lv1 [] _ _
      exact fx_rn aj_d109 rfl ⟨(), rfl, 0, rfl⟩
def gxT_144_2_17 (p1 : Nat) (P : Nat → List Int32 → List Int64 → List Nat → fx_X → Unit → fx_X → Prop) (y2 : Int32) (X : fx_X) (v : Unit) (X' : fx_X) : Prop :=
  ∃ b5 : Nat, X.2.2.1 95 7 = some b5 ∧ (if (y2).toInt < ((X.1 b5 13)).toInt then (∃ (w8 : Unit) (X7 : fx_X), gx_109 p1 ((X.1 p1 4) - (Int32.ofInt 1)) y2 X w8 X7 ∧ ∃ x9 : Int32, x9 = y2 + Int32.ofInt 1 ∧ P 17 [x9] [] [] X7 v X') else (X' = X))
def gxE_144_2 (p1 : Nat) (P : Nat → List Int32 → List Int64 → List Nat → fx_X → Unit → fx_X → Prop) (X : fx_X) (v : Unit) (X' : fx_X) : Prop :=
  ∃ X2 : fx_X, X2 = (fx_wI X p1 4 ((X.1 p1 4) + (Int32.ofInt 1))) ∧ P 17 [(Int32.ofInt 0)] [] [] X2 v X'
noncomputable def gxF_144_2 (p1 : Nat) (n : Nat) : Nat → List Int32 → List Int64 → List Nat → fx_X → Unit → fx_X → Prop := Nat.rec (motive := fun _ => Nat → List Int32 → List Int64 → List Nat → fx_X → Unit → fx_X → Prop) (fun _ _ _ _ _ _ _ => False) (fun _ P l is ls rs X v X' => (l = 17 ∧ ∃ (y2 : Int32), is = [y2] ∧ ls = [] ∧ rs = [] ∧ gxT_144_2_17 p1 P y2 X v X')) n
theorem gxI_144_2_17 {p1 : Nat} {n : Nat} {y2 : Int32} {X : fx_X} {v : Unit} {X' : fx_X} (h : gxT_144_2_17 p1 (gxF_144_2 p1 n) y2 X v X') : gxF_144_2 p1 (n + 1) 17 [y2] [] [] X v X' := ⟨rfl, y2, rfl, rfl, rfl, h⟩
theorem gxO_144_2_17 {p1 : Nat} {n : Nat} {y2 : Int32} {X : fx_X} {v : Unit} {X' : fx_X} (h : gxF_144_2 p1 (n + 1) 17 [y2] [] [] X v X') : gxT_144_2_17 p1 (gxF_144_2 p1 n) y2 X v X' := by
  rcases h with ⟨-, _, e1, e2, e3, h⟩
  · cases e1; cases e2; cases e3; exact h
def gx_144_2 (p1 : Nat) (X : fx_X) (v : Unit) (X' : fx_X) : Prop := ∃ n : Nat, gxE_144_2 p1 (gxF_144_2 p1 n) X v X'
theorem gxL_144_2 {tb : aj_T} (p1 : Nat) : ∀ N : Nat, (∀ (lv : aj_V) (y2 : Int32) (X : fx_X), aj_lv lv 0 = some (.ref 95) → aj_lv lv 1 = some (.ref p1) → aj_lv lv 2 = some (.int y2) → fx_W tb aj_m144 N 17 lv [] X (fx_Q fx_qN (fun v X' => ∃ n : Nat, gxF_144_2 p1 n 17 [y2] [] [] X v X'))) := by
  intro N
  induction N with
  | zero => exact (by intros; exact fx_z)
  | succ N ih =>
    skip
    · intro lv y2 X hlv_0 hlv_1 hlv_2
      refine fx_mono (Q := fx_Q fx_qN (fun v X' => ∃ n : Nat, gxT_144_2_17 p1 (gxF_144_2 p1 n) y2 X v X')) (fun r X' ⟨v, e, n, z⟩ => ⟨v, e, n + 1, gxI_144_2_17 z⟩) ?_
      unfold gxT_144_2_17
      refine fx_i0 aj_d144 rfl (Nat.le_refl _) (fun _ => rfl) hlv_2 ?_
      refine fx_i2 aj_d144 rfl (Nat.le_succ _) (fun _ => rfl) hlv_0 ?_
      refine fx_gR aj_d144 rfl (Nat.le_succ _) rfl rfl (Or.inl ⟨_, rfl⟩) (fun q4 _ => ?_) (fun b5 q4 => ?_)
      · skip
        show fx_W _ _ _ 22 lv [.null, .int y2] _ _
        exact fx_d aj_d144 rfl (fun _ => rfl)
      · skip
        refine fx_qs q4 ?_
        show fx_W _ _ _ 22 lv [.ref b5, .int y2] _ _
        refine fx_gI aj_d144 rfl (Nat.le_succ _) rfl rfl (Or.inl rfl) ?_
        refine fx_b (tgt := 45) aj_d144 rfl (Nat.le_succ _) rfl (fun q6 => ?_) (fun q6 => ?_)
        · skip
          refine fx_qe (c := (y2).toInt < ((X.1 b5 13)).toInt) (fx_t_ge q6) ?_
          show fx_W _ _ _ 45 lv [] _ _
          exact fx_rn aj_d144 rfl ⟨(), rfl, 0, rfl⟩
        · skip
          refine fx_qi (c := (y2).toInt < ((X.1 b5 13)).toInt) (fx_f_ge q6) ?_
          show fx_W _ _ _ 28 lv [] _ _
          refine fx_i2 aj_d144 rfl (Nat.le_succ _) (fun _ => rfl) hlv_1 ?_
          refine fx_i2 aj_d144 rfl (Nat.le_succ _) (fun _ => rfl) hlv_1 ?_
          refine fx_gI aj_d144 rfl (Nat.le_succ _) rfl rfl (Or.inl rfl) ?_
          refine fx_n (pc' := 34) (lv' := lv) (st' := [.int (Int32.ofInt 1), .int (X.1 p1 4), .ref p1]) aj_d144 rfl (Nat.le_succ _) (fun _ => rfl) ?_
          refine fx_n (pc' := 35) (lv' := lv) (st' := [.int ((X.1 p1 4) - (Int32.ofInt 1)), .ref p1]) aj_d144 rfl (Nat.le_succ _) (fun _ => rfl) ?_
          refine fx_i0 aj_d144 rfl (Nat.le_succ _) (fun _ => rfl) hlv_2 ?_
          refine fx_cv aj_d144 rfl (Nat.le_succ _) rfl [_, _] rfl rfl (gx_109_ok p1 ((X.1 p1 4) - (Int32.ofInt 1)) y2) ?_
          rintro _ X7 ⟨w8, rfl, hR7⟩ hok7 hle7
          refine fx_qc hR7 ?_
          show fx_W _ _ _ 39 lv [] _ _
          refine fx_incq aj_d144 rfl (Nat.le_succ _) hlv_2 (by decide) (fun x9 ex9 => ?_)
          obtain ⟨lv10, elv10⟩ : ∃ l, l = aj_set1 lv 2 (.int x9) := ⟨_, rfl⟩
          rw [← elv10]
          have hlv10_0 : aj_lv lv10 0 = some (.ref 95) := fx_e1 elv10 hlv_0 (by decide) (Or.inl (by decide))
          have hlv10_1 : aj_lv lv10 1 = some (.ref p1) := fx_e1 elv10 hlv_1 (by decide) (Or.inr rfl)
          have hlv10_2 : aj_lv lv10 2 = some (.int x9) := by rw [elv10]; exact ak_set1_eq _ _ _
          show fx_W _ _ _ 42 lv10 [] _ _
          refine fx_n (pc' := 17) (lv' := lv10) (st' := []) aj_d144 rfl (Nat.le_succ _) (fun _ => rfl) ?_
          exact (ih) lv10 (x9) X7  hlv10_0 hlv10_1 hlv10_2
theorem gx_144_2_ok {tb : aj_T} (p1 : Nat) {X : fx_X} : fx_K tb 144 [.ref 95, .ref p1] X (fx_Q fx_qN (fun v X' => gx_144_2 p1 X v X')) := by
  refine fx_m aj_m144_at rfl (fun N => ?_)
  refine fx_mono (Q := fx_Q fx_qN (fun v X' => ∃ n : Nat, gxE_144_2 p1 (gxF_144_2 p1 n) X v X')) (fun r X' h => h) ?_
  unfold gxE_144_2
  show fx_W _ _ _ 0 [(0, .ref 95), (1, .ref p1)] [] _ _
  obtain ⟨lv1, elv1⟩ : ∃ l : aj_V, l = [(0, .ref 95), (1, .ref p1)] := ⟨_, rfl⟩
  rw [← elv1]
  have hlv1_0 : aj_lv lv1 0 = some (.ref 95) := by rw [elv1]; rfl
  have hlv1_1 : aj_lv lv1 1 = some (.ref p1) := by rw [elv1]; rfl
  refine fx_i2 aj_d144 rfl (Nat.le_succ _) (fun _ => rfl) hlv1_1 ?_
  refine fx_n (pc' := 5) (lv' := lv1) (st' := []) aj_d144 rfl (Nat.le_succ _) (fun _ => rfl) ?_
  refine fx_i2 aj_d144 rfl (Nat.le_succ _) (fun _ => rfl) hlv1_1 ?_
  refine fx_n (pc' := 7) (lv' := lv1) (st' := [.ref p1, .ref p1]) aj_d144 rfl (Nat.le_succ _) (fun _ => rfl) ?_
  refine fx_gI aj_d144 rfl (Nat.le_succ _) rfl rfl (Or.inl rfl) ?_
  refine fx_n (pc' := 11) (lv' := lv1) (st' := [.int (Int32.ofInt 1), .int (X.1 p1 4), .ref p1]) aj_d144 rfl (Nat.le_succ _) (fun _ => rfl) ?_
  refine fx_n (pc' := 12) (lv' := lv1) (st' := [.int ((X.1 p1 4) + (Int32.ofInt 1)), .ref p1]) aj_d144 rfl (Nat.le_succ _) (fun _ => rfl) ?_
  refine fx_pI aj_d144 rfl (Nat.le_succ _) rfl rfl (Or.inl rfl) fx_no_6_4 (by decide) ?_
  refine fx_qX (fun X2 eX2 => ?_)
  show fx_W _ _ _ 15 lv1 [] _ _
  refine fx_n (pc' := 16) (lv' := lv1) (st' := [.int (Int32.ofInt 0)]) aj_d144 rfl (Nat.le_succ _) (fun _ => rfl) ?_
  refine fx_s0 (j := 2) aj_d144 rfl (Nat.le_succ _) (by decide) (fun _ => rfl) ?_
  obtain ⟨lv3, elv3⟩ : ∃ l, l = aj_set1 lv1 2 (.int (Int32.ofInt 0)) := ⟨_, rfl⟩
  rw [← elv3]
  have hlv3_0 : aj_lv lv3 0 = some (.ref 95) := fx_e1 elv3 hlv1_0 (by decide) (Or.inl (by decide))
  have hlv3_1 : aj_lv lv3 1 = some (.ref p1) := fx_e1 elv3 hlv1_1 (by decide) (Or.inr rfl)
  have hlv3_2 : aj_lv lv3 2 = some (.int (Int32.ofInt 0)) := by rw [elv3]; exact ak_set1_eq _ _ _
  show fx_W _ _ _ 17 lv3 [] _ _
  exact ((gxL_144_2 p1 N)) lv3 ((Int32.ofInt 0)) X2  hlv3_0 hlv3_1 hlv3_2
def gx_145_1 (X : fx_X) (v : Unit) (X' : fx_X) : Prop :=
  X' = X
theorem gx_145_1_ok {tb : aj_T} {X : fx_X} : fx_K tb 145 [.ref 95, .null] X (fx_Q fx_qN (fun v X' => gx_145_1 X v X')) := by
  refine fx_m aj_m145_at rfl (fun N => ?_)
  refine fx_mono (Q := fx_Q fx_qN (fun v X' => ∃ n : Nat, gx_145_1 X v X')) (fun r X' ⟨v, e, _, z⟩ => ⟨v, e, z⟩) ?_
  unfold gx_145_1
  show fx_W _ _ _ 0 [(0, .ref 95), (1, .null)] [] _ _
  obtain ⟨lv1, elv1⟩ : ∃ l : aj_V, l = [(0, .ref 95), (1, .null)] := ⟨_, rfl⟩
  rw [← elv1]
  have hlv1_0 : aj_lv lv1 0 = some (.ref 95) := by rw [elv1]; rfl
  have hlv1_1 : aj_lv lv1 1 = some (.null) := by rw [elv1]; rfl
  refine fx_i3 aj_d145 rfl (Nat.le_succ _) (fun _ => rfl) hlv1_1 ?_
  refine fx_n (pc' := 45) (lv' := lv1) (st' := []) aj_d145 rfl (Nat.le_succ _) (fun _ => rfl) ?_
  exact fx_rn aj_d145 rfl ⟨(), rfl, 0, rfl⟩
def gx_105 (p0 : Nat) (p1 : Int32) (p2 : Int32) (p3 : Int32) (p4 : Int32) (X : fx_X) (v : Unit) (X' : fx_X) : Prop :=
  ∃ x2 : Int32, x2 = ((p1 * ((Int8.ofInt 6).toInt32)) + p2) ∧ (if (p1).toInt < 0 then (X' = X) else ((if (p1).toInt < 30 then ((if (p2).toInt < 0 then (X' = X) else ((if (p2).toInt < 6 then ((if (x2).toInt < 180 then ((if (x2).toInt < 180 then ((0 ≤ (x2).toInt ∧ (x2).toInt < ((180 : Nat) : Int)) ∧ ∃ X14 : fx_X, X14 = (fx_wI X (p0 + 1) (x2).toInt.toNat p4) ∧ (0 ≤ (x2).toInt ∧ (x2).toInt < ((180 : Nat) : Int)) ∧ ∃ X17 : fx_X, X17 = (fx_wI X14 (p0 + 2) (x2).toInt.toNat (aj_nar 2 p3)) ∧ X' = X17) else (X' = X))) else (X' = X))) else (X' = X))))) else (X' = X))))
theorem gx_105_ok {tb : aj_T} (p0 : Nat) (p1 : Int32) (p2 : Int32) (p3 : Int32) (p4 : Int32) {X : fx_X} : fx_K tb 105 [.ref p0, .int p1, .int p2, .int p3, .int p4] X (fx_Q fx_qN (fun v X' => gx_105 p0 p1 p2 p3 p4 X v X')) := by
  refine fx_m aj_m105_at rfl (fun N => ?_)
  refine fx_mono (Q := fx_Q fx_qN (fun v X' => ∃ n : Nat, gx_105 p0 p1 p2 p3 p4 X v X')) (fun r X' ⟨v, e, _, z⟩ => ⟨v, e, z⟩) ?_
  unfold gx_105
  show fx_W _ _ _ 0 [(0, .ref p0), (1, .int p1), (2, .int p2), (3, .int p3), (4, .int p4)] [] _ _
  obtain ⟨lv1, elv1⟩ : ∃ l : aj_V, l = [(0, .ref p0), (1, .int p1), (2, .int p2), (3, .int p3), (4, .int p4)] := ⟨_, rfl⟩
  rw [← elv1]
  have hlv1_0 : aj_lv lv1 0 = some (.ref p0) := by rw [elv1]; rfl
  have hlv1_1 : aj_lv lv1 1 = some (.int p1) := by rw [elv1]; rfl
  have hlv1_2 : aj_lv lv1 2 = some (.int p2) := by rw [elv1]; rfl
  have hlv1_3 : aj_lv lv1 3 = some (.int p3) := by rw [elv1]; rfl
  have hlv1_4 : aj_lv lv1 4 = some (.int p4) := by rw [elv1]; rfl
  refine fx_i0 aj_d105 rfl (Nat.le_succ _) (fun _ => rfl) hlv1_1 ?_
  refine fx_n (pc' := 3) (lv' := lv1) (st' := [.int ((Int8.ofInt 6).toInt32), .int p1]) aj_d105 rfl (Nat.le_succ _) (fun _ => rfl) ?_
  refine fx_n (pc' := 4) (lv' := lv1) (st' := [.int (p1 * ((Int8.ofInt 6).toInt32))]) aj_d105 rfl (Nat.le_succ _) (fun _ => rfl) ?_
  refine fx_i0 aj_d105 rfl (Nat.le_succ _) (fun _ => rfl) hlv1_2 ?_
  refine fx_n (pc' := 6) (lv' := lv1) (st' := [.int ((p1 * ((Int8.ofInt 6).toInt32)) + p2)]) aj_d105 rfl (Nat.le_succ _) (fun _ => rfl) ?_
  refine fx_qxI (fun x2 ex2 => ?_)
  refine fx_s0 (j := 5) aj_d105 rfl (Nat.le_succ _) (by decide) (fun _ => rfl) ?_
  obtain ⟨lv3, elv3⟩ : ∃ l, l = aj_set1 lv1 5 (.int x2) := ⟨_, rfl⟩
  rw [← elv3]
  have hlv3_0 : aj_lv lv3 0 = some (.ref p0) := fx_e1 elv3 hlv1_0 (by decide) (Or.inl (by decide))
  have hlv3_1 : aj_lv lv3 1 = some (.int p1) := fx_e1 elv3 hlv1_1 (by decide) (Or.inl (by decide))
  have hlv3_2 : aj_lv lv3 2 = some (.int p2) := fx_e1 elv3 hlv1_2 (by decide) (Or.inl (by decide))
  have hlv3_3 : aj_lv lv3 3 = some (.int p3) := fx_e1 elv3 hlv1_3 (by decide) (Or.inl (by decide))
  have hlv3_4 : aj_lv lv3 4 = some (.int p4) := fx_e1 elv3 hlv1_4 (by decide) (Or.inr rfl)
  have hlv3_5 : aj_lv lv3 5 = some (.int x2) := by rw [elv3]; exact ak_set1_eq _ _ _
  show fx_W _ _ _ 8 lv3 [] _ _
  refine fx_i0 aj_d105 rfl (Nat.le_succ _) (fun _ => rfl) hlv3_1 ?_
  refine fx_b0 (tgt := 65) aj_d105 rfl (Nat.le_succ _) rfl (fun q4 => ?_) (fun q4 => ?_)
  · skip
    refine fx_qi (c := (p1).toInt < 0) (fx_t_lt q4) ?_
    show fx_W _ _ _ 65 lv3 [] _ _
    exact fx_rn aj_d105 rfl ⟨(), rfl, 0, rfl⟩
  · skip
    refine fx_qe (c := (p1).toInt < 0) (fx_f_lt q4) ?_
    show fx_W _ _ _ 12 lv3 [] _ _
    refine fx_i0 aj_d105 rfl (Nat.le_succ _) (fun _ => rfl) hlv3_1 ?_
    refine fx_n (pc' := 15) (lv' := lv3) (st' := [.int ((Int8.ofInt 30).toInt32), .int p1]) aj_d105 rfl (Nat.le_succ _) (fun _ => rfl) ?_
    refine fx_b (tgt := 65) aj_d105 rfl (Nat.le_succ _) rfl (fun q5 => ?_) (fun q5 => ?_)
    · skip
      refine fx_qe (c := (p1).toInt < 30) (fx_t_ge q5) ?_
      show fx_W _ _ _ 65 lv3 [] _ _
      exact fx_rn aj_d105 rfl ⟨(), rfl, 0, rfl⟩
    · skip
      refine fx_qi (c := (p1).toInt < 30) (fx_f_ge q5) ?_
      show fx_W _ _ _ 18 lv3 [] _ _
      refine fx_i0 aj_d105 rfl (Nat.le_succ _) (fun _ => rfl) hlv3_2 ?_
      refine fx_b0 (tgt := 65) aj_d105 rfl (Nat.le_succ _) rfl (fun q6 => ?_) (fun q6 => ?_)
      · skip
        refine fx_qi (c := (p2).toInt < 0) (fx_t_lt q6) ?_
        show fx_W _ _ _ 65 lv3 [] _ _
        exact fx_rn aj_d105 rfl ⟨(), rfl, 0, rfl⟩
      · skip
        refine fx_qe (c := (p2).toInt < 0) (fx_f_lt q6) ?_
        show fx_W _ _ _ 22 lv3 [] _ _
        refine fx_i0 aj_d105 rfl (Nat.le_succ _) (fun _ => rfl) hlv3_2 ?_
        refine fx_n (pc' := 25) (lv' := lv3) (st' := [.int ((Int8.ofInt 6).toInt32), .int p2]) aj_d105 rfl (Nat.le_succ _) (fun _ => rfl) ?_
        refine fx_b (tgt := 65) aj_d105 rfl (Nat.le_succ _) rfl (fun q7 => ?_) (fun q7 => ?_)
        · skip
          refine fx_qe (c := (p2).toInt < 6) (fx_t_ge q7) ?_
          show fx_W _ _ _ 65 lv3 [] _ _
          exact fx_rn aj_d105 rfl ⟨(), rfl, 0, rfl⟩
        · skip
          refine fx_qi (c := (p2).toInt < 6) (fx_f_ge q7) ?_
          show fx_W _ _ _ 28 lv3 [] _ _
          refine fx_i0 aj_d105 rfl (Nat.le_succ _) (fun _ => rfl) hlv3_5 ?_
          refine fx_i2 aj_d105 rfl (Nat.le_succ _) (fun _ => rfl) hlv3_0 ?_
          refine fx_gF aj_d105 rfl (Nat.le_succ _) rfl rfl fx_in_6_0 (t := (p0 + 1)) rfl (fun hA8 => ?_)
          refine fx_al aj_d105 rfl (Nat.le_succ _) ?_
          rw [(hA8 : X.2.2.2.1 (p0 + 1) = (0, 180))]
          show fx_W _ _ _ 35 lv3 [.int (Int32.ofNat 180), .int x2] _ _
          refine fx_b (tgt := 65) aj_d105 rfl (Nat.le_succ _) rfl (fun q9 => ?_) (fun q9 => ?_)
          · skip
            refine fx_qe (c := (x2).toInt < 180) (fx_t_ge q9) ?_
            show fx_W _ _ _ 65 lv3 [] _ _
            exact fx_rn aj_d105 rfl ⟨(), rfl, 0, rfl⟩
          · skip
            refine fx_qi (c := (x2).toInt < 180) (fx_f_ge q9) ?_
            show fx_W _ _ _ 38 lv3 [] _ _
            refine fx_i0 aj_d105 rfl (Nat.le_succ _) (fun _ => rfl) hlv3_5 ?_
            refine fx_i2 aj_d105 rfl (Nat.le_succ _) (fun _ => rfl) hlv3_0 ?_
            refine fx_gF aj_d105 rfl (Nat.le_succ _) rfl rfl fx_in_6_1 (t := (p0 + 2)) rfl (fun hA10 => ?_)
            refine fx_al aj_d105 rfl (Nat.le_succ _) ?_
            rw [(hA10 : X.2.2.2.1 (p0 + 2) = (2, 180))]
            show fx_W _ _ _ 45 lv3 [.int (Int32.ofNat 180), .int x2] _ _
            refine fx_b (tgt := 65) aj_d105 rfl (Nat.le_succ _) rfl (fun q11 => ?_) (fun q11 => ?_)
            · skip
              refine fx_qe (c := (x2).toInt < 180) (fx_t_ge q11) ?_
              show fx_W _ _ _ 65 lv3 [] _ _
              exact fx_rn aj_d105 rfl ⟨(), rfl, 0, rfl⟩
            · skip
              refine fx_qi (c := (x2).toInt < 180) (fx_f_ge q11) ?_
              show fx_W _ _ _ 48 lv3 [] _ _
              refine fx_i2 aj_d105 rfl (Nat.le_succ _) (fun _ => rfl) hlv3_0 ?_
              refine fx_gF aj_d105 rfl (Nat.le_succ _) rfl rfl fx_in_6_0 (t := (p0 + 1)) rfl (fun hA12 => ?_)
              refine fx_i0 aj_d105 rfl (Nat.le_succ _) (fun _ => rfl) hlv3_5 ?_
              refine fx_i0 aj_d105 rfl (Nat.le_succ _) (fun _ => rfl) hlv3_4 ?_
              refine fx_st aj_d105 (Or.inl ⟨rfl, rfl⟩) rfl (Nat.le_succ _) (fun g130 g131 => ?_)
              show fx_W _ _ _ _ _ _ (fx_wI X (p0 + 1) (x2).toInt.toNat p4) _
              refine fx_qa (c := 0 ≤ (x2).toInt ∧ (x2).toInt < ((180 : Nat) : Int)) ⟨g130, fx_lnk g131 hA12⟩ ?_
              refine fx_qX (fun X14 eX14 => ?_)
              show fx_W _ _ _ 57 lv3 [] _ _
              refine fx_i2 aj_d105 rfl (Nat.le_succ _) (fun _ => rfl) hlv3_0 ?_
              refine fx_gF aj_d105 rfl (Nat.le_succ _) rfl rfl fx_in_6_1 (t := (p0 + 2)) rfl (fun hA15 => ?_)
              refine fx_i0 aj_d105 rfl (Nat.le_succ _) (fun _ => rfl) hlv3_5 ?_
              refine fx_i0 aj_d105 rfl (Nat.le_succ _) (fun _ => rfl) hlv3_3 ?_
              refine fx_sb (kd := 2) aj_d105 rfl (Nat.le_succ _) hA15 (fun g160 g161 => ?_)
              refine fx_qa (c := 0 ≤ (x2).toInt ∧ (x2).toInt < ((180 : Nat) : Int)) ⟨g160, fx_lnk g161 hA15⟩ ?_
              refine fx_qX (fun X17 eX17 => ?_)
              show fx_W _ _ _ 65 lv3 [] _ _
              exact fx_rn aj_d105 rfl ⟨(), rfl, 0, rfl⟩
def gx_145_2 (p1 : Nat) (X : fx_X) (v : Unit) (X' : fx_X) : Prop :=
  (if ((X.1 95 10)).toInt = 1 then (∃ (w7 : Unit) (X6 : fx_X), gx_105 p1 ((X.1 p1 4) - (Int32.ofInt 1)) (X.1 95 14) (Int32.ofInt 1) (X.1 95 11) X w7 X6 ∧ ∃ X8 : fx_X, X8 = (fx_wI X6 95 14 ((X6.1 95 14) + (Int32.ofInt 1))) ∧ X' = X8) else (∃ (w4 : Unit) (X3 : fx_X), gx_105 p1 ((X.1 p1 4) - (Int32.ofInt 1)) (X.1 95 14) (Int32.ofInt 0) (X.1 95 11) X w4 X3 ∧ ∃ X5 : fx_X, X5 = (fx_wI X3 95 14 ((X3.1 95 14) + (Int32.ofInt 1))) ∧ X' = X5))
theorem gx_145_2_ok {tb : aj_T} (p1 : Nat) {X : fx_X} : fx_K tb 145 [.ref 95, .ref p1] X (fx_Q fx_qN (fun v X' => gx_145_2 p1 X v X')) := by
  refine fx_m aj_m145_at rfl (fun N => ?_)
  refine fx_mono (Q := fx_Q fx_qN (fun v X' => ∃ n : Nat, gx_145_2 p1 X v X')) (fun r X' ⟨v, e, _, z⟩ => ⟨v, e, z⟩) ?_
  unfold gx_145_2
  show fx_W _ _ _ 0 [(0, .ref 95), (1, .ref p1)] [] _ _
  obtain ⟨lv1, elv1⟩ : ∃ l : aj_V, l = [(0, .ref 95), (1, .ref p1)] := ⟨_, rfl⟩
  rw [← elv1]
  have hlv1_0 : aj_lv lv1 0 = some (.ref 95) := by rw [elv1]; rfl
  have hlv1_1 : aj_lv lv1 1 = some (.ref p1) := by rw [elv1]; rfl
  refine fx_i2 aj_d145 rfl (Nat.le_succ _) (fun _ => rfl) hlv1_1 ?_
  refine fx_n (pc' := 4) (lv' := lv1) (st' := []) aj_d145 rfl (Nat.le_succ _) (fun _ => rfl) ?_
  refine fx_i2 aj_d145 rfl (Nat.le_succ _) (fun _ => rfl) hlv1_1 ?_
  refine fx_i2 aj_d145 rfl (Nat.le_succ _) (fun _ => rfl) hlv1_1 ?_
  refine fx_gI aj_d145 rfl (Nat.le_succ _) rfl rfl (Or.inl rfl) ?_
  refine fx_n (pc' := 10) (lv' := lv1) (st' := [.int (Int32.ofInt 1), .int (X.1 p1 4), .ref p1]) aj_d145 rfl (Nat.le_succ _) (fun _ => rfl) ?_
  refine fx_n (pc' := 11) (lv' := lv1) (st' := [.int ((X.1 p1 4) - (Int32.ofInt 1)), .ref p1]) aj_d145 rfl (Nat.le_succ _) (fun _ => rfl) ?_
  refine fx_i2 aj_d145 rfl (Nat.le_succ _) (fun _ => rfl) hlv1_0 ?_
  refine fx_gI aj_d145 rfl (Nat.le_succ _) rfl rfl (Or.inl rfl) ?_
  refine fx_i2 aj_d145 rfl (Nat.le_succ _) (fun _ => rfl) hlv1_0 ?_
  refine fx_gI aj_d145 rfl (Nat.le_succ _) rfl rfl (Or.inl rfl) ?_
  refine fx_n (pc' := 20) (lv' := lv1) (st' := [.int (Int32.ofInt 1), .int (X.1 95 10), .int (X.1 95 14), .int ((X.1 p1 4) - (Int32.ofInt 1)), .ref p1]) aj_d145 rfl (Nat.le_succ _) (fun _ => rfl) ?_
  refine fx_b (tgt := 27) aj_d145 rfl (Nat.le_succ _) rfl (fun q2 => ?_) (fun q2 => ?_)
  · skip
    refine fx_qe (c := ((X.1 95 10)).toInt = 1) (fx_t_ne q2) ?_
    show fx_W _ _ _ 27 lv1 [.int (X.1 95 14), .int ((X.1 p1 4) - (Int32.ofInt 1)), .ref p1] _ _
    refine fx_n (pc' := 28) (lv' := lv1) (st' := [.int (Int32.ofInt 0), .int (X.1 95 14), .int ((X.1 p1 4) - (Int32.ofInt 1)), .ref p1]) aj_d145 rfl (Nat.le_succ _) (fun _ => rfl) ?_
    refine fx_i2 aj_d145 rfl (Nat.le_succ _) (fun _ => rfl) hlv1_0 ?_
    refine fx_gI aj_d145 rfl (Nat.le_succ _) rfl rfl (Or.inl rfl) ?_
    refine fx_cv aj_d145 rfl (Nat.le_succ _) rfl [_, _, _, _] rfl rfl (gx_105_ok p1 ((X.1 p1 4) - (Int32.ofInt 1)) (X.1 95 14) (Int32.ofInt 0) (X.1 95 11)) ?_
    rintro _ X3 ⟨w4, rfl, hR3⟩ hok3 hle3
    refine fx_qc hR3 ?_
    show fx_W _ _ _ 35 lv1 [] _ _
    refine fx_i2 aj_d145 rfl (Nat.le_succ _) (fun _ => rfl) hlv1_0 ?_
    refine fx_n (pc' := 37) (lv' := lv1) (st' := [.ref 95, .ref 95]) aj_d145 rfl (Nat.le_succ _) (fun _ => rfl) ?_
    refine fx_gI aj_d145 rfl (Nat.le_succ _) rfl rfl (Or.inl rfl) ?_
    refine fx_n (pc' := 41) (lv' := lv1) (st' := [.int (Int32.ofInt 1), .int (X3.1 95 14), .ref 95]) aj_d145 rfl (Nat.le_succ _) (fun _ => rfl) ?_
    refine fx_n (pc' := 42) (lv' := lv1) (st' := [.int ((X3.1 95 14) + (Int32.ofInt 1)), .ref 95]) aj_d145 rfl (Nat.le_succ _) (fun _ => rfl) ?_
    refine fx_pI aj_d145 rfl (Nat.le_succ _) rfl rfl (Or.inl rfl) fx_no_9_14 (by decide) ?_
    refine fx_qX (fun X5 eX5 => ?_)
    show fx_W _ _ _ 45 lv1 [] _ _
    exact fx_rn aj_d145 rfl ⟨(), rfl, 0, rfl⟩
  · skip
    refine fx_qi (c := ((X.1 95 10)).toInt = 1) (fx_f_ne q2) ?_
    show fx_W _ _ _ 23 lv1 [.int (X.1 95 14), .int ((X.1 p1 4) - (Int32.ofInt 1)), .ref p1] _ _
    refine fx_n (pc' := 24) (lv' := lv1) (st' := [.int (Int32.ofInt 1), .int (X.1 95 14), .int ((X.1 p1 4) - (Int32.ofInt 1)), .ref p1]) aj_d145 rfl (Nat.le_succ _) (fun _ => rfl) ?_
    refine fx_n (pc' := 28) (lv' := lv1) (st' := [.int (Int32.ofInt 1), .int (X.1 95 14), .int ((X.1 p1 4) - (Int32.ofInt 1)), .ref p1]) aj_d145 rfl (Nat.le_succ _) (fun _ => rfl) ?_
    refine fx_i2 aj_d145 rfl (Nat.le_succ _) (fun _ => rfl) hlv1_0 ?_
    refine fx_gI aj_d145 rfl (Nat.le_succ _) rfl rfl (Or.inl rfl) ?_
    refine fx_cv aj_d145 rfl (Nat.le_succ _) rfl [_, _, _, _] rfl rfl (gx_105_ok p1 ((X.1 p1 4) - (Int32.ofInt 1)) (X.1 95 14) (Int32.ofInt 1) (X.1 95 11)) ?_
    rintro _ X6 ⟨w7, rfl, hR6⟩ hok6 hle6
    refine fx_qc hR6 ?_
    show fx_W _ _ _ 35 lv1 [] _ _
    refine fx_i2 aj_d145 rfl (Nat.le_succ _) (fun _ => rfl) hlv1_0 ?_
    refine fx_n (pc' := 37) (lv' := lv1) (st' := [.ref 95, .ref 95]) aj_d145 rfl (Nat.le_succ _) (fun _ => rfl) ?_
    refine fx_gI aj_d145 rfl (Nat.le_succ _) rfl rfl (Or.inl rfl) ?_
    refine fx_n (pc' := 41) (lv' := lv1) (st' := [.int (Int32.ofInt 1), .int (X6.1 95 14), .ref 95]) aj_d145 rfl (Nat.le_succ _) (fun _ => rfl) ?_
    refine fx_n (pc' := 42) (lv' := lv1) (st' := [.int ((X6.1 95 14) + (Int32.ofInt 1)), .ref 95]) aj_d145 rfl (Nat.le_succ _) (fun _ => rfl) ?_
    refine fx_pI aj_d145 rfl (Nat.le_succ _) rfl rfl (Or.inl rfl) fx_no_9_14 (by decide) ?_
    refine fx_qX (fun X8 eX8 => ?_)
    show fx_W _ _ _ 45 lv1 [] _ _
    exact fx_rn aj_d145 rfl ⟨(), rfl, 0, rfl⟩
def gx_146_1 (X : fx_X) (v : Unit) (X' : fx_X) : Prop :=
  X' = X
theorem gx_146_1_ok {tb : aj_T} {X : fx_X} : fx_K tb 146 [.ref 95, .null] X (fx_Q fx_qN (fun v X' => gx_146_1 X v X')) := by
  refine fx_m aj_m146_at rfl (fun N => ?_)
  refine fx_mono (Q := fx_Q fx_qN (fun v X' => ∃ n : Nat, gx_146_1 X v X')) (fun r X' ⟨v, e, _, z⟩ => ⟨v, e, z⟩) ?_
  unfold gx_146_1
  show fx_W _ _ _ 0 [(0, .ref 95), (1, .null)] [] _ _
  obtain ⟨lv1, elv1⟩ : ∃ l : aj_V, l = [(0, .ref 95), (1, .null)] := ⟨_, rfl⟩
  rw [← elv1]
  have hlv1_0 : aj_lv lv1 0 = some (.ref 95) := by rw [elv1]; rfl
  have hlv1_1 : aj_lv lv1 1 = some (.null) := by rw [elv1]; rfl
  refine fx_i3 aj_d146 rfl (Nat.le_succ _) (fun _ => rfl) hlv1_1 ?_
  refine fx_n (pc' := 4) (lv' := lv1) (st' := []) aj_d146 rfl (Nat.le_succ _) (fun _ => rfl) ?_
  exact fx_rn aj_d146 rfl ⟨(), rfl, 0, rfl⟩
def gx_147 (p1 : Int32) (X : fx_X) (v : Int32) (X' : fx_X) : Prop :=
  (if (p1).toInt < 0 then (v = (Int32.ofInt 0) ∧ X' = X) else ((if (p1).toInt < 1024 then ((0 ≤ (p1).toInt ∧ (p1).toInt < ((1024 : Nat) : Int)) ∧ (if (((X.1 106 (p1).toInt.toNat) &&& (Int32.ofInt 1))).toInt = 0 then (v = (Int32.ofInt 0) ∧ X' = X) else (v = (Int32.ofInt 1) ∧ X' = X))) else (v = (Int32.ofInt 0) ∧ X' = X))))
theorem gx_147_ok {tb : aj_T} (p1 : Int32) {X : fx_X} : fx_K tb 147 [.ref 95, .int p1] X (fx_Q fx_qI (fun v X' => gx_147 p1 X v X')) := by
  refine fx_m aj_m147_at rfl (fun N => ?_)
  refine fx_mono (Q := fx_Q fx_qI (fun v X' => ∃ n : Nat, gx_147 p1 X v X')) (fun r X' ⟨v, e, _, z⟩ => ⟨v, e, z⟩) ?_
  unfold gx_147
  show fx_W _ _ _ 0 [(0, .ref 95), (1, .int p1)] [] _ _
  obtain ⟨lv1, elv1⟩ : ∃ l : aj_V, l = [(0, .ref 95), (1, .int p1)] := ⟨_, rfl⟩
  rw [← elv1]
  have hlv1_0 : aj_lv lv1 0 = some (.ref 95) := by rw [elv1]; rfl
  have hlv1_1 : aj_lv lv1 1 = some (.int p1) := by rw [elv1]; rfl
  refine fx_i0 aj_d147 rfl (Nat.le_succ _) (fun _ => rfl) hlv1_1 ?_
  refine fx_b0 (tgt := 28) aj_d147 rfl (Nat.le_succ _) rfl (fun q2 => ?_) (fun q2 => ?_)
  · skip
    refine fx_qi (c := (p1).toInt < 0) (fx_t_lt q2) ?_
    show fx_W _ _ _ 28 lv1 [] _ _
    refine fx_n (pc' := 29) (lv' := lv1) (st' := [.int (Int32.ofInt 0)]) aj_d147 rfl (Nat.le_succ _) (fun _ => rfl) ?_
    exact fx_ri aj_d147 rfl ⟨_, rfl, 0, rfl, rfl⟩
  · skip
    refine fx_qe (c := (p1).toInt < 0) (fx_f_lt q2) ?_
    show fx_W _ _ _ 4 lv1 [] _ _
    refine fx_i0 aj_d147 rfl (Nat.le_succ _) (fun _ => rfl) hlv1_1 ?_
    refine fx_i2 aj_d147 rfl (Nat.le_succ _) (fun _ => rfl) hlv1_0 ?_
    refine fx_gF aj_d147 rfl (Nat.le_succ _) rfl rfl fx_in_9_6 (t := 106) rfl (fun hA3 => ?_)
    refine fx_al aj_d147 rfl (Nat.le_succ _) ?_
    rw [(hA3 : X.2.2.2.1 106 = (0, 1024))]
    show fx_W _ _ _ 10 lv1 [.int (Int32.ofNat 1024), .int p1] _ _
    refine fx_b (tgt := 28) aj_d147 rfl (Nat.le_succ _) rfl (fun q4 => ?_) (fun q4 => ?_)
    · skip
      refine fx_qe (c := (p1).toInt < 1024) (fx_t_ge q4) ?_
      show fx_W _ _ _ 28 lv1 [] _ _
      refine fx_n (pc' := 29) (lv' := lv1) (st' := [.int (Int32.ofInt 0)]) aj_d147 rfl (Nat.le_succ _) (fun _ => rfl) ?_
      exact fx_ri aj_d147 rfl ⟨_, rfl, 0, rfl, rfl⟩
    · skip
      refine fx_qi (c := (p1).toInt < 1024) (fx_f_ge q4) ?_
      show fx_W _ _ _ 13 lv1 [] _ _
      refine fx_i2 aj_d147 rfl (Nat.le_succ _) (fun _ => rfl) hlv1_0 ?_
      refine fx_gF aj_d147 rfl (Nat.le_succ _) rfl rfl fx_in_9_6 (t := 106) rfl (fun hA5 => ?_)
      refine fx_i0 aj_d147 rfl (Nat.le_succ _) (fun _ => rfl) hlv1_1 ?_
      refine fx_ld aj_d147 (Or.inl rfl) rfl (Nat.le_succ _) (fun g60 g61 => ?_)
      show fx_W _ _ _ 19 lv1 [.int (X.1 106 (p1).toInt.toNat)] _ _
      refine fx_qa (c := 0 ≤ (p1).toInt ∧ (p1).toInt < ((1024 : Nat) : Int)) ⟨g60, fx_lnk g61 hA5⟩ ?_
      refine fx_n (pc' := 20) (lv' := lv1) (st' := [.int (Int32.ofInt 1), .int (X.1 106 (p1).toInt.toNat)]) aj_d147 rfl (Nat.le_succ _) (fun _ => rfl) ?_
      refine fx_n (pc' := 21) (lv' := lv1) (st' := [.int ((X.1 106 (p1).toInt.toNat) &&& (Int32.ofInt 1))]) aj_d147 rfl (Nat.le_succ _) (fun _ => rfl) ?_
      refine fx_b0 (tgt := 28) aj_d147 rfl (Nat.le_succ _) rfl (fun q7 => ?_) (fun q7 => ?_)
      · skip
        refine fx_qi (c := (((X.1 106 (p1).toInt.toNat) &&& (Int32.ofInt 1))).toInt = 0) (fx_t_eq q7) ?_
        show fx_W _ _ _ 28 lv1 [] _ _
        refine fx_n (pc' := 29) (lv' := lv1) (st' := [.int (Int32.ofInt 0)]) aj_d147 rfl (Nat.le_succ _) (fun _ => rfl) ?_
        exact fx_ri aj_d147 rfl ⟨_, rfl, 0, rfl, rfl⟩
      · skip
        refine fx_qe (c := (((X.1 106 (p1).toInt.toNat) &&& (Int32.ofInt 1))).toInt = 0) (fx_f_eq q7) ?_
        show fx_W _ _ _ 24 lv1 [] _ _
        refine fx_n (pc' := 25) (lv' := lv1) (st' := [.int (Int32.ofInt 1)]) aj_d147 rfl (Nat.le_succ _) (fun _ => rfl) ?_
        refine fx_n (pc' := 29) (lv' := lv1) (st' := [.int (Int32.ofInt 1)]) aj_d147 rfl (Nat.le_succ _) (fun _ => rfl) ?_
        exact fx_ri aj_d147 rfl ⟨_, rfl, 0, rfl, rfl⟩
def gx_110 (p0 : Nat) (p1 : Int32) (p2 : Int32) (X : fx_X) (v : Unit) (X' : fx_X) : Prop :=
  (if (p2).toInt < 0 then (X' = X) else ((if (p2).toInt < 1024 then ((0 ≤ (p2).toInt ∧ (p2).toInt < ((1024 : Nat) : Int)) ∧ (0 ≤ (p2).toInt ∧ (p2).toInt < ((1024 : Nat) : Int)) ∧ ∃ X8 : fx_X, X8 = (fx_wI X (p0 + 3) (p2).toInt.toNat ((X.1 (p0 + 3) (p2).toInt.toNat) &&& (((Int32.ofInt 1) <<< (p1 &&& 31)) ^^^ (Int32.ofInt (-1))))) ∧ X' = X8) else (X' = X))))
theorem gx_110_ok {tb : aj_T} (p0 : Nat) (p1 : Int32) (p2 : Int32) {X : fx_X} : fx_K tb 110 [.ref p0, .int p1, .int p2] X (fx_Q fx_qN (fun v X' => gx_110 p0 p1 p2 X v X')) := by
  refine fx_m aj_m110_at rfl (fun N => ?_)
  refine fx_mono (Q := fx_Q fx_qN (fun v X' => ∃ n : Nat, gx_110 p0 p1 p2 X v X')) (fun r X' ⟨v, e, _, z⟩ => ⟨v, e, z⟩) ?_
  unfold gx_110
  show fx_W _ _ _ 0 [(0, .ref p0), (1, .int p1), (2, .int p2)] [] _ _
  obtain ⟨lv1, elv1⟩ : ∃ l : aj_V, l = [(0, .ref p0), (1, .int p1), (2, .int p2)] := ⟨_, rfl⟩
  rw [← elv1]
  have hlv1_0 : aj_lv lv1 0 = some (.ref p0) := by rw [elv1]; rfl
  have hlv1_1 : aj_lv lv1 1 = some (.int p1) := by rw [elv1]; rfl
  have hlv1_2 : aj_lv lv1 2 = some (.int p2) := by rw [elv1]; rfl
  refine fx_i0 aj_d110 rfl (Nat.le_succ _) (fun _ => rfl) hlv1_2 ?_
  refine fx_b0 (tgt := 27) aj_d110 rfl (Nat.le_succ _) rfl (fun q2 => ?_) (fun q2 => ?_)
  · skip
    refine fx_qi (c := (p2).toInt < 0) (fx_t_lt q2) ?_
    show fx_W _ _ _ 27 lv1 [] _ _
    exact fx_rn aj_d110 rfl ⟨(), rfl, 0, rfl⟩
  · skip
    refine fx_qe (c := (p2).toInt < 0) (fx_f_lt q2) ?_
    show fx_W _ _ _ 4 lv1 [] _ _
    refine fx_i0 aj_d110 rfl (Nat.le_succ _) (fun _ => rfl) hlv1_2 ?_
    refine fx_i2 aj_d110 rfl (Nat.le_succ _) (fun _ => rfl) hlv1_0 ?_
    refine fx_gF aj_d110 rfl (Nat.le_succ _) rfl rfl fx_in_6_2 (t := (p0 + 3)) rfl (fun hA3 => ?_)
    refine fx_al aj_d110 rfl (Nat.le_succ _) ?_
    rw [(hA3 : X.2.2.2.1 (p0 + 3) = (0, 1024))]
    show fx_W _ _ _ 10 lv1 [.int (Int32.ofNat 1024), .int p2] _ _
    refine fx_b (tgt := 27) aj_d110 rfl (Nat.le_succ _) rfl (fun q4 => ?_) (fun q4 => ?_)
    · skip
      refine fx_qe (c := (p2).toInt < 1024) (fx_t_ge q4) ?_
      show fx_W _ _ _ 27 lv1 [] _ _
      exact fx_rn aj_d110 rfl ⟨(), rfl, 0, rfl⟩
    · skip
      refine fx_qi (c := (p2).toInt < 1024) (fx_f_ge q4) ?_
      show fx_W _ _ _ 13 lv1 [] _ _
      refine fx_i2 aj_d110 rfl (Nat.le_succ _) (fun _ => rfl) hlv1_0 ?_
      refine fx_gF aj_d110 rfl (Nat.le_succ _) rfl rfl fx_in_6_2 (t := (p0 + 3)) rfl (fun hA5 => ?_)
      refine fx_i0 aj_d110 rfl (Nat.le_succ _) (fun _ => rfl) hlv1_2 ?_
      refine fx_n (pc' := 19) (lv' := lv1) (st' := [.int p2, .ref (p0 + 3), .int p2, .ref (p0 + 3)]) aj_d110 rfl (Nat.le_succ _) (fun _ => rfl) ?_
      refine fx_ld aj_d110 (Or.inl rfl) rfl (Nat.le_succ _) (fun g60 g61 => ?_)
      show fx_W _ _ _ 20 lv1 [.int (X.1 (p0 + 3) (p2).toInt.toNat), .int p2, .ref (p0 + 3)] _ _
      refine fx_qa (c := 0 ≤ (p2).toInt ∧ (p2).toInt < ((1024 : Nat) : Int)) ⟨g60, fx_lnk g61 hA5⟩ ?_
      refine fx_n (pc' := 21) (lv' := lv1) (st' := [.int (Int32.ofInt 1), .int (X.1 (p0 + 3) (p2).toInt.toNat), .int p2, .ref (p0 + 3)]) aj_d110 rfl (Nat.le_succ _) (fun _ => rfl) ?_
      refine fx_i0 aj_d110 rfl (Nat.le_succ _) (fun _ => rfl) hlv1_1 ?_
      refine fx_n (pc' := 23) (lv' := lv1) (st' := [.int ((Int32.ofInt 1) <<< (p1 &&& 31)), .int (X.1 (p0 + 3) (p2).toInt.toNat), .int p2, .ref (p0 + 3)]) aj_d110 rfl (Nat.le_succ _) (fun _ => rfl) ?_
      refine fx_n (pc' := 24) (lv' := lv1) (st' := [.int (Int32.ofInt (-1)), .int ((Int32.ofInt 1) <<< (p1 &&& 31)), .int (X.1 (p0 + 3) (p2).toInt.toNat), .int p2, .ref (p0 + 3)]) aj_d110 rfl (Nat.le_succ _) (fun _ => rfl) ?_
      refine fx_n (pc' := 25) (lv' := lv1) (st' := [.int (((Int32.ofInt 1) <<< (p1 &&& 31)) ^^^ (Int32.ofInt (-1))), .int (X.1 (p0 + 3) (p2).toInt.toNat), .int p2, .ref (p0 + 3)]) aj_d110 rfl (Nat.le_succ _) (fun _ => rfl) ?_
      refine fx_n (pc' := 26) (lv' := lv1) (st' := [.int ((X.1 (p0 + 3) (p2).toInt.toNat) &&& (((Int32.ofInt 1) <<< (p1 &&& 31)) ^^^ (Int32.ofInt (-1)))), .int p2, .ref (p0 + 3)]) aj_d110 rfl (Nat.le_succ _) (fun _ => rfl) ?_
      refine fx_st aj_d110 (Or.inl ⟨rfl, rfl⟩) rfl (Nat.le_succ _) (fun g70 g71 => ?_)
      show fx_W _ _ _ _ _ _ (fx_wI X (p0 + 3) (p2).toInt.toNat ((X.1 (p0 + 3) (p2).toInt.toNat) &&& (((Int32.ofInt 1) <<< (p1 &&& 31)) ^^^ (Int32.ofInt (-1))))) _
      refine fx_qa (c := 0 ≤ (p2).toInt ∧ (p2).toInt < ((1024 : Nat) : Int)) ⟨g70, fx_lnk g71 hA5⟩ ?_
      refine fx_qX (fun X8 eX8 => ?_)
      show fx_W _ _ _ 27 lv1 [] _ _
      exact fx_rn aj_d110 rfl ⟨(), rfl, 0, rfl⟩
def gxT_146_2_7 (p1 : Nat) (P : Nat → List Int32 → List Int64 → List Nat → fx_X → Unit → fx_X → Prop) (y2 : Int32) (X : fx_X) (v : Unit) (X' : fx_X) : Prop :=
  ∃ b4 : Nat, X.2.2.1 95 7 = some b4 ∧ (if (y2).toInt < ((X.1 b4 13)).toInt then (∃ (w7 : Int32) (X6 : fx_X), gx_147 y2 X w7 X6 ∧ (if (w7).toInt = 0 then (∃ (w12 : Unit) (X11 : fx_X), gx_110 p1 ((X6.1 p1 4) - (Int32.ofInt 1)) y2 X6 w12 X11 ∧ ∃ x13 : Int32, x13 = y2 + Int32.ofInt 1 ∧ P 7 [x13] [] [] X11 v X') else (∃ x9 : Int32, x9 = y2 + Int32.ofInt 1 ∧ P 7 [x9] [] [] X6 v X'))) else (X' = X))
def gxE_146_2 (p1 : Nat) (P : Nat → List Int32 → List Int64 → List Nat → fx_X → Unit → fx_X → Prop) (X : fx_X) (v : Unit) (X' : fx_X) : Prop :=
  P 7 [(Int32.ofInt 0)] [] [] X v X'
noncomputable def gxF_146_2 (p1 : Nat) (n : Nat) : Nat → List Int32 → List Int64 → List Nat → fx_X → Unit → fx_X → Prop := Nat.rec (motive := fun _ => Nat → List Int32 → List Int64 → List Nat → fx_X → Unit → fx_X → Prop) (fun _ _ _ _ _ _ _ => False) (fun _ P l is ls rs X v X' => (l = 7 ∧ ∃ (y2 : Int32), is = [y2] ∧ ls = [] ∧ rs = [] ∧ gxT_146_2_7 p1 P y2 X v X')) n
theorem gxI_146_2_7 {p1 : Nat} {n : Nat} {y2 : Int32} {X : fx_X} {v : Unit} {X' : fx_X} (h : gxT_146_2_7 p1 (gxF_146_2 p1 n) y2 X v X') : gxF_146_2 p1 (n + 1) 7 [y2] [] [] X v X' := ⟨rfl, y2, rfl, rfl, rfl, h⟩
theorem gxO_146_2_7 {p1 : Nat} {n : Nat} {y2 : Int32} {X : fx_X} {v : Unit} {X' : fx_X} (h : gxF_146_2 p1 (n + 1) 7 [y2] [] [] X v X') : gxT_146_2_7 p1 (gxF_146_2 p1 n) y2 X v X' := by
  rcases h with ⟨-, _, e1, e2, e3, h⟩
  · cases e1; cases e2; cases e3; exact h
def gx_146_2 (p1 : Nat) (X : fx_X) (v : Unit) (X' : fx_X) : Prop := ∃ n : Nat, gxE_146_2 p1 (gxF_146_2 p1 n) X v X'
theorem gxL_146_2 {tb : aj_T} (p1 : Nat) : ∀ N : Nat, (∀ (lv : aj_V) (y2 : Int32) (X : fx_X), aj_lv lv 0 = some (.ref 95) → aj_lv lv 1 = some (.ref p1) → aj_lv lv 2 = some (.int y2) → fx_W tb aj_m146 N 7 lv [] X (fx_Q fx_qN (fun v X' => ∃ n : Nat, gxF_146_2 p1 n 7 [y2] [] [] X v X'))) := by
  intro N
  induction N with
  | zero => exact (by intros; exact fx_z)
  | succ N ih =>
    skip
    · intro lv y2 X hlv_0 hlv_1 hlv_2
      refine fx_mono (Q := fx_Q fx_qN (fun v X' => ∃ n : Nat, gxT_146_2_7 p1 (gxF_146_2 p1 n) y2 X v X')) (fun r X' ⟨v, e, n, z⟩ => ⟨v, e, n + 1, gxI_146_2_7 z⟩) ?_
      unfold gxT_146_2_7
      refine fx_i0 aj_d146 rfl (Nat.le_refl _) (fun _ => rfl) hlv_2 ?_
      refine fx_i2 aj_d146 rfl (Nat.le_succ _) (fun _ => rfl) hlv_0 ?_
      refine fx_gR aj_d146 rfl (Nat.le_succ _) rfl rfl (Or.inl ⟨_, rfl⟩) (fun q3 _ => ?_) (fun b4 q3 => ?_)
      · skip
        show fx_W _ _ _ 12 lv [.null, .int y2] _ _
        exact fx_d aj_d146 rfl (fun _ => rfl)
      · skip
        refine fx_qs q3 ?_
        show fx_W _ _ _ 12 lv [.ref b4, .int y2] _ _
        refine fx_gI aj_d146 rfl (Nat.le_succ _) rfl rfl (Or.inl rfl) ?_
        refine fx_b (tgt := 43) aj_d146 rfl (Nat.le_succ _) rfl (fun q5 => ?_) (fun q5 => ?_)
        · skip
          refine fx_qe (c := (y2).toInt < ((X.1 b4 13)).toInt) (fx_t_ge q5) ?_
          show fx_W _ _ _ 43 lv [] _ _
          exact fx_rn aj_d146 rfl ⟨(), rfl, 0, rfl⟩
        · skip
          refine fx_qi (c := (y2).toInt < ((X.1 b4 13)).toInt) (fx_f_ge q5) ?_
          show fx_W _ _ _ 18 lv [] _ _
          refine fx_i2 aj_d146 rfl (Nat.le_succ _) (fun _ => rfl) hlv_0 ?_
          refine fx_i0 aj_d146 rfl (Nat.le_succ _) (fun _ => rfl) hlv_2 ?_
          refine fx_cv aj_d146 rfl (Nat.le_succ _) rfl [_] rfl rfl (gx_147_ok y2) ?_
          rintro _ X6 ⟨w7, rfl, hR6⟩ hok6 hle6
          refine fx_qc hR6 ?_
          show fx_W _ _ _ 23 lv [.int w7] _ _
          refine fx_b0 (tgt := 37) aj_d146 rfl (Nat.le_succ _) rfl (fun q8 => ?_) (fun q8 => ?_)
          · skip
            refine fx_qe (c := (w7).toInt = 0) (fx_t_ne q8) ?_
            show fx_W _ _ _ 37 lv [] _ _
            refine fx_incq aj_d146 rfl (Nat.le_succ _) hlv_2 (by decide) (fun x9 ex9 => ?_)
            obtain ⟨lv10, elv10⟩ : ∃ l, l = aj_set1 lv 2 (.int x9) := ⟨_, rfl⟩
            rw [← elv10]
            have hlv10_0 : aj_lv lv10 0 = some (.ref 95) := fx_e1 elv10 hlv_0 (by decide) (Or.inl (by decide))
            have hlv10_1 : aj_lv lv10 1 = some (.ref p1) := fx_e1 elv10 hlv_1 (by decide) (Or.inr rfl)
            have hlv10_2 : aj_lv lv10 2 = some (.int x9) := by rw [elv10]; exact ak_set1_eq _ _ _
            show fx_W _ _ _ 40 lv10 [] _ _
            refine fx_n (pc' := 7) (lv' := lv10) (st' := []) aj_d146 rfl (Nat.le_succ _) (fun _ => rfl) ?_
            exact (ih) lv10 (x9) X6  hlv10_0 hlv10_1 hlv10_2
          · skip
            refine fx_qi (c := (w7).toInt = 0) (fx_f_ne q8) ?_
            show fx_W _ _ _ 26 lv [] _ _
            refine fx_i2 aj_d146 rfl (Nat.le_succ _) (fun _ => rfl) hlv_1 ?_
            refine fx_i2 aj_d146 rfl (Nat.le_succ _) (fun _ => rfl) hlv_1 ?_
            refine fx_gI aj_d146 rfl (Nat.le_succ _) rfl rfl (Or.inl rfl) ?_
            refine fx_n (pc' := 32) (lv' := lv) (st' := [.int (Int32.ofInt 1), .int (X6.1 p1 4), .ref p1]) aj_d146 rfl (Nat.le_succ _) (fun _ => rfl) ?_
            refine fx_n (pc' := 33) (lv' := lv) (st' := [.int ((X6.1 p1 4) - (Int32.ofInt 1)), .ref p1]) aj_d146 rfl (Nat.le_succ _) (fun _ => rfl) ?_
            refine fx_i0 aj_d146 rfl (Nat.le_succ _) (fun _ => rfl) hlv_2 ?_
            refine fx_cv aj_d146 rfl (Nat.le_succ _) rfl [_, _] rfl rfl (gx_110_ok p1 ((X6.1 p1 4) - (Int32.ofInt 1)) y2) ?_
            rintro _ X11 ⟨w12, rfl, hR11⟩ hok11 hle11
            refine fx_qc hR11 ?_
            show fx_W _ _ _ 37 lv [] _ _
            refine fx_incq aj_d146 rfl (Nat.le_succ _) hlv_2 (by decide) (fun x13 ex13 => ?_)
            obtain ⟨lv14, elv14⟩ : ∃ l, l = aj_set1 lv 2 (.int x13) := ⟨_, rfl⟩
            rw [← elv14]
            have hlv14_0 : aj_lv lv14 0 = some (.ref 95) := fx_e1 elv14 hlv_0 (by decide) (Or.inl (by decide))
            have hlv14_1 : aj_lv lv14 1 = some (.ref p1) := fx_e1 elv14 hlv_1 (by decide) (Or.inr rfl)
            have hlv14_2 : aj_lv lv14 2 = some (.int x13) := by rw [elv14]; exact ak_set1_eq _ _ _
            show fx_W _ _ _ 40 lv14 [] _ _
            refine fx_n (pc' := 7) (lv' := lv14) (st' := []) aj_d146 rfl (Nat.le_succ _) (fun _ => rfl) ?_
            exact (ih) lv14 (x13) X11  hlv14_0 hlv14_1 hlv14_2
theorem gx_146_2_ok {tb : aj_T} (p1 : Nat) {X : fx_X} : fx_K tb 146 [.ref 95, .ref p1] X (fx_Q fx_qN (fun v X' => gx_146_2 p1 X v X')) := by
  refine fx_m aj_m146_at rfl (fun N => ?_)
  refine fx_mono (Q := fx_Q fx_qN (fun v X' => ∃ n : Nat, gxE_146_2 p1 (gxF_146_2 p1 n) X v X')) (fun r X' h => h) ?_
  unfold gxE_146_2
  show fx_W _ _ _ 0 [(0, .ref 95), (1, .ref p1)] [] _ _
  obtain ⟨lv1, elv1⟩ : ∃ l : aj_V, l = [(0, .ref 95), (1, .ref p1)] := ⟨_, rfl⟩
  rw [← elv1]
  have hlv1_0 : aj_lv lv1 0 = some (.ref 95) := by rw [elv1]; rfl
  have hlv1_1 : aj_lv lv1 1 = some (.ref p1) := by rw [elv1]; rfl
  refine fx_i2 aj_d146 rfl (Nat.le_succ _) (fun _ => rfl) hlv1_1 ?_
  refine fx_n (pc' := 5) (lv' := lv1) (st' := []) aj_d146 rfl (Nat.le_succ _) (fun _ => rfl) ?_
  refine fx_n (pc' := 6) (lv' := lv1) (st' := [.int (Int32.ofInt 0)]) aj_d146 rfl (Nat.le_succ _) (fun _ => rfl) ?_
  refine fx_s0 (j := 2) aj_d146 rfl (Nat.le_succ _) (by decide) (fun _ => rfl) ?_
  obtain ⟨lv2, elv2⟩ : ∃ l, l = aj_set1 lv1 2 (.int (Int32.ofInt 0)) := ⟨_, rfl⟩
  rw [← elv2]
  have hlv2_0 : aj_lv lv2 0 = some (.ref 95) := fx_e1 elv2 hlv1_0 (by decide) (Or.inl (by decide))
  have hlv2_1 : aj_lv lv2 1 = some (.ref p1) := fx_e1 elv2 hlv1_1 (by decide) (Or.inr rfl)
  have hlv2_2 : aj_lv lv2 2 = some (.int (Int32.ofInt 0)) := by rw [elv2]; exact ak_set1_eq _ _ _
  show fx_W _ _ _ 7 lv2 [] _ _
  exact ((gxL_146_2 p1 N)) lv2 ((Int32.ofInt 0)) X  hlv2_0 hlv2_1 hlv2_2
def gxT_148_12 (p0 : Nat) (P : Nat → List Int32 → List Int64 → List Nat → fx_X → Unit → fx_X → Prop) (y2 : Int32) (X : fx_X) (v : Unit) (X' : fx_X) : Prop :=
  (if (y2).toInt < ((X.1 p0 13)).toInt then ((if (y2).toInt < 1024 then (∃ (w14 : Int32) (X13 : fx_X), gx_147 y2 X w14 X13 ∧ (if (w14).toInt = 0 then ((0 ≤ (y2).toInt ∧ (y2).toInt < ((1024 : Nat) : Int)) ∧ (0 ≤ (y2).toInt ∧ (y2).toInt < ((1024 : Nat) : Int)) ∧ ∃ X21 : fx_X, X21 = (fx_wI X13 (p0 + 5) (y2).toInt.toNat ((X13.1 (p0 + 5) (y2).toInt.toNat) ||| ((Int32.ofInt 1) <<< ((X13.1 p0 15) &&& 31)))) ∧ ∃ x22 : Int32, x22 = y2 + Int32.ofInt 1 ∧ P 12 [x22] [] [] X21 v X') else (∃ x16 : Int32, x16 = y2 + Int32.ofInt 1 ∧ P 12 [x16] [] [] X13 v X'))) else (∃ X10 : fx_X, X10 = (fx_wI X p0 15 ((X.1 p0 15) + (Int32.ofInt 1))) ∧ ∃ (w12 : Unit) (X11 : fx_X), gx_6 p0 X10 w12 X11 ∧ X' = X11))) else (∃ X5 : fx_X, X5 = (fx_wI X p0 15 ((X.1 p0 15) + (Int32.ofInt 1))) ∧ ∃ (w7 : Unit) (X6 : fx_X), gx_6 p0 X5 w7 X6 ∧ X' = X6))
def gxE_148 (p0 : Nat) (P : Nat → List Int32 → List Int64 → List Nat → fx_X → Unit → fx_X → Prop) (X : fx_X) (v : Unit) (X' : fx_X) : Prop :=
  (if ((X.1 p0 15)).toInt < 20 then (P 12 [(Int32.ofInt 0)] [] [] X v X') else (X' = X))
noncomputable def gxF_148 (p0 : Nat) (n : Nat) : Nat → List Int32 → List Int64 → List Nat → fx_X → Unit → fx_X → Prop := Nat.rec (motive := fun _ => Nat → List Int32 → List Int64 → List Nat → fx_X → Unit → fx_X → Prop) (fun _ _ _ _ _ _ _ => False) (fun _ P l is ls rs X v X' => (l = 12 ∧ ∃ (y2 : Int32), is = [y2] ∧ ls = [] ∧ rs = [] ∧ gxT_148_12 p0 P y2 X v X')) n
theorem gxI_148_12 {p0 : Nat} {n : Nat} {y2 : Int32} {X : fx_X} {v : Unit} {X' : fx_X} (h : gxT_148_12 p0 (gxF_148 p0 n) y2 X v X') : gxF_148 p0 (n + 1) 12 [y2] [] [] X v X' := ⟨rfl, y2, rfl, rfl, rfl, h⟩
theorem gxO_148_12 {p0 : Nat} {n : Nat} {y2 : Int32} {X : fx_X} {v : Unit} {X' : fx_X} (h : gxF_148 p0 (n + 1) 12 [y2] [] [] X v X') : gxT_148_12 p0 (gxF_148 p0 n) y2 X v X' := by
  rcases h with ⟨-, _, e1, e2, e3, h⟩
  · cases e1; cases e2; cases e3; exact h
def gx_148 (p0 : Nat) (X : fx_X) (v : Unit) (X' : fx_X) : Prop := ∃ n : Nat, gxE_148 p0 (gxF_148 p0 n) X v X'
theorem gxL_148 {tb : aj_T} (p0 : Nat) : ∀ N : Nat, (∀ (lv : aj_V) (y2 : Int32) (X : fx_X), aj_lv lv 0 = some (.ref p0) → aj_lv lv 1 = some (.ref 95) → aj_lv lv 2 = some (.int y2) → fx_W tb aj_m148 N 12 lv [] X (fx_Q fx_qN (fun v X' => ∃ n : Nat, gxF_148 p0 n 12 [y2] [] [] X v X'))) := by
  intro N
  induction N with
  | zero => exact (by intros; exact fx_z)
  | succ N ih =>
    skip
    · intro lv y2 X hlv_0 hlv_1 hlv_2
      refine fx_mono (Q := fx_Q fx_qN (fun v X' => ∃ n : Nat, gxT_148_12 p0 (gxF_148 p0 n) y2 X v X')) (fun r X' ⟨v, e, n, z⟩ => ⟨v, e, n + 1, gxI_148_12 z⟩) ?_
      unfold gxT_148_12
      refine fx_i0 aj_d148 rfl (Nat.le_refl _) (fun _ => rfl) hlv_2 ?_
      refine fx_i2 aj_d148 rfl (Nat.le_succ _) (fun _ => rfl) hlv_0 ?_
      refine fx_gI aj_d148 rfl (Nat.le_succ _) rfl rfl (Or.inl rfl) ?_
      refine fx_b (tgt := 58) aj_d148 rfl (Nat.le_succ _) rfl (fun q4 => ?_) (fun q4 => ?_)
      · skip
        refine fx_qe (c := (y2).toInt < ((X.1 p0 13)).toInt) (fx_t_ge q4) ?_
        show fx_W _ _ _ 58 lv [] _ _
        refine fx_i2 aj_d148 rfl (Nat.le_succ _) (fun _ => rfl) hlv_0 ?_
        refine fx_n (pc' := 60) (lv' := lv) (st' := [.ref p0, .ref p0]) aj_d148 rfl (Nat.le_succ _) (fun _ => rfl) ?_
        refine fx_gI aj_d148 rfl (Nat.le_succ _) rfl rfl (Or.inl rfl) ?_
        refine fx_n (pc' := 64) (lv' := lv) (st' := [.int (Int32.ofInt 1), .int (X.1 p0 15), .ref p0]) aj_d148 rfl (Nat.le_succ _) (fun _ => rfl) ?_
        refine fx_n (pc' := 65) (lv' := lv) (st' := [.int ((X.1 p0 15) + (Int32.ofInt 1)), .ref p0]) aj_d148 rfl (Nat.le_succ _) (fun _ => rfl) ?_
        refine fx_pI aj_d148 rfl (Nat.le_succ _) rfl rfl (Or.inl rfl) fx_no_7_15 (by decide) ?_
        refine fx_qX (fun X5 eX5 => ?_)
        show fx_W _ _ _ 68 lv [] _ _
        refine fx_i2 aj_d148 rfl (Nat.le_succ _) (fun _ => rfl) hlv_0 ?_
        refine fx_cv aj_d148 rfl (Nat.le_succ _) rfl [] rfl rfl (gx_6_ok p0) ?_
        rintro _ X6 ⟨w7, rfl, hR6⟩ hok6 hle6
        refine fx_qc hR6 ?_
        show fx_W _ _ _ 72 lv [] _ _
        exact fx_rn aj_d148 rfl ⟨(), rfl, 0, rfl⟩
      · skip
        refine fx_qi (c := (y2).toInt < ((X.1 p0 13)).toInt) (fx_f_ge q4) ?_
        show fx_W _ _ _ 20 lv [] _ _
        refine fx_i0 aj_d148 rfl (Nat.le_succ _) (fun _ => rfl) hlv_2 ?_
        refine fx_i2 aj_d148 rfl (Nat.le_succ _) (fun _ => rfl) hlv_0 ?_
        refine fx_gF aj_d148 rfl (Nat.le_succ _) rfl rfl fx_in_7_4 (t := (p0 + 5)) rfl (fun hA8 => ?_)
        refine fx_al aj_d148 rfl (Nat.le_succ _) ?_
        rw [(hA8 : X.2.2.2.1 (p0 + 5) = (0, 1024))]
        show fx_W _ _ _ 26 lv [.int (Int32.ofNat 1024), .int y2] _ _
        refine fx_b (tgt := 58) aj_d148 rfl (Nat.le_succ _) rfl (fun q9 => ?_) (fun q9 => ?_)
        · skip
          refine fx_qe (c := (y2).toInt < 1024) (fx_t_ge q9) ?_
          show fx_W _ _ _ 58 lv [] _ _
          refine fx_i2 aj_d148 rfl (Nat.le_succ _) (fun _ => rfl) hlv_0 ?_
          refine fx_n (pc' := 60) (lv' := lv) (st' := [.ref p0, .ref p0]) aj_d148 rfl (Nat.le_succ _) (fun _ => rfl) ?_
          refine fx_gI aj_d148 rfl (Nat.le_succ _) rfl rfl (Or.inl rfl) ?_
          refine fx_n (pc' := 64) (lv' := lv) (st' := [.int (Int32.ofInt 1), .int (X.1 p0 15), .ref p0]) aj_d148 rfl (Nat.le_succ _) (fun _ => rfl) ?_
          refine fx_n (pc' := 65) (lv' := lv) (st' := [.int ((X.1 p0 15) + (Int32.ofInt 1)), .ref p0]) aj_d148 rfl (Nat.le_succ _) (fun _ => rfl) ?_
          refine fx_pI aj_d148 rfl (Nat.le_succ _) rfl rfl (Or.inl rfl) fx_no_7_15 (by decide) ?_
          refine fx_qX (fun X10 eX10 => ?_)
          show fx_W _ _ _ 68 lv [] _ _
          refine fx_i2 aj_d148 rfl (Nat.le_succ _) (fun _ => rfl) hlv_0 ?_
          refine fx_cv aj_d148 rfl (Nat.le_succ _) rfl [] rfl rfl (gx_6_ok p0) ?_
          rintro _ X11 ⟨w12, rfl, hR11⟩ hok11 hle11
          refine fx_qc hR11 ?_
          show fx_W _ _ _ 72 lv [] _ _
          exact fx_rn aj_d148 rfl ⟨(), rfl, 0, rfl⟩
        · skip
          refine fx_qi (c := (y2).toInt < 1024) (fx_f_ge q9) ?_
          show fx_W _ _ _ 29 lv [] _ _
          refine fx_i2 aj_d148 rfl (Nat.le_succ _) (fun _ => rfl) hlv_1 ?_
          refine fx_i0 aj_d148 rfl (Nat.le_succ _) (fun _ => rfl) hlv_2 ?_
          refine fx_cv aj_d148 rfl (Nat.le_succ _) rfl [_] rfl rfl (gx_147_ok y2) ?_
          rintro _ X13 ⟨w14, rfl, hR13⟩ hok13 hle13
          refine fx_qc hR13 ?_
          show fx_W _ _ _ 34 lv [.int w14] _ _
          refine fx_b0 (tgt := 52) aj_d148 rfl (Nat.le_succ _) rfl (fun q15 => ?_) (fun q15 => ?_)
          · skip
            refine fx_qe (c := (w14).toInt = 0) (fx_t_ne q15) ?_
            show fx_W _ _ _ 52 lv [] _ _
            refine fx_incq aj_d148 rfl (Nat.le_succ _) hlv_2 (by decide) (fun x16 ex16 => ?_)
            obtain ⟨lv17, elv17⟩ : ∃ l, l = aj_set1 lv 2 (.int x16) := ⟨_, rfl⟩
            rw [← elv17]
            have hlv17_0 : aj_lv lv17 0 = some (.ref p0) := fx_e1 elv17 hlv_0 (by decide) (Or.inl (by decide))
            have hlv17_1 : aj_lv lv17 1 = some (.ref 95) := fx_e1 elv17 hlv_1 (by decide) (Or.inr rfl)
            have hlv17_2 : aj_lv lv17 2 = some (.int x16) := by rw [elv17]; exact ak_set1_eq _ _ _
            show fx_W _ _ _ 55 lv17 [] _ _
            refine fx_n (pc' := 12) (lv' := lv17) (st' := []) aj_d148 rfl (Nat.le_succ _) (fun _ => rfl) ?_
            exact (ih) lv17 (x16) X13  hlv17_0 hlv17_1 hlv17_2
          · skip
            refine fx_qi (c := (w14).toInt = 0) (fx_f_ne q15) ?_
            show fx_W _ _ _ 37 lv [] _ _
            refine fx_i2 aj_d148 rfl (Nat.le_succ _) (fun _ => rfl) hlv_0 ?_
            refine fx_gF aj_d148 rfl (Nat.le_succ _) rfl rfl fx_in_7_4 (t := (p0 + 5)) rfl (fun hA18 => ?_)
            refine fx_i0 aj_d148 rfl (Nat.le_succ _) (fun _ => rfl) hlv_2 ?_
            refine fx_n (pc' := 43) (lv' := lv) (st' := [.int y2, .ref (p0 + 5), .int y2, .ref (p0 + 5)]) aj_d148 rfl (Nat.le_succ _) (fun _ => rfl) ?_
            refine fx_ld aj_d148 (Or.inl rfl) rfl (Nat.le_succ _) (fun g190 g191 => ?_)
            show fx_W _ _ _ 44 lv [.int (X13.1 (p0 + 5) (y2).toInt.toNat), .int y2, .ref (p0 + 5)] _ _
            refine fx_qa (c := 0 ≤ (y2).toInt ∧ (y2).toInt < ((1024 : Nat) : Int)) ⟨g190, fx_lnk g191 hA18⟩ ?_
            refine fx_n (pc' := 45) (lv' := lv) (st' := [.int (Int32.ofInt 1), .int (X13.1 (p0 + 5) (y2).toInt.toNat), .int y2, .ref (p0 + 5)]) aj_d148 rfl (Nat.le_succ _) (fun _ => rfl) ?_
            refine fx_i2 aj_d148 rfl (Nat.le_succ _) (fun _ => rfl) hlv_0 ?_
            refine fx_gI aj_d148 rfl (Nat.le_succ _) rfl rfl (Or.inl rfl) ?_
            refine fx_n (pc' := 50) (lv' := lv) (st' := [.int ((Int32.ofInt 1) <<< ((X13.1 p0 15) &&& 31)), .int (X13.1 (p0 + 5) (y2).toInt.toNat), .int y2, .ref (p0 + 5)]) aj_d148 rfl (Nat.le_succ _) (fun _ => rfl) ?_
            refine fx_n (pc' := 51) (lv' := lv) (st' := [.int ((X13.1 (p0 + 5) (y2).toInt.toNat) ||| ((Int32.ofInt 1) <<< ((X13.1 p0 15) &&& 31))), .int y2, .ref (p0 + 5)]) aj_d148 rfl (Nat.le_succ _) (fun _ => rfl) ?_
            refine fx_st aj_d148 (Or.inl ⟨rfl, rfl⟩) rfl (Nat.le_succ _) (fun g200 g201 => ?_)
            show fx_W _ _ _ _ _ _ (fx_wI X13 (p0 + 5) (y2).toInt.toNat ((X13.1 (p0 + 5) (y2).toInt.toNat) ||| ((Int32.ofInt 1) <<< ((X13.1 p0 15) &&& 31)))) _
            refine fx_qa (c := 0 ≤ (y2).toInt ∧ (y2).toInt < ((1024 : Nat) : Int)) ⟨g200, fx_lnk g201 hA18⟩ ?_
            refine fx_qX (fun X21 eX21 => ?_)
            show fx_W _ _ _ 52 lv [] _ _
            refine fx_incq aj_d148 rfl (Nat.le_succ _) hlv_2 (by decide) (fun x22 ex22 => ?_)
            obtain ⟨lv23, elv23⟩ : ∃ l, l = aj_set1 lv 2 (.int x22) := ⟨_, rfl⟩
            rw [← elv23]
            have hlv23_0 : aj_lv lv23 0 = some (.ref p0) := fx_e1 elv23 hlv_0 (by decide) (Or.inl (by decide))
            have hlv23_1 : aj_lv lv23 1 = some (.ref 95) := fx_e1 elv23 hlv_1 (by decide) (Or.inr rfl)
            have hlv23_2 : aj_lv lv23 2 = some (.int x22) := by rw [elv23]; exact ak_set1_eq _ _ _
            show fx_W _ _ _ 55 lv23 [] _ _
            refine fx_n (pc' := 12) (lv' := lv23) (st' := []) aj_d148 rfl (Nat.le_succ _) (fun _ => rfl) ?_
            exact (ih) lv23 (x22) X21  hlv23_0 hlv23_1 hlv23_2
theorem gx_148_ok {tb : aj_T} (p0 : Nat) {X : fx_X} : fx_K tb 148 [.ref p0, .ref 95] X (fx_Q fx_qN (fun v X' => gx_148 p0 X v X')) := by
  refine fx_m aj_m148_at rfl (fun N => ?_)
  refine fx_mono (Q := fx_Q fx_qN (fun v X' => ∃ n : Nat, gxE_148 p0 (gxF_148 p0 n) X v X')) (fun r X' h => h) ?_
  unfold gxE_148
  show fx_W _ _ _ 0 [(0, .ref p0), (1, .ref 95)] [] _ _
  obtain ⟨lv1, elv1⟩ : ∃ l : aj_V, l = [(0, .ref p0), (1, .ref 95)] := ⟨_, rfl⟩
  rw [← elv1]
  have hlv1_0 : aj_lv lv1 0 = some (.ref p0) := by rw [elv1]; rfl
  have hlv1_1 : aj_lv lv1 1 = some (.ref 95) := by rw [elv1]; rfl
  refine fx_i2 aj_d148 rfl (Nat.le_succ _) (fun _ => rfl) hlv1_0 ?_
  refine fx_gI aj_d148 rfl (Nat.le_succ _) rfl rfl (Or.inl rfl) ?_
  refine fx_n (pc' := 6) (lv' := lv1) (st' := [.int ((Int8.ofInt 20).toInt32), .int (X.1 p0 15)]) aj_d148 rfl (Nat.le_succ _) (fun _ => rfl) ?_
  refine fx_b (tgt := 10) aj_d148 rfl (Nat.le_succ _) rfl (fun q2 => ?_) (fun q2 => ?_)
  · skip
    refine fx_qi (c := ((X.1 p0 15)).toInt < 20) (fx_t_lt q2) ?_
    show fx_W _ _ _ 10 lv1 [] _ _
    refine fx_n (pc' := 11) (lv' := lv1) (st' := [.int (Int32.ofInt 0)]) aj_d148 rfl (Nat.le_succ _) (fun _ => rfl) ?_
    refine fx_s0 (j := 2) aj_d148 rfl (Nat.le_succ _) (by decide) (fun _ => rfl) ?_
    obtain ⟨lv3, elv3⟩ : ∃ l, l = aj_set1 lv1 2 (.int (Int32.ofInt 0)) := ⟨_, rfl⟩
    rw [← elv3]
    have hlv3_0 : aj_lv lv3 0 = some (.ref p0) := fx_e1 elv3 hlv1_0 (by decide) (Or.inl (by decide))
    have hlv3_1 : aj_lv lv3 1 = some (.ref 95) := fx_e1 elv3 hlv1_1 (by decide) (Or.inr rfl)
    have hlv3_2 : aj_lv lv3 2 = some (.int (Int32.ofInt 0)) := by rw [elv3]; exact ak_set1_eq _ _ _
    show fx_W _ _ _ 12 lv3 [] _ _
    exact ((gxL_148 p0 N)) lv3 ((Int32.ofInt 0)) X  hlv3_0 hlv3_1 hlv3_2
  · skip
    refine fx_qe (c := ((X.1 p0 15)).toInt < 20) (fx_f_lt q2) ?_
    show fx_W _ _ _ 9 lv1 [] _ _
    exact fx_rn aj_d148 rfl ⟨(), rfl, 0, rfl⟩
def gx_149_1 (p2 : Nat) (X : fx_X) (v : Unit) (X' : fx_X) : Prop :=
  X' = X
theorem gx_149_1_ok {tb : aj_T} (p2 : Nat) {X : fx_X} : fx_K tb 149 [.ref 95, .null, .ref p2] X (fx_Q fx_qN (fun v X' => gx_149_1 p2 X v X')) := by
  refine fx_m aj_m149_at rfl (fun N => ?_)
  refine fx_mono (Q := fx_Q fx_qN (fun v X' => ∃ n : Nat, gx_149_1 p2 X v X')) (fun r X' ⟨v, e, _, z⟩ => ⟨v, e, z⟩) ?_
  unfold gx_149_1
  show fx_W _ _ _ 0 [(0, .ref 95), (1, .null), (2, .ref p2)] [] _ _
  obtain ⟨lv1, elv1⟩ : ∃ l : aj_V, l = [(0, .ref 95), (1, .null), (2, .ref p2)] := ⟨_, rfl⟩
  rw [← elv1]
  have hlv1_1 : aj_lv lv1 1 = some (.null) := by rw [elv1]; rfl
  have hlv1_2 : aj_lv lv1 2 = some (.ref p2) := by rw [elv1]; rfl
  refine fx_i3 aj_d149 rfl (Nat.le_succ _) (fun _ => rfl) hlv1_1 ?_
  refine fx_n (pc' := 9) (lv' := lv1) (st' := []) aj_d149 rfl (Nat.le_succ _) (fun _ => rfl) ?_
  exact fx_rn aj_d149 rfl ⟨(), rfl, 0, rfl⟩
def gx_100 (p1 : Int32) (X : fx_X) (v : Nat) (X' : fx_X) : Prop :=
  (if (p1).toInt < 0 then (∃ b4 : Nat, X.2.2.1 95 5 = some b4 ∧ v = b4 ∧ X' = X) else ((if (p1).toInt < 20 then ((0 ≤ (p1).toInt ∧ (p1).toInt < ((20 : Nat) : Int)) ∧ ((X.2.2.1 101 (p1).toInt.toNat = none ∧ ∃ b13 : Nat, b13 = X.2.2.2.2 ∧ ∃ X14 : fx_X, X14 = (fx_new X) ∧ (0 ≤ (p1).toInt ∧ (p1).toInt < ((20 : Nat) : Int)) ∧ ∃ X16 : fx_X, X16 = (fx_wR X14 101 (p1).toInt.toNat (some b13)) ∧ (0 ≤ (p1).toInt ∧ (p1).toInt < ((20 : Nat) : Int)) ∧ v = b13 ∧ X' = X16) ∨ (∃ b10 : Nat, X.2.2.1 101 (p1).toInt.toNat = some b10 ∧ (0 ≤ (p1).toInt ∧ (p1).toInt < ((20 : Nat) : Int)) ∧ v = b10 ∧ X' = X))) else (∃ b27 : Nat, X.2.2.1 95 5 = some b27 ∧ v = b27 ∧ X' = X))))
theorem gx_100_ok {tb : aj_T} (p1 : Int32) {X : fx_X} : fx_K tb 100 [.ref 95, .int p1] X (fx_Q fx_qB (fun v X' => gx_100 p1 X v X')) := by
  refine fx_m aj_m100_at rfl (fun N => ?_)
  refine fx_mono (Q := fx_Q fx_qB (fun v X' => ∃ n : Nat, gx_100 p1 X v X')) (fun r X' ⟨v, e, _, z⟩ => ⟨v, e, z⟩) ?_
  unfold gx_100
  show fx_W _ _ _ 0 [(0, .ref 95), (1, .int p1)] [] _ _
  obtain ⟨lv1, elv1⟩ : ∃ l : aj_V, l = [(0, .ref 95), (1, .int p1)] := ⟨_, rfl⟩
  rw [← elv1]
  have hlv1_0 : aj_lv lv1 0 = some (.ref 95) := by rw [elv1]; rfl
  have hlv1_1 : aj_lv lv1 1 = some (.int p1) := by rw [elv1]; rfl
  refine fx_i0 aj_d100 rfl (Nat.le_succ _) (fun _ => rfl) hlv1_1 ?_
  refine fx_b0 (tgt := 13) aj_d100 rfl (Nat.le_succ _) rfl (fun q2 => ?_) (fun q2 => ?_)
  · skip
    refine fx_qi (c := (p1).toInt < 0) (fx_t_lt q2) ?_
    show fx_W _ _ _ 13 lv1 [] _ _
    refine fx_i2 aj_d100 rfl (Nat.le_succ _) (fun _ => rfl) hlv1_0 ?_
    refine fx_gR aj_d100 rfl (Nat.le_succ _) rfl rfl (Or.inl ⟨_, rfl⟩) (fun _ z => absurd (by decide) z) (fun b4 q3 => ?_)
    show fx_W _ _ _ 17 lv1 [.ref b4] _ _
    refine fx_qs q3 ?_
    exact fx_ra aj_d100 rfl ⟨_, rfl, 0, rfl, rfl⟩
  · skip
    refine fx_qe (c := (p1).toInt < 0) (fx_f_lt q2) ?_
    show fx_W _ _ _ 4 lv1 [] _ _
    refine fx_i0 aj_d100 rfl (Nat.le_succ _) (fun _ => rfl) hlv1_1 ?_
    refine fx_i2 aj_d100 rfl (Nat.le_succ _) (fun _ => rfl) hlv1_0 ?_
    refine fx_gF aj_d100 rfl (Nat.le_succ _) rfl rfl fx_in_9_3 (t := 101) rfl (fun hA5 => ?_)
    refine fx_al aj_d100 rfl (Nat.le_succ _) ?_
    rw [(hA5 : X.2.2.2.1 101 = (5, 20))]
    show fx_W _ _ _ 10 lv1 [.int (Int32.ofNat 20), .int p1] _ _
    refine fx_b (tgt := 18) aj_d100 rfl (Nat.le_succ _) rfl (fun q6 => ?_) (fun q6 => ?_)
    · skip
      refine fx_qi (c := (p1).toInt < 20) (fx_t_lt q6) ?_
      show fx_W _ _ _ 18 lv1 [] _ _
      refine fx_i2 aj_d100 rfl (Nat.le_succ _) (fun _ => rfl) hlv1_0 ?_
      refine fx_gF aj_d100 rfl (Nat.le_succ _) rfl rfl fx_in_9_3 (t := 101) rfl (fun hA7 => ?_)
      refine fx_i0 aj_d100 rfl (Nat.le_succ _) (fun _ => rfl) hlv1_1 ?_
      refine fx_ldR aj_d100 rfl (Nat.le_succ _) (fun g80 g81 q9 => ?_) (fun g80 g81 b10 q9 => ?_)
      · skip
        refine fx_qa (c := 0 ≤ (p1).toInt ∧ (p1).toInt < ((20 : Nat) : Int)) ⟨g80, fx_lnk g81 hA7⟩ ?_
        refine fx_o1 (fx_qa (c := X.2.2.1 101 (p1).toInt.toNat = none) q9 ?_)
        show fx_W _ _ _ 24 lv1 [.null] _ _
        refine fx_n (pc' := 27) (lv' := lv1) (st' := []) aj_d100 rfl (Nat.le_succ _) (fun _ => rfl) ?_
        refine fx_i2 aj_d100 rfl (Nat.le_succ _) (fun _ => rfl) hlv1_0 ?_
        refine fx_gF aj_d100 rfl (Nat.le_succ _) rfl rfl fx_in_9_3 (t := 101) rfl (fun hA11 => ?_)
        refine fx_i0 aj_d100 rfl (Nat.le_succ _) (fun _ => rfl) hlv1_1 ?_
        refine fx_nw aj_d100 rfl rfl rfl rfl rfl (Nat.le_succ _) (fun hn12 => ?_)
        refine fx_qy (fun b13 eb13 => ?_)
        refine fx_qX (fun X14 eX14 => ?_)
        show fx_W _ _ _ 39 lv1 [.ref b13, .int p1, .ref 101] _ _
        refine fx_sR aj_d100 rfl (Nat.le_succ _) (fun g150 g151 => ?_)
        refine fx_qa (c := 0 ≤ (p1).toInt ∧ (p1).toInt < ((20 : Nat) : Int)) ⟨g150, fx_lnk g151 (((show fx_le X X14 from by rw [eX14]; exact hn12).2 _ (by rw [hA11]; decide)).trans hA11)⟩ ?_
        refine fx_qX (fun X16 eX16 => ?_)
        show fx_W _ _ _ 40 lv1 [] _ _
        have kn17 : X16.2.2.1 101 (p1).toInt.toNat = some b13 := by rw [eX16]; exact if_pos ⟨rfl, rfl⟩
        refine fx_i2 aj_d100 rfl (Nat.le_succ _) (fun _ => rfl) hlv1_0 ?_
        refine fx_gF aj_d100 rfl (Nat.le_succ _) rfl rfl fx_in_9_3 (t := 101) rfl (fun hA18 => ?_)
        refine fx_i0 aj_d100 rfl (Nat.le_succ _) (fun _ => rfl) hlv1_1 ?_
        refine fx_ldR aj_d100 rfl (Nat.le_succ _) (fun g190 g191 q20 => ?_) (fun g190 g191 b21 q20 => ?_)
        · exact absurd (q20.symm.trans kn17) (by simp)
        · skip
          obtain rfl : b13 = b21 := Option.some.inj (kn17.symm.trans q20)
          refine fx_qa (c := 0 ≤ (p1).toInt ∧ (p1).toInt < ((20 : Nat) : Int)) ⟨g190, fx_lnk g191 hA18⟩ ?_
          show fx_W _ _ _ 46 lv1 [.ref b13] _ _
          exact fx_ra aj_d100 rfl ⟨_, rfl, 0, rfl, rfl⟩
      · skip
        refine fx_qa (c := 0 ≤ (p1).toInt ∧ (p1).toInt < ((20 : Nat) : Int)) ⟨g80, fx_lnk g81 hA7⟩ ?_
        refine fx_o2 (fx_qs q9 ?_)
        show fx_W _ _ _ 24 lv1 [.ref b10] _ _
        refine fx_n (pc' := 40) (lv' := lv1) (st' := []) aj_d100 rfl (Nat.le_succ _) (fun _ => rfl) ?_
        refine fx_i2 aj_d100 rfl (Nat.le_succ _) (fun _ => rfl) hlv1_0 ?_
        refine fx_gF aj_d100 rfl (Nat.le_succ _) rfl rfl fx_in_9_3 (t := 101) rfl (fun hA22 => ?_)
        refine fx_i0 aj_d100 rfl (Nat.le_succ _) (fun _ => rfl) hlv1_1 ?_
        refine fx_ldR aj_d100 rfl (Nat.le_succ _) (fun g230 g231 q24 => ?_) (fun g230 g231 b25 q24 => ?_)
        · exact absurd (q24.symm.trans q9) (by simp)
        · skip
          obtain rfl : b10 = b25 := Option.some.inj (q9.symm.trans q24)
          refine fx_qa (c := 0 ≤ (p1).toInt ∧ (p1).toInt < ((20 : Nat) : Int)) ⟨g230, fx_lnk g231 hA22⟩ ?_
          show fx_W _ _ _ 46 lv1 [.ref b10] _ _
          exact fx_ra aj_d100 rfl ⟨_, rfl, 0, rfl, rfl⟩
    · skip
      refine fx_qe (c := (p1).toInt < 20) (fx_f_lt q6) ?_
      show fx_W _ _ _ 13 lv1 [] _ _
      refine fx_i2 aj_d100 rfl (Nat.le_succ _) (fun _ => rfl) hlv1_0 ?_
      refine fx_gR aj_d100 rfl (Nat.le_succ _) rfl rfl (Or.inl ⟨_, rfl⟩) (fun _ z => absurd (by decide) z) (fun b27 q26 => ?_)
      show fx_W _ _ _ 17 lv1 [.ref b27] _ _
      refine fx_qs q26 ?_
      exact fx_ra aj_d100 rfl ⟨_, rfl, 0, rfl, rfl⟩
def gx_103 (p0 : Nat) (p1 : Int32) (p2 : Int32) (X : fx_X) (v : Int32) (X' : fx_X) : Prop :=
  ∃ x2 : Int32, x2 = ((p1 * ((Int8.ofInt 6).toInt32)) + p2) ∧ (if (p1).toInt < 0 then (v = (Int32.ofInt 0) ∧ X' = X) else ((if (p2).toInt < 0 then (v = (Int32.ofInt 0) ∧ X' = X) else ((if (p2).toInt < 6 then ((if (x2).toInt < 180 then ((0 ≤ (x2).toInt ∧ (x2).toInt < ((180 : Nat) : Int)) ∧ (if ((X.1 (p0 + 2) (x2).toInt.toNat)).toInt = 0 then (v = (Int32.ofInt 0) ∧ X' = X) else (v = (Int32.ofInt 1) ∧ X' = X))) else (v = (Int32.ofInt 0) ∧ X' = X))) else (v = (Int32.ofInt 0) ∧ X' = X))))))
theorem gx_103_ok {tb : aj_T} (p0 : Nat) (p1 : Int32) (p2 : Int32) {X : fx_X} : fx_K tb 103 [.ref p0, .int p1, .int p2] X (fx_Q fx_qI (fun v X' => gx_103 p0 p1 p2 X v X')) := by
  refine fx_m aj_m103_at rfl (fun N => ?_)
  refine fx_mono (Q := fx_Q fx_qI (fun v X' => ∃ n : Nat, gx_103 p0 p1 p2 X v X')) (fun r X' ⟨v, e, _, z⟩ => ⟨v, e, z⟩) ?_
  unfold gx_103
  show fx_W _ _ _ 0 [(0, .ref p0), (1, .int p1), (2, .int p2)] [] _ _
  obtain ⟨lv1, elv1⟩ : ∃ l : aj_V, l = [(0, .ref p0), (1, .int p1), (2, .int p2)] := ⟨_, rfl⟩
  rw [← elv1]
  have hlv1_0 : aj_lv lv1 0 = some (.ref p0) := by rw [elv1]; rfl
  have hlv1_1 : aj_lv lv1 1 = some (.int p1) := by rw [elv1]; rfl
  have hlv1_2 : aj_lv lv1 2 = some (.int p2) := by rw [elv1]; rfl
  refine fx_i0 aj_d103 rfl (Nat.le_succ _) (fun _ => rfl) hlv1_1 ?_
  refine fx_n (pc' := 3) (lv' := lv1) (st' := [.int ((Int8.ofInt 6).toInt32), .int p1]) aj_d103 rfl (Nat.le_succ _) (fun _ => rfl) ?_
  refine fx_n (pc' := 4) (lv' := lv1) (st' := [.int (p1 * ((Int8.ofInt 6).toInt32))]) aj_d103 rfl (Nat.le_succ _) (fun _ => rfl) ?_
  refine fx_i0 aj_d103 rfl (Nat.le_succ _) (fun _ => rfl) hlv1_2 ?_
  refine fx_n (pc' := 6) (lv' := lv1) (st' := [.int ((p1 * ((Int8.ofInt 6).toInt32)) + p2)]) aj_d103 rfl (Nat.le_succ _) (fun _ => rfl) ?_
  refine fx_qxI (fun x2 ex2 => ?_)
  refine fx_s0 (j := 3) aj_d103 rfl (Nat.le_succ _) (by decide) (fun _ => rfl) ?_
  obtain ⟨lv3, elv3⟩ : ∃ l, l = aj_set1 lv1 3 (.int x2) := ⟨_, rfl⟩
  rw [← elv3]
  have hlv3_0 : aj_lv lv3 0 = some (.ref p0) := fx_e1 elv3 hlv1_0 (by decide) (Or.inl (by decide))
  have hlv3_1 : aj_lv lv3 1 = some (.int p1) := fx_e1 elv3 hlv1_1 (by decide) (Or.inl (by decide))
  have hlv3_2 : aj_lv lv3 2 = some (.int p2) := fx_e1 elv3 hlv1_2 (by decide) (Or.inr rfl)
  have hlv3_3 : aj_lv lv3 3 = some (.int x2) := by rw [elv3]; exact ak_set1_eq _ _ _
  show fx_W _ _ _ 7 lv3 [] _ _
  refine fx_i0 aj_d103 rfl (Nat.le_succ _) (fun _ => rfl) hlv3_1 ?_
  refine fx_b0 (tgt := 43) aj_d103 rfl (Nat.le_succ _) rfl (fun q4 => ?_) (fun q4 => ?_)
  · skip
    refine fx_qi (c := (p1).toInt < 0) (fx_t_lt q4) ?_
    show fx_W _ _ _ 43 lv3 [] _ _
    refine fx_n (pc' := 44) (lv' := lv3) (st' := [.int (Int32.ofInt 0)]) aj_d103 rfl (Nat.le_succ _) (fun _ => rfl) ?_
    exact fx_ri aj_d103 rfl ⟨_, rfl, 0, rfl, rfl⟩
  · skip
    refine fx_qe (c := (p1).toInt < 0) (fx_f_lt q4) ?_
    show fx_W _ _ _ 11 lv3 [] _ _
    refine fx_i0 aj_d103 rfl (Nat.le_succ _) (fun _ => rfl) hlv3_2 ?_
    refine fx_b0 (tgt := 43) aj_d103 rfl (Nat.le_succ _) rfl (fun q5 => ?_) (fun q5 => ?_)
    · skip
      refine fx_qi (c := (p2).toInt < 0) (fx_t_lt q5) ?_
      show fx_W _ _ _ 43 lv3 [] _ _
      refine fx_n (pc' := 44) (lv' := lv3) (st' := [.int (Int32.ofInt 0)]) aj_d103 rfl (Nat.le_succ _) (fun _ => rfl) ?_
      exact fx_ri aj_d103 rfl ⟨_, rfl, 0, rfl, rfl⟩
    · skip
      refine fx_qe (c := (p2).toInt < 0) (fx_f_lt q5) ?_
      show fx_W _ _ _ 15 lv3 [] _ _
      refine fx_i0 aj_d103 rfl (Nat.le_succ _) (fun _ => rfl) hlv3_2 ?_
      refine fx_n (pc' := 18) (lv' := lv3) (st' := [.int ((Int8.ofInt 6).toInt32), .int p2]) aj_d103 rfl (Nat.le_succ _) (fun _ => rfl) ?_
      refine fx_b (tgt := 43) aj_d103 rfl (Nat.le_succ _) rfl (fun q6 => ?_) (fun q6 => ?_)
      · skip
        refine fx_qe (c := (p2).toInt < 6) (fx_t_ge q6) ?_
        show fx_W _ _ _ 43 lv3 [] _ _
        refine fx_n (pc' := 44) (lv' := lv3) (st' := [.int (Int32.ofInt 0)]) aj_d103 rfl (Nat.le_succ _) (fun _ => rfl) ?_
        exact fx_ri aj_d103 rfl ⟨_, rfl, 0, rfl, rfl⟩
      · skip
        refine fx_qi (c := (p2).toInt < 6) (fx_f_ge q6) ?_
        show fx_W _ _ _ 21 lv3 [] _ _
        refine fx_i0 aj_d103 rfl (Nat.le_succ _) (fun _ => rfl) hlv3_3 ?_
        refine fx_i2 aj_d103 rfl (Nat.le_succ _) (fun _ => rfl) hlv3_0 ?_
        refine fx_gF aj_d103 rfl (Nat.le_succ _) rfl rfl fx_in_6_1 (t := (p0 + 2)) rfl (fun hA7 => ?_)
        refine fx_al aj_d103 rfl (Nat.le_succ _) ?_
        rw [(hA7 : X.2.2.2.1 (p0 + 2) = (2, 180))]
        show fx_W _ _ _ 27 lv3 [.int (Int32.ofNat 180), .int x2] _ _
        refine fx_b (tgt := 43) aj_d103 rfl (Nat.le_succ _) rfl (fun q8 => ?_) (fun q8 => ?_)
        · skip
          refine fx_qe (c := (x2).toInt < 180) (fx_t_ge q8) ?_
          show fx_W _ _ _ 43 lv3 [] _ _
          refine fx_n (pc' := 44) (lv' := lv3) (st' := [.int (Int32.ofInt 0)]) aj_d103 rfl (Nat.le_succ _) (fun _ => rfl) ?_
          exact fx_ri aj_d103 rfl ⟨_, rfl, 0, rfl, rfl⟩
        · skip
          refine fx_qi (c := (x2).toInt < 180) (fx_f_ge q8) ?_
          show fx_W _ _ _ 30 lv3 [] _ _
          refine fx_i2 aj_d103 rfl (Nat.le_succ _) (fun _ => rfl) hlv3_0 ?_
          refine fx_gF aj_d103 rfl (Nat.le_succ _) rfl rfl fx_in_6_1 (t := (p0 + 2)) rfl (fun hA9 => ?_)
          refine fx_i0 aj_d103 rfl (Nat.le_succ _) (fun _ => rfl) hlv3_3 ?_
          refine fx_ld aj_d103 (Or.inr (Or.inr rfl)) rfl (Nat.le_succ _) (fun g100 g101 => ?_)
          show fx_W _ _ _ 36 lv3 [.int (X.1 (p0 + 2) (x2).toInt.toNat)] _ _
          refine fx_qa (c := 0 ≤ (x2).toInt ∧ (x2).toInt < ((180 : Nat) : Int)) ⟨g100, fx_lnk g101 hA9⟩ ?_
          refine fx_b0 (tgt := 43) aj_d103 rfl (Nat.le_succ _) rfl (fun q11 => ?_) (fun q11 => ?_)
          · skip
            refine fx_qi (c := ((X.1 (p0 + 2) (x2).toInt.toNat)).toInt = 0) (fx_t_eq q11) ?_
            show fx_W _ _ _ 43 lv3 [] _ _
            refine fx_n (pc' := 44) (lv' := lv3) (st' := [.int (Int32.ofInt 0)]) aj_d103 rfl (Nat.le_succ _) (fun _ => rfl) ?_
            exact fx_ri aj_d103 rfl ⟨_, rfl, 0, rfl, rfl⟩
          · skip
            refine fx_qe (c := ((X.1 (p0 + 2) (x2).toInt.toNat)).toInt = 0) (fx_f_eq q11) ?_
            show fx_W _ _ _ 39 lv3 [] _ _
            refine fx_n (pc' := 40) (lv' := lv3) (st' := [.int (Int32.ofInt 1)]) aj_d103 rfl (Nat.le_succ _) (fun _ => rfl) ?_
            refine fx_n (pc' := 44) (lv' := lv3) (st' := [.int (Int32.ofInt 1)]) aj_d103 rfl (Nat.le_succ _) (fun _ => rfl) ?_
            exact fx_ri aj_d103 rfl ⟨_, rfl, 0, rfl, rfl⟩
def gx_104 (p0 : Nat) (p1 : Int32) (p2 : Int32) (X : fx_X) (v : Int32) (X' : fx_X) : Prop :=
  ∃ x2 : Int32, x2 = ((p1 * ((Int8.ofInt 6).toInt32)) + p2) ∧ (if (p1).toInt < 0 then (v = (Int32.ofInt 0) ∧ X' = X) else ((if (p1).toInt < 30 then ((if (p2).toInt < 0 then (v = (Int32.ofInt 0) ∧ X' = X) else ((if (p2).toInt < 6 then ((if (x2).toInt < 180 then ((0 ≤ (x2).toInt ∧ (x2).toInt < ((180 : Nat) : Int)) ∧ v = (X.1 (p0 + 1) (x2).toInt.toNat) ∧ X' = X) else (v = (Int32.ofInt 0) ∧ X' = X))) else (v = (Int32.ofInt 0) ∧ X' = X))))) else (v = (Int32.ofInt 0) ∧ X' = X))))
theorem gx_104_ok {tb : aj_T} (p0 : Nat) (p1 : Int32) (p2 : Int32) {X : fx_X} : fx_K tb 104 [.ref p0, .int p1, .int p2] X (fx_Q fx_qI (fun v X' => gx_104 p0 p1 p2 X v X')) := by
  refine fx_m aj_m104_at rfl (fun N => ?_)
  refine fx_mono (Q := fx_Q fx_qI (fun v X' => ∃ n : Nat, gx_104 p0 p1 p2 X v X')) (fun r X' ⟨v, e, _, z⟩ => ⟨v, e, z⟩) ?_
  unfold gx_104
  show fx_W _ _ _ 0 [(0, .ref p0), (1, .int p1), (2, .int p2)] [] _ _
  obtain ⟨lv1, elv1⟩ : ∃ l : aj_V, l = [(0, .ref p0), (1, .int p1), (2, .int p2)] := ⟨_, rfl⟩
  rw [← elv1]
  have hlv1_0 : aj_lv lv1 0 = some (.ref p0) := by rw [elv1]; rfl
  have hlv1_1 : aj_lv lv1 1 = some (.int p1) := by rw [elv1]; rfl
  have hlv1_2 : aj_lv lv1 2 = some (.int p2) := by rw [elv1]; rfl
  refine fx_i0 aj_d104 rfl (Nat.le_succ _) (fun _ => rfl) hlv1_1 ?_
  refine fx_n (pc' := 3) (lv' := lv1) (st' := [.int ((Int8.ofInt 6).toInt32), .int p1]) aj_d104 rfl (Nat.le_succ _) (fun _ => rfl) ?_
  refine fx_n (pc' := 4) (lv' := lv1) (st' := [.int (p1 * ((Int8.ofInt 6).toInt32))]) aj_d104 rfl (Nat.le_succ _) (fun _ => rfl) ?_
  refine fx_i0 aj_d104 rfl (Nat.le_succ _) (fun _ => rfl) hlv1_2 ?_
  refine fx_n (pc' := 6) (lv' := lv1) (st' := [.int ((p1 * ((Int8.ofInt 6).toInt32)) + p2)]) aj_d104 rfl (Nat.le_succ _) (fun _ => rfl) ?_
  refine fx_qxI (fun x2 ex2 => ?_)
  refine fx_s0 (j := 3) aj_d104 rfl (Nat.le_succ _) (by decide) (fun _ => rfl) ?_
  obtain ⟨lv3, elv3⟩ : ∃ l, l = aj_set1 lv1 3 (.int x2) := ⟨_, rfl⟩
  rw [← elv3]
  have hlv3_0 : aj_lv lv3 0 = some (.ref p0) := fx_e1 elv3 hlv1_0 (by decide) (Or.inl (by decide))
  have hlv3_1 : aj_lv lv3 1 = some (.int p1) := fx_e1 elv3 hlv1_1 (by decide) (Or.inl (by decide))
  have hlv3_2 : aj_lv lv3 2 = some (.int p2) := fx_e1 elv3 hlv1_2 (by decide) (Or.inr rfl)
  have hlv3_3 : aj_lv lv3 3 = some (.int x2) := by rw [elv3]; exact ak_set1_eq _ _ _
  show fx_W _ _ _ 7 lv3 [] _ _
  refine fx_i0 aj_d104 rfl (Nat.le_succ _) (fun _ => rfl) hlv3_1 ?_
  refine fx_b0 (tgt := 45) aj_d104 rfl (Nat.le_succ _) rfl (fun q4 => ?_) (fun q4 => ?_)
  · skip
    refine fx_qi (c := (p1).toInt < 0) (fx_t_lt q4) ?_
    show fx_W _ _ _ 45 lv3 [] _ _
    refine fx_n (pc' := 46) (lv' := lv3) (st' := [.int (Int32.ofInt 0)]) aj_d104 rfl (Nat.le_succ _) (fun _ => rfl) ?_
    exact fx_ri aj_d104 rfl ⟨_, rfl, 0, rfl, rfl⟩
  · skip
    refine fx_qe (c := (p1).toInt < 0) (fx_f_lt q4) ?_
    show fx_W _ _ _ 11 lv3 [] _ _
    refine fx_i0 aj_d104 rfl (Nat.le_succ _) (fun _ => rfl) hlv3_1 ?_
    refine fx_n (pc' := 14) (lv' := lv3) (st' := [.int ((Int8.ofInt 30).toInt32), .int p1]) aj_d104 rfl (Nat.le_succ _) (fun _ => rfl) ?_
    refine fx_b (tgt := 45) aj_d104 rfl (Nat.le_succ _) rfl (fun q5 => ?_) (fun q5 => ?_)
    · skip
      refine fx_qe (c := (p1).toInt < 30) (fx_t_ge q5) ?_
      show fx_W _ _ _ 45 lv3 [] _ _
      refine fx_n (pc' := 46) (lv' := lv3) (st' := [.int (Int32.ofInt 0)]) aj_d104 rfl (Nat.le_succ _) (fun _ => rfl) ?_
      exact fx_ri aj_d104 rfl ⟨_, rfl, 0, rfl, rfl⟩
    · skip
      refine fx_qi (c := (p1).toInt < 30) (fx_f_ge q5) ?_
      show fx_W _ _ _ 17 lv3 [] _ _
      refine fx_i0 aj_d104 rfl (Nat.le_succ _) (fun _ => rfl) hlv3_2 ?_
      refine fx_b0 (tgt := 45) aj_d104 rfl (Nat.le_succ _) rfl (fun q6 => ?_) (fun q6 => ?_)
      · skip
        refine fx_qi (c := (p2).toInt < 0) (fx_t_lt q6) ?_
        show fx_W _ _ _ 45 lv3 [] _ _
        refine fx_n (pc' := 46) (lv' := lv3) (st' := [.int (Int32.ofInt 0)]) aj_d104 rfl (Nat.le_succ _) (fun _ => rfl) ?_
        exact fx_ri aj_d104 rfl ⟨_, rfl, 0, rfl, rfl⟩
      · skip
        refine fx_qe (c := (p2).toInt < 0) (fx_f_lt q6) ?_
        show fx_W _ _ _ 21 lv3 [] _ _
        refine fx_i0 aj_d104 rfl (Nat.le_succ _) (fun _ => rfl) hlv3_2 ?_
        refine fx_n (pc' := 24) (lv' := lv3) (st' := [.int ((Int8.ofInt 6).toInt32), .int p2]) aj_d104 rfl (Nat.le_succ _) (fun _ => rfl) ?_
        refine fx_b (tgt := 45) aj_d104 rfl (Nat.le_succ _) rfl (fun q7 => ?_) (fun q7 => ?_)
        · skip
          refine fx_qe (c := (p2).toInt < 6) (fx_t_ge q7) ?_
          show fx_W _ _ _ 45 lv3 [] _ _
          refine fx_n (pc' := 46) (lv' := lv3) (st' := [.int (Int32.ofInt 0)]) aj_d104 rfl (Nat.le_succ _) (fun _ => rfl) ?_
          exact fx_ri aj_d104 rfl ⟨_, rfl, 0, rfl, rfl⟩
        · skip
          refine fx_qi (c := (p2).toInt < 6) (fx_f_ge q7) ?_
          show fx_W _ _ _ 27 lv3 [] _ _
          refine fx_i0 aj_d104 rfl (Nat.le_succ _) (fun _ => rfl) hlv3_3 ?_
          refine fx_i2 aj_d104 rfl (Nat.le_succ _) (fun _ => rfl) hlv3_0 ?_
          refine fx_gF aj_d104 rfl (Nat.le_succ _) rfl rfl fx_in_6_0 (t := (p0 + 1)) rfl (fun hA8 => ?_)
          refine fx_al aj_d104 rfl (Nat.le_succ _) ?_
          rw [(hA8 : X.2.2.2.1 (p0 + 1) = (0, 180))]
          show fx_W _ _ _ 33 lv3 [.int (Int32.ofNat 180), .int x2] _ _
          refine fx_b (tgt := 45) aj_d104 rfl (Nat.le_succ _) rfl (fun q9 => ?_) (fun q9 => ?_)
          · skip
            refine fx_qe (c := (x2).toInt < 180) (fx_t_ge q9) ?_
            show fx_W _ _ _ 45 lv3 [] _ _
            refine fx_n (pc' := 46) (lv' := lv3) (st' := [.int (Int32.ofInt 0)]) aj_d104 rfl (Nat.le_succ _) (fun _ => rfl) ?_
            exact fx_ri aj_d104 rfl ⟨_, rfl, 0, rfl, rfl⟩
          · skip
            refine fx_qi (c := (x2).toInt < 180) (fx_f_ge q9) ?_
            show fx_W _ _ _ 36 lv3 [] _ _
            refine fx_i2 aj_d104 rfl (Nat.le_succ _) (fun _ => rfl) hlv3_0 ?_
            refine fx_gF aj_d104 rfl (Nat.le_succ _) rfl rfl fx_in_6_0 (t := (p0 + 1)) rfl (fun hA10 => ?_)
            refine fx_i0 aj_d104 rfl (Nat.le_succ _) (fun _ => rfl) hlv3_3 ?_
            refine fx_ld aj_d104 (Or.inl rfl) rfl (Nat.le_succ _) (fun g110 g111 => ?_)
            show fx_W _ _ _ 42 lv3 [.int (X.1 (p0 + 1) (x2).toInt.toNat)] _ _
            refine fx_qa (c := 0 ≤ (x2).toInt ∧ (x2).toInt < ((180 : Nat) : Int)) ⟨g110, fx_lnk g111 hA10⟩ ?_
            refine fx_n (pc' := 46) (lv' := lv3) (st' := [.int (X.1 (p0 + 1) (x2).toInt.toNat)]) aj_d104 rfl (Nat.le_succ _) (fun _ => rfl) ?_
            exact fx_ri aj_d104 rfl ⟨_, rfl, 0, rfl, rfl⟩
def gxT_102_8 (p0 : Nat) (p1 : Nat) (p2 : Int32) (P : Nat → List Int32 → List Int64 → List Nat → fx_X → Int32 → fx_X → Prop) (y3 : Int32) (y4 : Int32) (X : fx_X) (v : Int32) (X' : fx_X) : Prop :=
  (if (y4).toInt < ((X.1 p1 3)).toInt then (∃ (w8 : Int32) (X7 : fx_X), gx_103 p1 p2 y4 X w8 X7 ∧ ∃ (w10 : Int32) (X9 : fx_X), gx_104 p1 p2 y4 X7 w10 X9 ∧ ∃ (w12 : Unit) (X11 : fx_X), gx_105 p0 y3 y4 w8 w10 X9 w12 X11 ∧ ∃ x13 : Int32, x13 = y4 + Int32.ofInt 1 ∧ P 8 [y3, x13] [] [] X11 v X') else (∃ X6 : fx_X, X6 = (fx_wI X p0 4 ((X.1 p0 4) + (Int32.ofInt 1))) ∧ v = y3 ∧ X' = X6))
def gxE_102 (p0 : Nat) (p1 : Nat) (p2 : Int32) (P : Nat → List Int32 → List Int64 → List Nat → fx_X → Int32 → fx_X → Prop) (X : fx_X) (v : Int32) (X' : fx_X) : Prop :=
  ∃ x2 : Int32, x2 = (X.1 p0 4) ∧ P 8 [x2, (Int32.ofInt 0)] [] [] X v X'
noncomputable def gxF_102 (p0 : Nat) (p1 : Nat) (p2 : Int32) (n : Nat) : Nat → List Int32 → List Int64 → List Nat → fx_X → Int32 → fx_X → Prop := Nat.rec (motive := fun _ => Nat → List Int32 → List Int64 → List Nat → fx_X → Int32 → fx_X → Prop) (fun _ _ _ _ _ _ _ => False) (fun _ P l is ls rs X v X' => (l = 8 ∧ ∃ (y3 : Int32) (y4 : Int32), is = [y3, y4] ∧ ls = [] ∧ rs = [] ∧ gxT_102_8 p0 p1 p2 P y3 y4 X v X')) n
theorem gxI_102_8 {p0 : Nat} {p1 : Nat} {p2 : Int32} {n : Nat} {y3 : Int32} {y4 : Int32} {X : fx_X} {v : Int32} {X' : fx_X} (h : gxT_102_8 p0 p1 p2 (gxF_102 p0 p1 p2 n) y3 y4 X v X') : gxF_102 p0 p1 p2 (n + 1) 8 [y3, y4] [] [] X v X' := ⟨rfl, y3, y4, rfl, rfl, rfl, h⟩
theorem gxO_102_8 {p0 : Nat} {p1 : Nat} {p2 : Int32} {n : Nat} {y3 : Int32} {y4 : Int32} {X : fx_X} {v : Int32} {X' : fx_X} (h : gxF_102 p0 p1 p2 (n + 1) 8 [y3, y4] [] [] X v X') : gxT_102_8 p0 p1 p2 (gxF_102 p0 p1 p2 n) y3 y4 X v X' := by
  rcases h with ⟨-, _, _, e1, e2, e3, h⟩
  · cases e1; cases e2; cases e3; exact h
def gx_102 (p0 : Nat) (p1 : Nat) (p2 : Int32) (X : fx_X) (v : Int32) (X' : fx_X) : Prop := ∃ n : Nat, gxE_102 p0 p1 p2 (gxF_102 p0 p1 p2 n) X v X'
theorem gxL_102 {tb : aj_T} (p0 : Nat) (p1 : Nat) (p2 : Int32) : ∀ N : Nat, (∀ (lv : aj_V) (y3 : Int32) (y4 : Int32) (X : fx_X), aj_lv lv 0 = some (.ref p0) → aj_lv lv 1 = some (.ref p1) → aj_lv lv 2 = some (.int p2) → aj_lv lv 3 = some (.int y3) → aj_lv lv 4 = some (.int y4) → fx_W tb aj_m102 N 8 lv [] X (fx_Q fx_qI (fun v X' => ∃ n : Nat, gxF_102 p0 p1 p2 n 8 [y3, y4] [] [] X v X'))) := by
  intro N
  induction N with
  | zero => exact (by intros; exact fx_z)
  | succ N ih =>
    skip
    · intro lv y3 y4 X hlv_0 hlv_1 hlv_2 hlv_3 hlv_4
      refine fx_mono (Q := fx_Q fx_qI (fun v X' => ∃ n : Nat, gxT_102_8 p0 p1 p2 (gxF_102 p0 p1 p2 n) y3 y4 X v X')) (fun r X' ⟨v, e, n, z⟩ => ⟨v, e, n + 1, gxI_102_8 z⟩) ?_
      unfold gxT_102_8
      refine fx_i0 aj_d102 rfl (Nat.le_refl _) (fun _ => rfl) hlv_4 ?_
      refine fx_i2 aj_d102 rfl (Nat.le_succ _) (fun _ => rfl) hlv_1 ?_
      refine fx_gI aj_d102 rfl (Nat.le_succ _) rfl rfl (Or.inl rfl) ?_
      refine fx_b (tgt := 44) aj_d102 rfl (Nat.le_succ _) rfl (fun q5 => ?_) (fun q5 => ?_)
      · skip
        refine fx_qe (c := (y4).toInt < ((X.1 p1 3)).toInt) (fx_t_ge q5) ?_
        show fx_W _ _ _ 44 lv [] _ _
        refine fx_i2 aj_d102 rfl (Nat.le_succ _) (fun _ => rfl) hlv_0 ?_
        refine fx_n (pc' := 46) (lv' := lv) (st' := [.ref p0, .ref p0]) aj_d102 rfl (Nat.le_succ _) (fun _ => rfl) ?_
        refine fx_gI aj_d102 rfl (Nat.le_succ _) rfl rfl (Or.inl rfl) ?_
        refine fx_n (pc' := 50) (lv' := lv) (st' := [.int (Int32.ofInt 1), .int (X.1 p0 4), .ref p0]) aj_d102 rfl (Nat.le_succ _) (fun _ => rfl) ?_
        refine fx_n (pc' := 51) (lv' := lv) (st' := [.int ((X.1 p0 4) + (Int32.ofInt 1)), .ref p0]) aj_d102 rfl (Nat.le_succ _) (fun _ => rfl) ?_
        refine fx_pI aj_d102 rfl (Nat.le_succ _) rfl rfl (Or.inl rfl) fx_no_6_4 (by decide) ?_
        refine fx_qX (fun X6 eX6 => ?_)
        show fx_W _ _ _ 54 lv [] _ _
        refine fx_i0 aj_d102 rfl (Nat.le_succ _) (fun _ => rfl) hlv_3 ?_
        exact fx_ri aj_d102 rfl ⟨_, rfl, 0, rfl, rfl⟩
      · skip
        refine fx_qi (c := (y4).toInt < ((X.1 p1 3)).toInt) (fx_f_ge q5) ?_
        show fx_W _ _ _ 17 lv [] _ _
        refine fx_i2 aj_d102 rfl (Nat.le_succ _) (fun _ => rfl) hlv_0 ?_
        refine fx_i0 aj_d102 rfl (Nat.le_succ _) (fun _ => rfl) hlv_3 ?_
        refine fx_i0 aj_d102 rfl (Nat.le_succ _) (fun _ => rfl) hlv_4 ?_
        refine fx_i2 aj_d102 rfl (Nat.le_succ _) (fun _ => rfl) hlv_1 ?_
        refine fx_i0 aj_d102 rfl (Nat.le_succ _) (fun _ => rfl) hlv_2 ?_
        refine fx_i0 aj_d102 rfl (Nat.le_succ _) (fun _ => rfl) hlv_4 ?_
        refine fx_cv aj_d102 rfl (Nat.le_succ _) rfl [_, _] rfl rfl (gx_103_ok p1 p2 y4) ?_
        rintro _ X7 ⟨w8, rfl, hR7⟩ hok7 hle7
        refine fx_qc hR7 ?_
        show fx_W _ _ _ 28 lv [.int w8, .int y4, .int y3, .ref p0] _ _
        refine fx_i2 aj_d102 rfl (Nat.le_succ _) (fun _ => rfl) hlv_1 ?_
        refine fx_i0 aj_d102 rfl (Nat.le_succ _) (fun _ => rfl) hlv_2 ?_
        refine fx_i0 aj_d102 rfl (Nat.le_succ _) (fun _ => rfl) hlv_4 ?_
        refine fx_cv aj_d102 rfl (Nat.le_succ _) rfl [_, _] rfl rfl (gx_104_ok p1 p2 y4) ?_
        rintro _ X9 ⟨w10, rfl, hR9⟩ hok9 hle9
        refine fx_qc hR9 ?_
        show fx_W _ _ _ 35 lv [.int w10, .int w8, .int y4, .int y3, .ref p0] _ _
        refine fx_cv aj_d102 rfl (Nat.le_succ _) rfl [_, _, _, _] rfl rfl (gx_105_ok p0 y3 y4 w8 w10) ?_
        rintro _ X11 ⟨w12, rfl, hR11⟩ hok11 hle11
        refine fx_qc hR11 ?_
        show fx_W _ _ _ 38 lv [] _ _
        refine fx_incq aj_d102 rfl (Nat.le_succ _) hlv_4 (by decide) (fun x13 ex13 => ?_)
        obtain ⟨lv14, elv14⟩ : ∃ l, l = aj_set1 lv 4 (.int x13) := ⟨_, rfl⟩
        rw [← elv14]
        have hlv14_0 : aj_lv lv14 0 = some (.ref p0) := fx_e1 elv14 hlv_0 (by decide) (Or.inl (by decide))
        have hlv14_1 : aj_lv lv14 1 = some (.ref p1) := fx_e1 elv14 hlv_1 (by decide) (Or.inl (by decide))
        have hlv14_2 : aj_lv lv14 2 = some (.int p2) := fx_e1 elv14 hlv_2 (by decide) (Or.inl (by decide))
        have hlv14_3 : aj_lv lv14 3 = some (.int y3) := fx_e1 elv14 hlv_3 (by decide) (Or.inr rfl)
        have hlv14_4 : aj_lv lv14 4 = some (.int x13) := by rw [elv14]; exact ak_set1_eq _ _ _
        show fx_W _ _ _ 41 lv14 [] _ _
        refine fx_n (pc' := 8) (lv' := lv14) (st' := []) aj_d102 rfl (Nat.le_succ _) (fun _ => rfl) ?_
        exact (ih) lv14 (y3) (x13) X11  hlv14_0 hlv14_1 hlv14_2 hlv14_3 hlv14_4
theorem gx_102_ok {tb : aj_T} (p0 : Nat) (p1 : Nat) (p2 : Int32) {X : fx_X} : fx_K tb 102 [.ref p0, .ref p1, .int p2] X (fx_Q fx_qI (fun v X' => gx_102 p0 p1 p2 X v X')) := by
  refine fx_m aj_m102_at rfl (fun N => ?_)
  refine fx_mono (Q := fx_Q fx_qI (fun v X' => ∃ n : Nat, gxE_102 p0 p1 p2 (gxF_102 p0 p1 p2 n) X v X')) (fun r X' h => h) ?_
  unfold gxE_102
  show fx_W _ _ _ 0 [(0, .ref p0), (1, .ref p1), (2, .int p2)] [] _ _
  obtain ⟨lv1, elv1⟩ : ∃ l : aj_V, l = [(0, .ref p0), (1, .ref p1), (2, .int p2)] := ⟨_, rfl⟩
  rw [← elv1]
  have hlv1_0 : aj_lv lv1 0 = some (.ref p0) := by rw [elv1]; rfl
  have hlv1_1 : aj_lv lv1 1 = some (.ref p1) := by rw [elv1]; rfl
  have hlv1_2 : aj_lv lv1 2 = some (.int p2) := by rw [elv1]; rfl
  refine fx_i2 aj_d102 rfl (Nat.le_succ _) (fun _ => rfl) hlv1_0 ?_
  refine fx_gI aj_d102 rfl (Nat.le_succ _) rfl rfl (Or.inl rfl) ?_
  refine fx_qxI (fun x2 ex2 => ?_)
  refine fx_s0 (j := 3) aj_d102 rfl (Nat.le_succ _) (by decide) (fun _ => rfl) ?_
  obtain ⟨lv3, elv3⟩ : ∃ l, l = aj_set1 lv1 3 (.int x2) := ⟨_, rfl⟩
  rw [← elv3]
  have hlv3_0 : aj_lv lv3 0 = some (.ref p0) := fx_e1 elv3 hlv1_0 (by decide) (Or.inl (by decide))
  have hlv3_1 : aj_lv lv3 1 = some (.ref p1) := fx_e1 elv3 hlv1_1 (by decide) (Or.inl (by decide))
  have hlv3_2 : aj_lv lv3 2 = some (.int p2) := fx_e1 elv3 hlv1_2 (by decide) (Or.inr rfl)
  have hlv3_3 : aj_lv lv3 3 = some (.int x2) := by rw [elv3]; exact ak_set1_eq _ _ _
  show fx_W _ _ _ 5 lv3 [] _ _
  refine fx_n (pc' := 6) (lv' := lv3) (st' := [.int (Int32.ofInt 0)]) aj_d102 rfl (Nat.le_succ _) (fun _ => rfl) ?_
  refine fx_s0 (j := 4) aj_d102 rfl (Nat.le_succ _) (by decide) (fun _ => rfl) ?_
  obtain ⟨lv4, elv4⟩ : ∃ l, l = aj_set1 lv3 4 (.int (Int32.ofInt 0)) := ⟨_, rfl⟩
  rw [← elv4]
  have hlv4_0 : aj_lv lv4 0 = some (.ref p0) := fx_e1 elv4 hlv3_0 (by decide) (Or.inl (by decide))
  have hlv4_1 : aj_lv lv4 1 = some (.ref p1) := fx_e1 elv4 hlv3_1 (by decide) (Or.inl (by decide))
  have hlv4_2 : aj_lv lv4 2 = some (.int p2) := fx_e1 elv4 hlv3_2 (by decide) (Or.inl (by decide))
  have hlv4_3 : aj_lv lv4 3 = some (.int x2) := fx_e1 elv4 hlv3_3 (by decide) (Or.inr rfl)
  have hlv4_4 : aj_lv lv4 4 = some (.int (Int32.ofInt 0)) := by rw [elv4]; exact ak_set1_eq _ _ _
  show fx_W _ _ _ 8 lv4 [] _ _
  exact ((gxL_102 p0 p1 p2 N)) lv4 (x2) ((Int32.ofInt 0)) X  hlv4_0 hlv4_1 hlv4_2 hlv4_3 hlv4_4
def gxT_101_15 (p0 : Nat) (p1 : Nat) (P : Nat → List Int32 → List Int64 → List Nat → fx_X → Unit → fx_X → Prop) (y2 : Int32) (X : fx_X) (v : Unit) (X' : fx_X) : Prop :=
  (if (y2).toInt < ((X.1 p1 4)).toInt then (∃ (w11 : Int32) (X10 : fx_X), gx_102 p0 p1 y2 X w11 X10 ∧ ∃ x12 : Int32, x12 = y2 + Int32.ofInt 1 ∧ P 15 [x12] [] [] X10 v X') else (∃ X9 : fx_X, X9 = (fx_cp X (p1 + 3) (Int32.ofInt 0).toInt.toNat (p0 + 3) (Int32.ofInt 0).toInt.toNat (Int32.ofNat 1024).toInt.toNat) ∧ X' = X9))
def gxE_101 (p0 : Nat) (p1 : Nat) (P : Nat → List Int32 → List Int64 → List Nat → fx_X → Unit → fx_X → Prop) (X : fx_X) (v : Unit) (X' : fx_X) : Prop :=
  ∃ X2 : fx_X, X2 = (fx_wI X p0 3 (X.1 p1 3)) ∧ ∃ X3 : fx_X, X3 = (fx_wI X2 p0 4 (Int32.ofInt 0)) ∧ P 15 [(Int32.ofInt 0)] [] [] X3 v X'
noncomputable def gxF_101 (p0 : Nat) (p1 : Nat) (n : Nat) : Nat → List Int32 → List Int64 → List Nat → fx_X → Unit → fx_X → Prop := Nat.rec (motive := fun _ => Nat → List Int32 → List Int64 → List Nat → fx_X → Unit → fx_X → Prop) (fun _ _ _ _ _ _ _ => False) (fun _ P l is ls rs X v X' => (l = 15 ∧ ∃ (y2 : Int32), is = [y2] ∧ ls = [] ∧ rs = [] ∧ gxT_101_15 p0 p1 P y2 X v X')) n
theorem gxI_101_15 {p0 : Nat} {p1 : Nat} {n : Nat} {y2 : Int32} {X : fx_X} {v : Unit} {X' : fx_X} (h : gxT_101_15 p0 p1 (gxF_101 p0 p1 n) y2 X v X') : gxF_101 p0 p1 (n + 1) 15 [y2] [] [] X v X' := ⟨rfl, y2, rfl, rfl, rfl, h⟩
theorem gxO_101_15 {p0 : Nat} {p1 : Nat} {n : Nat} {y2 : Int32} {X : fx_X} {v : Unit} {X' : fx_X} (h : gxF_101 p0 p1 (n + 1) 15 [y2] [] [] X v X') : gxT_101_15 p0 p1 (gxF_101 p0 p1 n) y2 X v X' := by
  rcases h with ⟨-, _, e1, e2, e3, h⟩
  · cases e1; cases e2; cases e3; exact h
def gx_101 (p0 : Nat) (p1 : Nat) (X : fx_X) (v : Unit) (X' : fx_X) : Prop := ∃ n : Nat, gxE_101 p0 p1 (gxF_101 p0 p1 n) X v X'
theorem gxL_101 {tb : aj_T} (p0 : Nat) (p1 : Nat) : ∀ N : Nat, (∀ (lv : aj_V) (y2 : Int32) (X : fx_X), aj_lv lv 0 = some (.ref p0) → aj_lv lv 1 = some (.ref p1) → aj_lv lv 2 = some (.int y2) → fx_W tb aj_m101 N 15 lv [] X (fx_Q fx_qN (fun v X' => ∃ n : Nat, gxF_101 p0 p1 n 15 [y2] [] [] X v X'))) := by
  intro N
  induction N with
  | zero => exact (by intros; exact fx_z)
  | succ N ih =>
    skip
    · intro lv y2 X hlv_0 hlv_1 hlv_2
      refine fx_mono (Q := fx_Q fx_qN (fun v X' => ∃ n : Nat, gxT_101_15 p0 p1 (gxF_101 p0 p1 n) y2 X v X')) (fun r X' ⟨v, e, n, z⟩ => ⟨v, e, n + 1, gxI_101_15 z⟩) ?_
      unfold gxT_101_15
      refine fx_i0 aj_d101 rfl (Nat.le_refl _) (fun _ => rfl) hlv_2 ?_
      refine fx_i2 aj_d101 rfl (Nat.le_succ _) (fun _ => rfl) hlv_1 ?_
      refine fx_gI aj_d101 rfl (Nat.le_succ _) rfl rfl (Or.inl rfl) ?_
      refine fx_b (tgt := 36) aj_d101 rfl (Nat.le_succ _) rfl (fun q5 => ?_) (fun q5 => ?_)
      · skip
        refine fx_qe (c := (y2).toInt < ((X.1 p1 4)).toInt) (fx_t_ge q5) ?_
        show fx_W _ _ _ 36 lv [] _ _
        refine fx_i2 aj_d101 rfl (Nat.le_succ _) (fun _ => rfl) hlv_1 ?_
        refine fx_gF aj_d101 rfl (Nat.le_succ _) rfl rfl fx_in_6_2 (t := (p1 + 3)) rfl (fun hA6 => ?_)
        refine fx_n (pc' := 41) (lv' := lv) (st' := [.int (Int32.ofInt 0), .ref (p1 + 3)]) aj_d101 rfl (Nat.le_succ _) (fun _ => rfl) ?_
        refine fx_i2 aj_d101 rfl (Nat.le_succ _) (fun _ => rfl) hlv_0 ?_
        refine fx_gF aj_d101 rfl (Nat.le_succ _) rfl rfl fx_in_6_2 (t := (p0 + 3)) rfl (fun hA7 => ?_)
        refine fx_n (pc' := 46) (lv' := lv) (st' := [.int (Int32.ofInt 0), .ref (p0 + 3), .int (Int32.ofInt 0), .ref (p1 + 3)]) aj_d101 rfl (Nat.le_succ _) (fun _ => rfl) ?_
        refine fx_i2 aj_d101 rfl (Nat.le_succ _) (fun _ => rfl) hlv_0 ?_
        refine fx_gF aj_d101 rfl (Nat.le_succ _) rfl rfl fx_in_6_2 (t := (p0 + 3)) rfl (fun hA8 => ?_)
        refine fx_al aj_d101 rfl (Nat.le_succ _) ?_
        rw [(hA8 : X.2.2.2.1 (p0 + 3) = (0, 1024))]
        show fx_W _ _ _ 51 lv [.int (Int32.ofNat 1024), .int (Int32.ofInt 0), .ref (p0 + 3), .int (Int32.ofInt 0), .ref (p1 + 3)] _ _
        refine fx_ac aj_d101 rfl (Nat.le_succ _) rfl (fun _ => ?_)
        refine fx_qX (fun X9 eX9 => ?_)
        show fx_W _ _ _ 54 lv [] _ _
        exact fx_rn aj_d101 rfl ⟨(), rfl, 0, rfl⟩
      · skip
        refine fx_qi (c := (y2).toInt < ((X.1 p1 4)).toInt) (fx_f_ge q5) ?_
        show fx_W _ _ _ 23 lv [] _ _
        refine fx_i2 aj_d101 rfl (Nat.le_succ _) (fun _ => rfl) hlv_0 ?_
        refine fx_i2 aj_d101 rfl (Nat.le_succ _) (fun _ => rfl) hlv_1 ?_
        refine fx_i0 aj_d101 rfl (Nat.le_succ _) (fun _ => rfl) hlv_2 ?_
        refine fx_cv aj_d101 rfl (Nat.le_succ _) rfl [_, _] rfl rfl (gx_102_ok p0 p1 y2) ?_
        rintro _ X10 ⟨w11, rfl, hR10⟩ hok10 hle10
        refine fx_qc hR10 ?_
        show fx_W _ _ _ 29 lv [.int w11] _ _
        refine fx_n (pc' := 30) (lv' := lv) (st' := []) aj_d101 rfl (Nat.le_succ _) (fun _ => rfl) ?_
        refine fx_incq aj_d101 rfl (Nat.le_succ _) hlv_2 (by decide) (fun x12 ex12 => ?_)
        obtain ⟨lv13, elv13⟩ : ∃ l, l = aj_set1 lv 2 (.int x12) := ⟨_, rfl⟩
        rw [← elv13]
        have hlv13_0 : aj_lv lv13 0 = some (.ref p0) := fx_e1 elv13 hlv_0 (by decide) (Or.inl (by decide))
        have hlv13_1 : aj_lv lv13 1 = some (.ref p1) := fx_e1 elv13 hlv_1 (by decide) (Or.inr rfl)
        have hlv13_2 : aj_lv lv13 2 = some (.int x12) := by rw [elv13]; exact ak_set1_eq _ _ _
        show fx_W _ _ _ 33 lv13 [] _ _
        refine fx_n (pc' := 15) (lv' := lv13) (st' := []) aj_d101 rfl (Nat.le_succ _) (fun _ => rfl) ?_
        exact (ih) lv13 (x12) X10  hlv13_0 hlv13_1 hlv13_2
theorem gx_101_ok {tb : aj_T} (p0 : Nat) (p1 : Nat) {X : fx_X} : fx_K tb 101 [.ref p0, .ref p1] X (fx_Q fx_qN (fun v X' => gx_101 p0 p1 X v X')) := by
  refine fx_m aj_m101_at rfl (fun N => ?_)
  refine fx_mono (Q := fx_Q fx_qN (fun v X' => ∃ n : Nat, gxE_101 p0 p1 (gxF_101 p0 p1 n) X v X')) (fun r X' h => h) ?_
  unfold gxE_101
  show fx_W _ _ _ 0 [(0, .ref p0), (1, .ref p1)] [] _ _
  obtain ⟨lv1, elv1⟩ : ∃ l : aj_V, l = [(0, .ref p0), (1, .ref p1)] := ⟨_, rfl⟩
  rw [← elv1]
  have hlv1_0 : aj_lv lv1 0 = some (.ref p0) := by rw [elv1]; rfl
  have hlv1_1 : aj_lv lv1 1 = some (.ref p1) := by rw [elv1]; rfl
  refine fx_i2 aj_d101 rfl (Nat.le_succ _) (fun _ => rfl) hlv1_0 ?_
  refine fx_i2 aj_d101 rfl (Nat.le_succ _) (fun _ => rfl) hlv1_1 ?_
  refine fx_gI aj_d101 rfl (Nat.le_succ _) rfl rfl (Or.inl rfl) ?_
  refine fx_pI aj_d101 rfl (Nat.le_succ _) rfl rfl (Or.inl rfl) fx_no_6_3 (by decide) ?_
  refine fx_qX (fun X2 eX2 => ?_)
  show fx_W _ _ _ 8 lv1 [] _ _
  refine fx_i2 aj_d101 rfl (Nat.le_succ _) (fun _ => rfl) hlv1_0 ?_
  refine fx_n (pc' := 10) (lv' := lv1) (st' := [.int (Int32.ofInt 0), .ref p0]) aj_d101 rfl (Nat.le_succ _) (fun _ => rfl) ?_
  refine fx_pI aj_d101 rfl (Nat.le_succ _) rfl rfl (Or.inl rfl) fx_no_6_4 (by decide) ?_
  refine fx_qX (fun X3 eX3 => ?_)
  show fx_W _ _ _ 13 lv1 [] _ _
  refine fx_n (pc' := 14) (lv' := lv1) (st' := [.int (Int32.ofInt 0)]) aj_d101 rfl (Nat.le_succ _) (fun _ => rfl) ?_
  refine fx_s0 (j := 2) aj_d101 rfl (Nat.le_succ _) (by decide) (fun _ => rfl) ?_
  obtain ⟨lv4, elv4⟩ : ∃ l, l = aj_set1 lv1 2 (.int (Int32.ofInt 0)) := ⟨_, rfl⟩
  rw [← elv4]
  have hlv4_0 : aj_lv lv4 0 = some (.ref p0) := fx_e1 elv4 hlv1_0 (by decide) (Or.inl (by decide))
  have hlv4_1 : aj_lv lv4 1 = some (.ref p1) := fx_e1 elv4 hlv1_1 (by decide) (Or.inr rfl)
  have hlv4_2 : aj_lv lv4 2 = some (.int (Int32.ofInt 0)) := by rw [elv4]; exact ak_set1_eq _ _ _
  show fx_W _ _ _ 15 lv4 [] _ _
  exact ((gxL_101 p0 p1 N)) lv4 ((Int32.ofInt 0)) X3  hlv4_0 hlv4_1 hlv4_2
def gx_149_2 (p1 : Nat) (p2 : Nat) (X : fx_X) (v : Unit) (X' : fx_X) : Prop :=
  ∃ (w3 : Unit) (X2 : fx_X), gx_101 p1 p2 X w3 X2 ∧ X' = X2
theorem gx_149_2_ok {tb : aj_T} (p1 : Nat) (p2 : Nat) {X : fx_X} : fx_K tb 149 [.ref 95, .ref p1, .ref p2] X (fx_Q fx_qN (fun v X' => gx_149_2 p1 p2 X v X')) := by
  refine fx_m aj_m149_at rfl (fun N => ?_)
  refine fx_mono (Q := fx_Q fx_qN (fun v X' => ∃ n : Nat, gx_149_2 p1 p2 X v X')) (fun r X' ⟨v, e, _, z⟩ => ⟨v, e, z⟩) ?_
  unfold gx_149_2
  show fx_W _ _ _ 0 [(0, .ref 95), (1, .ref p1), (2, .ref p2)] [] _ _
  obtain ⟨lv1, elv1⟩ : ∃ l : aj_V, l = [(0, .ref 95), (1, .ref p1), (2, .ref p2)] := ⟨_, rfl⟩
  rw [← elv1]
  have hlv1_1 : aj_lv lv1 1 = some (.ref p1) := by rw [elv1]; rfl
  have hlv1_2 : aj_lv lv1 2 = some (.ref p2) := by rw [elv1]; rfl
  refine fx_i2 aj_d149 rfl (Nat.le_succ _) (fun _ => rfl) hlv1_1 ?_
  refine fx_n (pc' := 4) (lv' := lv1) (st' := []) aj_d149 rfl (Nat.le_succ _) (fun _ => rfl) ?_
  refine fx_i2 aj_d149 rfl (Nat.le_succ _) (fun _ => rfl) hlv1_1 ?_
  refine fx_i2 aj_d149 rfl (Nat.le_succ _) (fun _ => rfl) hlv1_2 ?_
  refine fx_cv aj_d149 rfl (Nat.le_succ _) rfl [_] rfl rfl (gx_101_ok p1 p2) ?_
  rintro _ X2 ⟨w3, rfl, hR2⟩ hok2 hle2
  refine fx_qc hR2 ?_
  show fx_W _ _ _ 9 lv1 [] _ _
  exact fx_rn aj_d149 rfl ⟨(), rfl, 0, rfl⟩
def gx_143 (p1 : Int32) (p2 : Int32) (X : fx_X) (v : Unit) (X' : fx_X) : Prop :=
  (if (p1).toInt = 186 then (∃ (w6 : Int32) (X5 : fx_X), gx_40 p2 X w6 X5 ∧ ∃ X7 : fx_X, X7 = (fx_wI X5 95 13 w6) ∧ ∃ X8 : fx_X, X8 = (fx_wI X7 95 14 (Int32.ofInt 0)) ∧ ∃ b10 : Nat, X8.2.2.1 95 7 = some b10 ∧ ∃ (w12 : (Option Nat)) (X11 : fx_X), gx_63 b10 (X8.1 95 13) X8 w12 X11 ∧ ((w12 = none ∧ ∃ (w14 : Unit) (X13 : fx_X), gx_144_1 X11 w14 X13 ∧ X' = X13) ∨ (∃ w12b : Nat, w12 = some w12b ∧ ∃ (w16 : Unit) (X15 : fx_X), gx_144_2 w12b X11 w16 X15 ∧ X' = X15))) else ((if (p1).toInt = 187 then (∃ b19 : Nat, X.2.2.1 95 7 = some b19 ∧ ∃ (w21 : (Option Nat)) (X20 : fx_X), gx_63 b19 (X.1 95 13) X w21 X20 ∧ ((w21 = none ∧ ∃ (w23 : Unit) (X22 : fx_X), gx_145_1 X20 w23 X22 ∧ X' = X22) ∨ (∃ w21b : Nat, w21 = some w21b ∧ ∃ (w25 : Unit) (X24 : fx_X), gx_145_2 w21b X20 w25 X24 ∧ X' = X24))) else ((if (p1).toInt = 188 then (∃ b28 : Nat, X.2.2.1 95 7 = some b28 ∧ ∃ (w30 : (Option Nat)) (X29 : fx_X), gx_63 b28 (X.1 95 13) X w30 X29 ∧ ((w30 = none ∧ ∃ (w32 : Unit) (X31 : fx_X), gx_146_1 X29 w32 X31 ∧ X' = X31) ∨ (∃ w30b : Nat, w30 = some w30b ∧ ∃ (w34 : Unit) (X33 : fx_X), gx_146_2 w30b X29 w34 X33 ∧ X' = X33))) else ((if (p1).toInt = 190 then (∃ b37 : Nat, X.2.2.1 95 7 = some b37 ∧ ∃ (w39 : Unit) (X38 : fx_X), gx_148 b37 X w39 X38 ∧ ∃ b41 : Nat, X38.2.2.1 95 7 = some b41 ∧ (if ((X38.1 b41 14)).toInt = 0 then (∃ (w47 : Int32) (X46 : fx_X), gx_72 p2 X38 w47 X46 ∧ ∃ (w49 : Int32) (X48 : fx_X), gx_43 w47 X46 w49 X48 ∧ ∃ (w51 : Unit) (X50 : fx_X), gx_44 ((Int8.ofInt 7).toInt32) w49 X48 w51 X50 ∧ X' = X50) else (X' = X38))) else ((if (p1).toInt = 192 then (∃ X53 : fx_X, X53 = (fx_wI X 95 4 ((X.1 95 4) - (Int32.ofInt 1))) ∧ ∃ b55 : Nat, X53.2.2.1 95 7 = some b55 ∧ ∃ (w61 : Int32) (X60 : fx_X), gx_40 p2 X53 w61 X60 ∧ ∃ (w63 : (Option Nat)) (X62 : fx_X), gx_63 b55 w61 X60 w63 X62 ∧ ((w63 = none ∧ ∃ (w65 : Nat) (X64 : fx_X), gx_100 (X62.1 95 4) X62 w65 X64 ∧ ∃ (w67 : Unit) (X66 : fx_X), gx_149_1 w65 X64 w67 X66 ∧ X' = X66) ∨ (∃ w63b : Nat, w63 = some w63b ∧ ∃ (w69 : Nat) (X68 : fx_X), gx_100 (X62.1 95 4) X62 w69 X68 ∧ ∃ (w71 : Unit) (X70 : fx_X), gx_149_2 w63b w69 X68 w71 X70 ∧ X' = X70))) else (X' = X))))))))))
theorem gx_143_ok {tb : aj_T} (p1 : Int32) (p2 : Int32) {X : fx_X} : fx_K tb 143 [.ref 95, .int p1, .int p2] X (fx_Q fx_qN (fun v X' => gx_143 p1 p2 X v X')) := by
  refine fx_m aj_m143_at rfl (fun N => ?_)
  refine fx_mono (Q := fx_Q fx_qN (fun v X' => ∃ n : Nat, gx_143 p1 p2 X v X')) (fun r X' ⟨v, e, _, z⟩ => ⟨v, e, z⟩) ?_
  unfold gx_143
  show fx_W _ _ _ 0 [(0, .ref 95), (1, .int p1), (2, .int p2)] [] _ _
  obtain ⟨lv1, elv1⟩ : ∃ l : aj_V, l = [(0, .ref 95), (1, .int p1), (2, .int p2)] := ⟨_, rfl⟩
  rw [← elv1]
  have hlv1_0 : aj_lv lv1 0 = some (.ref 95) := by rw [elv1]; rfl
  have hlv1_1 : aj_lv lv1 1 = some (.int p1) := by rw [elv1]; rfl
  have hlv1_2 : aj_lv lv1 2 = some (.int p2) := by rw [elv1]; rfl
  refine fx_i0 aj_d143 rfl (Nat.le_succ _) (fun _ => rfl) hlv1_1 ?_
  by_cases q3 : (p1).toInt = 186
  · skip
    refine fx_qi (c := (p1).toInt = 186) q3 ?_
    refine fx_ts (tgt := 44) aj_d143 rfl (Nat.le_succ _) q3 (by decide) rfl rfl ?_
    show fx_W _ _ _ 44 lv1 [] _ _
    refine fx_i2 aj_d143 rfl (Nat.le_succ _) (fun _ => rfl) hlv1_0 ?_
    refine fx_i2 aj_d143 rfl (Nat.le_succ _) (fun _ => rfl) hlv1_0 ?_
    refine fx_gF aj_d143 rfl (Nat.le_succ _) rfl rfl fx_in_9_1 (t := 82) rfl (fun hA4 => ?_)
    refine fx_i0 aj_d143 rfl (Nat.le_succ _) (fun _ => rfl) hlv1_2 ?_
    refine fx_cv aj_d143 rfl (Nat.le_succ _) rfl [_] rfl rfl (gx_40_ok p2) ?_
    rintro _ X5 ⟨w6, rfl, hR5⟩ hok5 hle5
    refine fx_qc hR5 ?_
    show fx_W _ _ _ 53 lv1 [.int w6, .ref 95] _ _
    refine fx_pI aj_d143 rfl (Nat.le_succ _) rfl rfl (Or.inl rfl) fx_no_9_13 (by decide) ?_
    refine fx_qX (fun X7 eX7 => ?_)
    show fx_W _ _ _ 56 lv1 [] _ _
    refine fx_i2 aj_d143 rfl (Nat.le_succ _) (fun _ => rfl) hlv1_0 ?_
    refine fx_n (pc' := 58) (lv' := lv1) (st' := [.int (Int32.ofInt 0), .ref 95]) aj_d143 rfl (Nat.le_succ _) (fun _ => rfl) ?_
    refine fx_pI aj_d143 rfl (Nat.le_succ _) rfl rfl (Or.inl rfl) fx_no_9_14 (by decide) ?_
    refine fx_qX (fun X8 eX8 => ?_)
    show fx_W _ _ _ 61 lv1 [] _ _
    refine fx_i2 aj_d143 rfl (Nat.le_succ _) (fun _ => rfl) hlv1_0 ?_
    refine fx_i2 aj_d143 rfl (Nat.le_succ _) (fun _ => rfl) hlv1_0 ?_
    refine fx_gR aj_d143 rfl (Nat.le_succ _) rfl rfl (Or.inl ⟨_, rfl⟩) (fun q9 _ => ?_) (fun b10 q9 => ?_)
    · skip
      show fx_W _ _ _ 66 lv1 [.null, .ref 95] _ _
      refine fx_i2 aj_d143 rfl (Nat.le_succ _) (fun _ => rfl) hlv1_0 ?_
      refine fx_gI aj_d143 rfl (Nat.le_succ _) rfl rfl (Or.inl rfl) ?_
      exact fx_d aj_d143 rfl (fun _ => rfl)
    · skip
      refine fx_qs q9 ?_
      show fx_W _ _ _ 66 lv1 [.ref b10, .ref 95] _ _
      refine fx_i2 aj_d143 rfl (Nat.le_succ _) (fun _ => rfl) hlv1_0 ?_
      refine fx_gI aj_d143 rfl (Nat.le_succ _) rfl rfl (Or.inl rfl) ?_
      refine fx_cv aj_d143 rfl (Nat.le_succ _) rfl [_] rfl rfl (gx_63_ok b10 (X8.1 95 13)) ?_
      rintro _ X11 ⟨w12, rfl, hR11⟩ hok11 hle11
      refine fx_qc hR11 ?_
      rcases w12 with _ | w12b
      · skip
        refine fx_o1 (fx_qa rfl ?_)
        show fx_W _ _ _ 73 lv1 [.null, .ref 95] _ _
        refine fx_cv aj_d143 rfl (Nat.le_succ _) rfl [_] rfl rfl (gx_144_1_ok) ?_
        rintro _ X13 ⟨w14, rfl, hR13⟩ hok13 hle13
        refine fx_qc hR13 ?_
        show fx_W _ _ _ 76 lv1 [] _ _
        refine fx_n (pc' := 200) (lv' := lv1) (st' := []) aj_d143 rfl (Nat.le_succ _) (fun _ => rfl) ?_
        exact fx_rn aj_d143 rfl ⟨(), rfl, 0, rfl⟩
      · skip
        refine fx_o2 (fx_qs rfl ?_)
        show fx_W _ _ _ 73 lv1 [.ref w12b, .ref 95] _ _
        refine fx_cv aj_d143 rfl (Nat.le_succ _) rfl [_] rfl rfl (gx_144_2_ok w12b) ?_
        rintro _ X15 ⟨w16, rfl, hR15⟩ hok15 hle15
        refine fx_qc hR15 ?_
        show fx_W _ _ _ 76 lv1 [] _ _
        refine fx_n (pc' := 200) (lv' := lv1) (st' := []) aj_d143 rfl (Nat.le_succ _) (fun _ => rfl) ?_
        exact fx_rn aj_d143 rfl ⟨(), rfl, 0, rfl⟩
  · skip
    refine fx_qe (c := (p1).toInt = 186) q3 ?_
    by_cases q17 : (p1).toInt = 187
    · skip
      refine fx_qi (c := (p1).toInt = 187) q17 ?_
      refine fx_ts (tgt := 79) aj_d143 rfl (Nat.le_succ _) q17 (by decide) rfl rfl ?_
      show fx_W _ _ _ 79 lv1 [] _ _
      refine fx_i2 aj_d143 rfl (Nat.le_succ _) (fun _ => rfl) hlv1_0 ?_
      refine fx_i2 aj_d143 rfl (Nat.le_succ _) (fun _ => rfl) hlv1_0 ?_
      refine fx_gR aj_d143 rfl (Nat.le_succ _) rfl rfl (Or.inl ⟨_, rfl⟩) (fun q18 _ => ?_) (fun b19 q18 => ?_)
      · skip
        show fx_W _ _ _ 84 lv1 [.null, .ref 95] _ _
        refine fx_i2 aj_d143 rfl (Nat.le_succ _) (fun _ => rfl) hlv1_0 ?_
        refine fx_gI aj_d143 rfl (Nat.le_succ _) rfl rfl (Or.inl rfl) ?_
        exact fx_d aj_d143 rfl (fun _ => rfl)
      · skip
        refine fx_qs q18 ?_
        show fx_W _ _ _ 84 lv1 [.ref b19, .ref 95] _ _
        refine fx_i2 aj_d143 rfl (Nat.le_succ _) (fun _ => rfl) hlv1_0 ?_
        refine fx_gI aj_d143 rfl (Nat.le_succ _) rfl rfl (Or.inl rfl) ?_
        refine fx_cv aj_d143 rfl (Nat.le_succ _) rfl [_] rfl rfl (gx_63_ok b19 (X.1 95 13)) ?_
        rintro _ X20 ⟨w21, rfl, hR20⟩ hok20 hle20
        refine fx_qc hR20 ?_
        rcases w21 with _ | w21b
        · skip
          refine fx_o1 (fx_qa rfl ?_)
          show fx_W _ _ _ 91 lv1 [.null, .ref 95] _ _
          refine fx_cv aj_d143 rfl (Nat.le_succ _) rfl [_] rfl rfl (gx_145_1_ok) ?_
          rintro _ X22 ⟨w23, rfl, hR22⟩ hok22 hle22
          refine fx_qc hR22 ?_
          show fx_W _ _ _ 94 lv1 [] _ _
          refine fx_n (pc' := 200) (lv' := lv1) (st' := []) aj_d143 rfl (Nat.le_succ _) (fun _ => rfl) ?_
          exact fx_rn aj_d143 rfl ⟨(), rfl, 0, rfl⟩
        · skip
          refine fx_o2 (fx_qs rfl ?_)
          show fx_W _ _ _ 91 lv1 [.ref w21b, .ref 95] _ _
          refine fx_cv aj_d143 rfl (Nat.le_succ _) rfl [_] rfl rfl (gx_145_2_ok w21b) ?_
          rintro _ X24 ⟨w25, rfl, hR24⟩ hok24 hle24
          refine fx_qc hR24 ?_
          show fx_W _ _ _ 94 lv1 [] _ _
          refine fx_n (pc' := 200) (lv' := lv1) (st' := []) aj_d143 rfl (Nat.le_succ _) (fun _ => rfl) ?_
          exact fx_rn aj_d143 rfl ⟨(), rfl, 0, rfl⟩
    · skip
      refine fx_qe (c := (p1).toInt = 187) q17 ?_
      by_cases q26 : (p1).toInt = 188
      · skip
        refine fx_qi (c := (p1).toInt = 188) q26 ?_
        refine fx_ts (tgt := 97) aj_d143 rfl (Nat.le_succ _) q26 (by decide) rfl rfl ?_
        show fx_W _ _ _ 97 lv1 [] _ _
        refine fx_i2 aj_d143 rfl (Nat.le_succ _) (fun _ => rfl) hlv1_0 ?_
        refine fx_i2 aj_d143 rfl (Nat.le_succ _) (fun _ => rfl) hlv1_0 ?_
        refine fx_gR aj_d143 rfl (Nat.le_succ _) rfl rfl (Or.inl ⟨_, rfl⟩) (fun q27 _ => ?_) (fun b28 q27 => ?_)
        · skip
          show fx_W _ _ _ 102 lv1 [.null, .ref 95] _ _
          refine fx_i2 aj_d143 rfl (Nat.le_succ _) (fun _ => rfl) hlv1_0 ?_
          refine fx_gI aj_d143 rfl (Nat.le_succ _) rfl rfl (Or.inl rfl) ?_
          exact fx_d aj_d143 rfl (fun _ => rfl)
        · skip
          refine fx_qs q27 ?_
          show fx_W _ _ _ 102 lv1 [.ref b28, .ref 95] _ _
          refine fx_i2 aj_d143 rfl (Nat.le_succ _) (fun _ => rfl) hlv1_0 ?_
          refine fx_gI aj_d143 rfl (Nat.le_succ _) rfl rfl (Or.inl rfl) ?_
          refine fx_cv aj_d143 rfl (Nat.le_succ _) rfl [_] rfl rfl (gx_63_ok b28 (X.1 95 13)) ?_
          rintro _ X29 ⟨w30, rfl, hR29⟩ hok29 hle29
          refine fx_qc hR29 ?_
          rcases w30 with _ | w30b
          · skip
            refine fx_o1 (fx_qa rfl ?_)
            show fx_W _ _ _ 109 lv1 [.null, .ref 95] _ _
            refine fx_cv aj_d143 rfl (Nat.le_succ _) rfl [_] rfl rfl (gx_146_1_ok) ?_
            rintro _ X31 ⟨w32, rfl, hR31⟩ hok31 hle31
            refine fx_qc hR31 ?_
            show fx_W _ _ _ 112 lv1 [] _ _
            refine fx_n (pc' := 200) (lv' := lv1) (st' := []) aj_d143 rfl (Nat.le_succ _) (fun _ => rfl) ?_
            exact fx_rn aj_d143 rfl ⟨(), rfl, 0, rfl⟩
          · skip
            refine fx_o2 (fx_qs rfl ?_)
            show fx_W _ _ _ 109 lv1 [.ref w30b, .ref 95] _ _
            refine fx_cv aj_d143 rfl (Nat.le_succ _) rfl [_] rfl rfl (gx_146_2_ok w30b) ?_
            rintro _ X33 ⟨w34, rfl, hR33⟩ hok33 hle33
            refine fx_qc hR33 ?_
            show fx_W _ _ _ 112 lv1 [] _ _
            refine fx_n (pc' := 200) (lv' := lv1) (st' := []) aj_d143 rfl (Nat.le_succ _) (fun _ => rfl) ?_
            exact fx_rn aj_d143 rfl ⟨(), rfl, 0, rfl⟩
      · skip
        refine fx_qe (c := (p1).toInt = 188) q26 ?_
        by_cases q35 : (p1).toInt = 190
        · skip
          refine fx_qi (c := (p1).toInt = 190) q35 ?_
          refine fx_ts (tgt := 115) aj_d143 rfl (Nat.le_succ _) q35 (by decide) rfl rfl ?_
          show fx_W _ _ _ 115 lv1 [] _ _
          refine fx_i2 aj_d143 rfl (Nat.le_succ _) (fun _ => rfl) hlv1_0 ?_
          refine fx_gR aj_d143 rfl (Nat.le_succ _) rfl rfl (Or.inl ⟨_, rfl⟩) (fun q36 _ => ?_) (fun b37 q36 => ?_)
          · skip
            show fx_W _ _ _ 119 lv1 [.null] _ _
            refine fx_i2 aj_d143 rfl (Nat.le_succ _) (fun _ => rfl) hlv1_0 ?_
            exact fx_d aj_d143 rfl (fun _ => rfl)
          · skip
            refine fx_qs q36 ?_
            show fx_W _ _ _ 119 lv1 [.ref b37] _ _
            refine fx_i2 aj_d143 rfl (Nat.le_succ _) (fun _ => rfl) hlv1_0 ?_
            refine fx_cv aj_d143 rfl (Nat.le_succ _) rfl [_] rfl rfl (gx_148_ok b37) ?_
            rintro _ X38 ⟨w39, rfl, hR38⟩ hok38 hle38
            refine fx_qc hR38 ?_
            show fx_W _ _ _ 123 lv1 [] _ _
            refine fx_i2 aj_d143 rfl (Nat.le_succ _) (fun _ => rfl) hlv1_0 ?_
            refine fx_gR aj_d143 rfl (Nat.le_succ _) rfl rfl (Or.inl ⟨_, rfl⟩) (fun q40 _ => ?_) (fun b41 q40 => ?_)
            · skip
              show fx_W _ _ _ 127 lv1 [.null] _ _
              exact fx_d aj_d143 rfl (fun _ => rfl)
            · skip
              refine fx_qs q40 ?_
              show fx_W _ _ _ 127 lv1 [.ref b41] _ _
              refine fx_gI aj_d143 rfl (Nat.le_succ _) rfl rfl (Or.inl rfl) ?_
              refine fx_b0 (tgt := 200) aj_d143 rfl (Nat.le_succ _) rfl (fun q42 => ?_) (fun q42 => ?_)
              · skip
                refine fx_qe (c := ((X38.1 b41 14)).toInt = 0) (fx_t_ne q42) ?_
                show fx_W _ _ _ 200 lv1 [] _ _
                exact fx_rn aj_d143 rfl ⟨(), rfl, 0, rfl⟩
              · skip
                refine fx_qi (c := ((X38.1 b41 14)).toInt = 0) (fx_f_ne q42) ?_
                show fx_W _ _ _ 133 lv1 [] _ _
                refine fx_i2 aj_d143 rfl (Nat.le_succ _) (fun _ => rfl) hlv1_0 ?_
                refine fx_gF aj_d143 rfl (Nat.le_succ _) rfl rfl fx_in_9_1 (t := 82) rfl (fun hA43 => ?_)
                refine fx_n (pc' := 139) (lv' := lv1) (st' := [.int ((Int8.ofInt 7).toInt32), .ref 82]) aj_d143 rfl (Nat.le_succ _) (fun _ => rfl) ?_
                refine fx_i2 aj_d143 rfl (Nat.le_succ _) (fun _ => rfl) hlv1_0 ?_
                refine fx_gF aj_d143 rfl (Nat.le_succ _) rfl rfl fx_in_9_0 (t := 78) rfl (fun hA44 => ?_)
                refine fx_i2 aj_d143 rfl (Nat.le_succ _) (fun _ => rfl) hlv1_0 ?_
                refine fx_gF aj_d143 rfl (Nat.le_succ _) rfl rfl fx_in_9_1 (t := 82) rfl (fun hA45 => ?_)
                refine fx_i0 aj_d143 rfl (Nat.le_succ _) (fun _ => rfl) hlv1_2 ?_
                refine fx_cv aj_d143 rfl (Nat.le_succ _) rfl [_] rfl rfl (gx_72_ok p2) ?_
                rintro _ X46 ⟨w47, rfl, hR46⟩ hok46 hle46
                refine fx_qc hR46 ?_
                show fx_W _ _ _ 151 lv1 [.int w47, .ref 78, .int ((Int8.ofInt 7).toInt32), .ref 82] _ _
                refine fx_cv aj_d143 rfl (Nat.le_succ _) rfl [_] rfl rfl (gx_43_ok w47) ?_
                rintro _ X48 ⟨w49, rfl, hR48⟩ hok48 hle48
                refine fx_qc hR48 ?_
                show fx_W _ _ _ 154 lv1 [.int w49, .int ((Int8.ofInt 7).toInt32), .ref 82] _ _
                refine fx_cv aj_d143 rfl (Nat.le_succ _) rfl [_, _] rfl rfl (gx_44_ok ((Int8.ofInt 7).toInt32) w49) ?_
                rintro _ X50 ⟨w51, rfl, hR50⟩ hok50 hle50
                refine fx_qc hR50 ?_
                show fx_W _ _ _ 157 lv1 [] _ _
                refine fx_n (pc' := 200) (lv' := lv1) (st' := []) aj_d143 rfl (Nat.le_succ _) (fun _ => rfl) ?_
                exact fx_rn aj_d143 rfl ⟨(), rfl, 0, rfl⟩
        · skip
          refine fx_qe (c := (p1).toInt = 190) q35 ?_
          by_cases q52 : (p1).toInt = 192
          · skip
            refine fx_qi (c := (p1).toInt = 192) q52 ?_
            refine fx_ts (tgt := 160) aj_d143 rfl (Nat.le_succ _) q52 (by decide) rfl rfl ?_
            show fx_W _ _ _ 160 lv1 [] _ _
            refine fx_i2 aj_d143 rfl (Nat.le_succ _) (fun _ => rfl) hlv1_0 ?_
            refine fx_n (pc' := 162) (lv' := lv1) (st' := [.ref 95, .ref 95]) aj_d143 rfl (Nat.le_succ _) (fun _ => rfl) ?_
            refine fx_gI aj_d143 rfl (Nat.le_succ _) rfl rfl (Or.inl rfl) ?_
            refine fx_n (pc' := 166) (lv' := lv1) (st' := [.int (Int32.ofInt 1), .int (X.1 95 4), .ref 95]) aj_d143 rfl (Nat.le_succ _) (fun _ => rfl) ?_
            refine fx_n (pc' := 167) (lv' := lv1) (st' := [.int ((X.1 95 4) - (Int32.ofInt 1)), .ref 95]) aj_d143 rfl (Nat.le_succ _) (fun _ => rfl) ?_
            refine fx_pI aj_d143 rfl (Nat.le_succ _) rfl rfl (Or.inl rfl) fx_no_9_4 (by decide) ?_
            refine fx_qX (fun X53 eX53 => ?_)
            show fx_W _ _ _ 170 lv1 [] _ _
            refine fx_i2 aj_d143 rfl (Nat.le_succ _) (fun _ => rfl) hlv1_0 ?_
            refine fx_i2 aj_d143 rfl (Nat.le_succ _) (fun _ => rfl) hlv1_0 ?_
            refine fx_gR aj_d143 rfl (Nat.le_succ _) rfl rfl (Or.inl ⟨_, rfl⟩) (fun q54 _ => ?_) (fun b55 q54 => ?_)
            · skip
              show fx_W _ _ _ 175 lv1 [.null, .ref 95] _ _
              refine fx_i2 aj_d143 rfl (Nat.le_succ _) (fun _ => rfl) hlv1_0 ?_
              refine fx_gF aj_d143 rfl (Nat.le_succ _) rfl rfl fx_in_9_1 (t := 82) rfl (fun hA56 => ?_)
              refine fx_i0 aj_d143 rfl (Nat.le_succ _) (fun _ => rfl) hlv1_2 ?_
              refine fx_cv aj_d143 rfl (Nat.le_succ _) rfl [_] rfl rfl (gx_40_ok p2) ?_
              rintro _ X57 ⟨w58, rfl, hR57⟩ hok57 hle57
              show fx_W _ _ _ 183 lv1 [.int w58, .null, .ref 95] _ _
              exact fx_d aj_d143 rfl (fun _ => rfl)
            · skip
              refine fx_qs q54 ?_
              show fx_W _ _ _ 175 lv1 [.ref b55, .ref 95] _ _
              refine fx_i2 aj_d143 rfl (Nat.le_succ _) (fun _ => rfl) hlv1_0 ?_
              refine fx_gF aj_d143 rfl (Nat.le_succ _) rfl rfl fx_in_9_1 (t := 82) rfl (fun hA59 => ?_)
              refine fx_i0 aj_d143 rfl (Nat.le_succ _) (fun _ => rfl) hlv1_2 ?_
              refine fx_cv aj_d143 rfl (Nat.le_succ _) rfl [_] rfl rfl (gx_40_ok p2) ?_
              rintro _ X60 ⟨w61, rfl, hR60⟩ hok60 hle60
              refine fx_qc hR60 ?_
              show fx_W _ _ _ 183 lv1 [.int w61, .ref b55, .ref 95] _ _
              refine fx_cv aj_d143 rfl (Nat.le_succ _) rfl [_] rfl rfl (gx_63_ok b55 w61) ?_
              rintro _ X62 ⟨w63, rfl, hR62⟩ hok62 hle62
              refine fx_qc hR62 ?_
              rcases w63 with _ | w63b
              · skip
                refine fx_o1 (fx_qa rfl ?_)
                show fx_W _ _ _ 186 lv1 [.null, .ref 95] _ _
                refine fx_i2 aj_d143 rfl (Nat.le_succ _) (fun _ => rfl) hlv1_0 ?_
                refine fx_i2 aj_d143 rfl (Nat.le_succ _) (fun _ => rfl) hlv1_0 ?_
                refine fx_gI aj_d143 rfl (Nat.le_succ _) rfl rfl (Or.inl rfl) ?_
                refine fx_cv aj_d143 rfl (Nat.le_succ _) rfl [_] rfl rfl (gx_100_ok (X62.1 95 4)) ?_
                rintro _ X64 ⟨w65, rfl, hR64⟩ hok64 hle64
                refine fx_qc hR64 ?_
                show fx_W _ _ _ 194 lv1 [.ref w65, .null, .ref 95] _ _
                refine fx_cv aj_d143 rfl (Nat.le_succ _) rfl [_, _] rfl rfl (gx_149_1_ok w65) ?_
                rintro _ X66 ⟨w67, rfl, hR66⟩ hok66 hle66
                refine fx_qc hR66 ?_
                show fx_W _ _ _ 197 lv1 [] _ _
                refine fx_n (pc' := 200) (lv' := lv1) (st' := []) aj_d143 rfl (Nat.le_succ _) (fun _ => rfl) ?_
                exact fx_rn aj_d143 rfl ⟨(), rfl, 0, rfl⟩
              · skip
                refine fx_o2 (fx_qs rfl ?_)
                show fx_W _ _ _ 186 lv1 [.ref w63b, .ref 95] _ _
                refine fx_i2 aj_d143 rfl (Nat.le_succ _) (fun _ => rfl) hlv1_0 ?_
                refine fx_i2 aj_d143 rfl (Nat.le_succ _) (fun _ => rfl) hlv1_0 ?_
                refine fx_gI aj_d143 rfl (Nat.le_succ _) rfl rfl (Or.inl rfl) ?_
                refine fx_cv aj_d143 rfl (Nat.le_succ _) rfl [_] rfl rfl (gx_100_ok (X62.1 95 4)) ?_
                rintro _ X68 ⟨w69, rfl, hR68⟩ hok68 hle68
                refine fx_qc hR68 ?_
                show fx_W _ _ _ 194 lv1 [.ref w69, .ref w63b, .ref 95] _ _
                refine fx_cv aj_d143 rfl (Nat.le_succ _) rfl [_, _] rfl rfl (gx_149_2_ok w63b w69) ?_
                rintro _ X70 ⟨w71, rfl, hR70⟩ hok70 hle70
                refine fx_qc hR70 ?_
                show fx_W _ _ _ 197 lv1 [] _ _
                refine fx_n (pc' := 200) (lv' := lv1) (st' := []) aj_d143 rfl (Nat.le_succ _) (fun _ => rfl) ?_
                exact fx_rn aj_d143 rfl ⟨(), rfl, 0, rfl⟩
          · skip
            refine fx_qe (c := (p1).toInt = 192) q52 ?_
            by_cases q72 : (p1).toInt = 189
            · refine fx_ts (tgt := 200) aj_d143 rfl (Nat.le_succ _) q72 (by decide) rfl rfl ?_
              show fx_W _ _ _ 200 lv1 [] _ _
              exact fx_rn aj_d143 rfl ⟨(), rfl, 0, rfl⟩
            · skip
              by_cases q73 : (p1).toInt = 191
              · refine fx_ts (tgt := 200) aj_d143 rfl (Nat.le_succ _) q73 (by decide) rfl rfl ?_
                show fx_W _ _ _ 200 lv1 [] _ _
                exact fx_rn aj_d143 rfl ⟨(), rfl, 0, rfl⟩
              · skip
                refine fx_td (tgt := 200) aj_d143 rfl (Nat.le_succ _) (by omega) rfl ?_
                show fx_W _ _ _ 200 lv1 [] _ _
                exact fx_rn aj_d143 rfl ⟨(), rfl, 0, rfl⟩
def gx_141 (p1 : Int32) (p2 : Int32) (X : fx_X) (v : Unit) (X' : fx_X) : Prop :=
  ∃ X2 : fx_X, X2 = (fx_wI X 95 8 (X.1 95 10)) ∧ ∃ X3 : fx_X, X3 = (fx_wI X2 95 9 (X2.1 95 11)) ∧ ∃ X4 : fx_X, X4 = (fx_wI X3 95 10 p1) ∧ ∃ X5 : fx_X, X5 = (fx_wI X4 95 11 p2) ∧ X' = X5
theorem gx_141_ok {tb : aj_T} (p1 : Int32) (p2 : Int32) {X : fx_X} : fx_K tb 141 [.ref 95, .int p1, .int p2] X (fx_Q fx_qN (fun v X' => gx_141 p1 p2 X v X')) := by
  refine fx_m aj_m141_at rfl (fun N => ?_)
  refine fx_mono (Q := fx_Q fx_qN (fun v X' => ∃ n : Nat, gx_141 p1 p2 X v X')) (fun r X' ⟨v, e, _, z⟩ => ⟨v, e, z⟩) ?_
  unfold gx_141
  show fx_W _ _ _ 0 [(0, .ref 95), (1, .int p1), (2, .int p2)] [] _ _
  obtain ⟨lv1, elv1⟩ : ∃ l : aj_V, l = [(0, .ref 95), (1, .int p1), (2, .int p2)] := ⟨_, rfl⟩
  rw [← elv1]
  have hlv1_0 : aj_lv lv1 0 = some (.ref 95) := by rw [elv1]; rfl
  have hlv1_1 : aj_lv lv1 1 = some (.int p1) := by rw [elv1]; rfl
  have hlv1_2 : aj_lv lv1 2 = some (.int p2) := by rw [elv1]; rfl
  refine fx_i2 aj_d141 rfl (Nat.le_succ _) (fun _ => rfl) hlv1_0 ?_
  refine fx_i2 aj_d141 rfl (Nat.le_succ _) (fun _ => rfl) hlv1_0 ?_
  refine fx_gI aj_d141 rfl (Nat.le_succ _) rfl rfl (Or.inl rfl) ?_
  refine fx_pI aj_d141 rfl (Nat.le_succ _) rfl rfl (Or.inl rfl) fx_no_9_8 (by decide) ?_
  refine fx_qX (fun X2 eX2 => ?_)
  show fx_W _ _ _ 8 lv1 [] _ _
  refine fx_i2 aj_d141 rfl (Nat.le_succ _) (fun _ => rfl) hlv1_0 ?_
  refine fx_i2 aj_d141 rfl (Nat.le_succ _) (fun _ => rfl) hlv1_0 ?_
  refine fx_gI aj_d141 rfl (Nat.le_succ _) rfl rfl (Or.inl rfl) ?_
  refine fx_pI aj_d141 rfl (Nat.le_succ _) rfl rfl (Or.inl rfl) fx_no_9_9 (by decide) ?_
  refine fx_qX (fun X3 eX3 => ?_)
  show fx_W _ _ _ 16 lv1 [] _ _
  refine fx_i2 aj_d141 rfl (Nat.le_succ _) (fun _ => rfl) hlv1_0 ?_
  refine fx_i0 aj_d141 rfl (Nat.le_succ _) (fun _ => rfl) hlv1_1 ?_
  refine fx_pI aj_d141 rfl (Nat.le_succ _) rfl rfl (Or.inl rfl) fx_no_9_10 (by decide) ?_
  refine fx_qX (fun X4 eX4 => ?_)
  show fx_W _ _ _ 21 lv1 [] _ _
  refine fx_i2 aj_d141 rfl (Nat.le_succ _) (fun _ => rfl) hlv1_0 ?_
  refine fx_i0 aj_d141 rfl (Nat.le_succ _) (fun _ => rfl) hlv1_2 ?_
  refine fx_pI aj_d141 rfl (Nat.le_succ _) rfl rfl (Or.inl rfl) fx_no_9_11 (by decide) ?_
  refine fx_qX (fun X5 eX5 => ?_)
  show fx_W _ _ _ 26 lv1 [] _ _
  exact fx_rn aj_d141 rfl ⟨(), rfl, 0, rfl⟩
def gx_114_1 (p0 : Nat) (p2 : Int32) (p3 : Int32) (p4 : Int32) (X : fx_X) (v : Int32) (X' : fx_X) : Prop :=
  ∃ x2 : Int32, x2 = ((p2 * ((Int8.ofInt 6).toInt32)) + p3) ∧ (if (p2).toInt < 0 then (v = (Int32.ofInt 0) ∧ X' = X) else ((if (p2).toInt < 30 then ((if (p3).toInt < 0 then (v = (Int32.ofInt 0) ∧ X' = X) else ((if (p3).toInt < 6 then ((if (x2).toInt < 180 then ((if (x2).toInt < 180 then ((0 ≤ (x2).toInt ∧ (x2).toInt < ((180 : Nat) : Int)) ∧ ∃ x14 : Int32, x14 = (X.1 (p0 + 1) (x2).toInt.toNat) ∧ (0 ≤ (x2).toInt ∧ (x2).toInt < ((180 : Nat) : Int)) ∧ (if ((X.1 (p0 + 2) (x2).toInt.toNat)).toInt = 0 then (v = x14 ∧ X' = X) else (∃ x19 : Int32, x19 = ((p4 * ((Int8.ofInt 8).toInt32)) + x14) ∧ (if (p4).toInt < 0 then (v = (Int32.ofInt 0) ∧ X' = X) else ((if (p4).toInt < 1024 then ((if (x14).toInt < 0 then (v = (Int32.ofInt 0) ∧ X' = X) else ((if (x14).toInt < 8 then (False) else (v = (Int32.ofInt 0) ∧ X' = X))))) else (v = (Int32.ofInt 0) ∧ X' = X))))))) else (v = (Int32.ofInt 0) ∧ X' = X))) else (v = (Int32.ofInt 0) ∧ X' = X))) else (v = (Int32.ofInt 0) ∧ X' = X))))) else (v = (Int32.ofInt 0) ∧ X' = X))))
theorem gx_114_1_ok {tb : aj_T} (p0 : Nat) (p2 : Int32) (p3 : Int32) (p4 : Int32) {X : fx_X} : fx_K tb 114 [.ref p0, .null, .int p2, .int p3, .int p4] X (fx_Q fx_qI (fun v X' => gx_114_1 p0 p2 p3 p4 X v X')) := by
  refine fx_m aj_m114_at rfl (fun N => ?_)
  refine fx_mono (Q := fx_Q fx_qI (fun v X' => ∃ n : Nat, gx_114_1 p0 p2 p3 p4 X v X')) (fun r X' ⟨v, e, _, z⟩ => ⟨v, e, z⟩) ?_
  unfold gx_114_1
  show fx_W _ _ _ 0 [(0, .ref p0), (1, .null), (2, .int p2), (3, .int p3), (4, .int p4)] [] _ _
  obtain ⟨lv1, elv1⟩ : ∃ l : aj_V, l = [(0, .ref p0), (1, .null), (2, .int p2), (3, .int p3), (4, .int p4)] := ⟨_, rfl⟩
  rw [← elv1]
  have hlv1_0 : aj_lv lv1 0 = some (.ref p0) := by rw [elv1]; rfl
  have hlv1_1 : aj_lv lv1 1 = some (.null) := by rw [elv1]; rfl
  have hlv1_2 : aj_lv lv1 2 = some (.int p2) := by rw [elv1]; rfl
  have hlv1_3 : aj_lv lv1 3 = some (.int p3) := by rw [elv1]; rfl
  have hlv1_4 : aj_lv lv1 4 = some (.int p4) := by rw [elv1]; rfl
  refine fx_i0 aj_d114 rfl (Nat.le_succ _) (fun _ => rfl) hlv1_2 ?_
  refine fx_n (pc' := 3) (lv' := lv1) (st' := [.int ((Int8.ofInt 6).toInt32), .int p2]) aj_d114 rfl (Nat.le_succ _) (fun _ => rfl) ?_
  refine fx_n (pc' := 4) (lv' := lv1) (st' := [.int (p2 * ((Int8.ofInt 6).toInt32))]) aj_d114 rfl (Nat.le_succ _) (fun _ => rfl) ?_
  refine fx_i0 aj_d114 rfl (Nat.le_succ _) (fun _ => rfl) hlv1_3 ?_
  refine fx_n (pc' := 6) (lv' := lv1) (st' := [.int ((p2 * ((Int8.ofInt 6).toInt32)) + p3)]) aj_d114 rfl (Nat.le_succ _) (fun _ => rfl) ?_
  refine fx_qxI (fun x2 ex2 => ?_)
  refine fx_s0 (j := 5) aj_d114 rfl (Nat.le_succ _) (by decide) (fun _ => rfl) ?_
  obtain ⟨lv3, elv3⟩ : ∃ l, l = aj_set1 lv1 5 (.int x2) := ⟨_, rfl⟩
  rw [← elv3]
  have hlv3_0 : aj_lv lv3 0 = some (.ref p0) := fx_e1 elv3 hlv1_0 (by decide) (Or.inl (by decide))
  have hlv3_1 : aj_lv lv3 1 = some (.null) := fx_e1 elv3 hlv1_1 (by decide) (Or.inl (by decide))
  have hlv3_2 : aj_lv lv3 2 = some (.int p2) := fx_e1 elv3 hlv1_2 (by decide) (Or.inl (by decide))
  have hlv3_3 : aj_lv lv3 3 = some (.int p3) := fx_e1 elv3 hlv1_3 (by decide) (Or.inl (by decide))
  have hlv3_4 : aj_lv lv3 4 = some (.int p4) := fx_e1 elv3 hlv1_4 (by decide) (Or.inr rfl)
  have hlv3_5 : aj_lv lv3 5 = some (.int x2) := by rw [elv3]; exact ak_set1_eq _ _ _
  show fx_W _ _ _ 8 lv3 [] _ _
  refine fx_i0 aj_d114 rfl (Nat.le_succ _) (fun _ => rfl) hlv3_2 ?_
  refine fx_b0 (tgt := 48) aj_d114 rfl (Nat.le_succ _) rfl (fun q4 => ?_) (fun q4 => ?_)
  · skip
    refine fx_qi (c := (p2).toInt < 0) (fx_t_lt q4) ?_
    show fx_W _ _ _ 48 lv3 [] _ _
    refine fx_n (pc' := 49) (lv' := lv3) (st' := [.int (Int32.ofInt 0)]) aj_d114 rfl (Nat.le_succ _) (fun _ => rfl) ?_
    exact fx_ri aj_d114 rfl ⟨_, rfl, 0, rfl, rfl⟩
  · skip
    refine fx_qe (c := (p2).toInt < 0) (fx_f_lt q4) ?_
    show fx_W _ _ _ 12 lv3 [] _ _
    refine fx_i0 aj_d114 rfl (Nat.le_succ _) (fun _ => rfl) hlv3_2 ?_
    refine fx_n (pc' := 15) (lv' := lv3) (st' := [.int ((Int8.ofInt 30).toInt32), .int p2]) aj_d114 rfl (Nat.le_succ _) (fun _ => rfl) ?_
    refine fx_b (tgt := 48) aj_d114 rfl (Nat.le_succ _) rfl (fun q5 => ?_) (fun q5 => ?_)
    · skip
      refine fx_qe (c := (p2).toInt < 30) (fx_t_ge q5) ?_
      show fx_W _ _ _ 48 lv3 [] _ _
      refine fx_n (pc' := 49) (lv' := lv3) (st' := [.int (Int32.ofInt 0)]) aj_d114 rfl (Nat.le_succ _) (fun _ => rfl) ?_
      exact fx_ri aj_d114 rfl ⟨_, rfl, 0, rfl, rfl⟩
    · skip
      refine fx_qi (c := (p2).toInt < 30) (fx_f_ge q5) ?_
      show fx_W _ _ _ 18 lv3 [] _ _
      refine fx_i0 aj_d114 rfl (Nat.le_succ _) (fun _ => rfl) hlv3_3 ?_
      refine fx_b0 (tgt := 48) aj_d114 rfl (Nat.le_succ _) rfl (fun q6 => ?_) (fun q6 => ?_)
      · skip
        refine fx_qi (c := (p3).toInt < 0) (fx_t_lt q6) ?_
        show fx_W _ _ _ 48 lv3 [] _ _
        refine fx_n (pc' := 49) (lv' := lv3) (st' := [.int (Int32.ofInt 0)]) aj_d114 rfl (Nat.le_succ _) (fun _ => rfl) ?_
        exact fx_ri aj_d114 rfl ⟨_, rfl, 0, rfl, rfl⟩
      · skip
        refine fx_qe (c := (p3).toInt < 0) (fx_f_lt q6) ?_
        show fx_W _ _ _ 22 lv3 [] _ _
        refine fx_i0 aj_d114 rfl (Nat.le_succ _) (fun _ => rfl) hlv3_3 ?_
        refine fx_n (pc' := 25) (lv' := lv3) (st' := [.int ((Int8.ofInt 6).toInt32), .int p3]) aj_d114 rfl (Nat.le_succ _) (fun _ => rfl) ?_
        refine fx_b (tgt := 48) aj_d114 rfl (Nat.le_succ _) rfl (fun q7 => ?_) (fun q7 => ?_)
        · skip
          refine fx_qe (c := (p3).toInt < 6) (fx_t_ge q7) ?_
          show fx_W _ _ _ 48 lv3 [] _ _
          refine fx_n (pc' := 49) (lv' := lv3) (st' := [.int (Int32.ofInt 0)]) aj_d114 rfl (Nat.le_succ _) (fun _ => rfl) ?_
          exact fx_ri aj_d114 rfl ⟨_, rfl, 0, rfl, rfl⟩
        · skip
          refine fx_qi (c := (p3).toInt < 6) (fx_f_ge q7) ?_
          show fx_W _ _ _ 28 lv3 [] _ _
          refine fx_i0 aj_d114 rfl (Nat.le_succ _) (fun _ => rfl) hlv3_5 ?_
          refine fx_i2 aj_d114 rfl (Nat.le_succ _) (fun _ => rfl) hlv3_0 ?_
          refine fx_gF aj_d114 rfl (Nat.le_succ _) rfl rfl fx_in_6_0 (t := (p0 + 1)) rfl (fun hA8 => ?_)
          refine fx_al aj_d114 rfl (Nat.le_succ _) ?_
          rw [(hA8 : X.2.2.2.1 (p0 + 1) = (0, 180))]
          show fx_W _ _ _ 35 lv3 [.int (Int32.ofNat 180), .int x2] _ _
          refine fx_b (tgt := 48) aj_d114 rfl (Nat.le_succ _) rfl (fun q9 => ?_) (fun q9 => ?_)
          · skip
            refine fx_qe (c := (x2).toInt < 180) (fx_t_ge q9) ?_
            show fx_W _ _ _ 48 lv3 [] _ _
            refine fx_n (pc' := 49) (lv' := lv3) (st' := [.int (Int32.ofInt 0)]) aj_d114 rfl (Nat.le_succ _) (fun _ => rfl) ?_
            exact fx_ri aj_d114 rfl ⟨_, rfl, 0, rfl, rfl⟩
          · skip
            refine fx_qi (c := (x2).toInt < 180) (fx_f_ge q9) ?_
            show fx_W _ _ _ 38 lv3 [] _ _
            refine fx_i0 aj_d114 rfl (Nat.le_succ _) (fun _ => rfl) hlv3_5 ?_
            refine fx_i2 aj_d114 rfl (Nat.le_succ _) (fun _ => rfl) hlv3_0 ?_
            refine fx_gF aj_d114 rfl (Nat.le_succ _) rfl rfl fx_in_6_1 (t := (p0 + 2)) rfl (fun hA10 => ?_)
            refine fx_al aj_d114 rfl (Nat.le_succ _) ?_
            rw [(hA10 : X.2.2.2.1 (p0 + 2) = (2, 180))]
            show fx_W _ _ _ 45 lv3 [.int (Int32.ofNat 180), .int x2] _ _
            refine fx_b (tgt := 50) aj_d114 rfl (Nat.le_succ _) rfl (fun q11 => ?_) (fun q11 => ?_)
            · skip
              refine fx_qi (c := (x2).toInt < 180) (fx_t_lt q11) ?_
              show fx_W _ _ _ 50 lv3 [] _ _
              refine fx_i2 aj_d114 rfl (Nat.le_succ _) (fun _ => rfl) hlv3_0 ?_
              refine fx_gF aj_d114 rfl (Nat.le_succ _) rfl rfl fx_in_6_0 (t := (p0 + 1)) rfl (fun hA12 => ?_)
              refine fx_i0 aj_d114 rfl (Nat.le_succ _) (fun _ => rfl) hlv3_5 ?_
              refine fx_ld aj_d114 (Or.inl rfl) rfl (Nat.le_succ _) (fun g130 g131 => ?_)
              show fx_W _ _ _ 57 lv3 [.int (X.1 (p0 + 1) (x2).toInt.toNat)] _ _
              refine fx_qa (c := 0 ≤ (x2).toInt ∧ (x2).toInt < ((180 : Nat) : Int)) ⟨g130, fx_lnk g131 hA12⟩ ?_
              refine fx_qxI (fun x14 ex14 => ?_)
              refine fx_s0 (j := 6) aj_d114 rfl (Nat.le_succ _) (by decide) (fun _ => rfl) ?_
              obtain ⟨lv15, elv15⟩ : ∃ l, l = aj_set1 lv3 6 (.int x14) := ⟨_, rfl⟩
              rw [← elv15]
              have hlv15_0 : aj_lv lv15 0 = some (.ref p0) := fx_e1 elv15 hlv3_0 (by decide) (Or.inl (by decide))
              have hlv15_1 : aj_lv lv15 1 = some (.null) := fx_e1 elv15 hlv3_1 (by decide) (Or.inl (by decide))
              have hlv15_4 : aj_lv lv15 4 = some (.int p4) := fx_e1 elv15 hlv3_4 (by decide) (Or.inl (by decide))
              have hlv15_5 : aj_lv lv15 5 = some (.int x2) := fx_e1 elv15 hlv3_5 (by decide) (Or.inr rfl)
              have hlv15_6 : aj_lv lv15 6 = some (.int x14) := by rw [elv15]; exact ak_set1_eq _ _ _
              show fx_W _ _ _ 59 lv15 [] _ _
              refine fx_i2 aj_d114 rfl (Nat.le_succ _) (fun _ => rfl) hlv15_0 ?_
              refine fx_gF aj_d114 rfl (Nat.le_succ _) rfl rfl fx_in_6_1 (t := (p0 + 2)) rfl (fun hA16 => ?_)
              refine fx_i0 aj_d114 rfl (Nat.le_succ _) (fun _ => rfl) hlv15_5 ?_
              refine fx_ld aj_d114 (Or.inr (Or.inr rfl)) rfl (Nat.le_succ _) (fun g170 g171 => ?_)
              show fx_W _ _ _ 66 lv15 [.int (X.1 (p0 + 2) (x2).toInt.toNat)] _ _
              refine fx_qa (c := 0 ≤ (x2).toInt ∧ (x2).toInt < ((180 : Nat) : Int)) ⟨g170, fx_lnk g171 hA16⟩ ?_
              refine fx_b0 (tgt := 72) aj_d114 rfl (Nat.le_succ _) rfl (fun q18 => ?_) (fun q18 => ?_)
              · skip
                refine fx_qe (c := ((X.1 (p0 + 2) (x2).toInt.toNat)).toInt = 0) (fx_t_ne q18) ?_
                show fx_W _ _ _ 72 lv15 [] _ _
                refine fx_i0 aj_d114 rfl (Nat.le_succ _) (fun _ => rfl) hlv15_4 ?_
                refine fx_n (pc' := 76) (lv' := lv15) (st' := [.int ((Int8.ofInt 8).toInt32), .int p4]) aj_d114 rfl (Nat.le_succ _) (fun _ => rfl) ?_
                refine fx_n (pc' := 77) (lv' := lv15) (st' := [.int (p4 * ((Int8.ofInt 8).toInt32))]) aj_d114 rfl (Nat.le_succ _) (fun _ => rfl) ?_
                refine fx_i0 aj_d114 rfl (Nat.le_succ _) (fun _ => rfl) hlv15_6 ?_
                refine fx_n (pc' := 80) (lv' := lv15) (st' := [.int ((p4 * ((Int8.ofInt 8).toInt32)) + x14)]) aj_d114 rfl (Nat.le_succ _) (fun _ => rfl) ?_
                refine fx_qxI (fun x19 ex19 => ?_)
                refine fx_s0 (j := 7) aj_d114 rfl (Nat.le_succ _) (by decide) (fun _ => rfl) ?_
                obtain ⟨lv20, elv20⟩ : ∃ l, l = aj_set1 lv15 7 (.int x19) := ⟨_, rfl⟩
                rw [← elv20]
                have hlv20_1 : aj_lv lv20 1 = some (.null) := fx_e1 elv20 hlv15_1 (by decide) (Or.inl (by decide))
                have hlv20_4 : aj_lv lv20 4 = some (.int p4) := fx_e1 elv20 hlv15_4 (by decide) (Or.inl (by decide))
                have hlv20_6 : aj_lv lv20 6 = some (.int x14) := fx_e1 elv20 hlv15_6 (by decide) (Or.inr rfl)
                have hlv20_7 : aj_lv lv20 7 = some (.int x19) := by rw [elv20]; exact ak_set1_eq _ _ _
                show fx_W _ _ _ 82 lv20 [] _ _
                refine fx_i0 aj_d114 rfl (Nat.le_succ _) (fun _ => rfl) hlv20_4 ?_
                refine fx_b0 (tgt := 127) aj_d114 rfl (Nat.le_succ _) rfl (fun q21 => ?_) (fun q21 => ?_)
                · skip
                  refine fx_qi (c := (p4).toInt < 0) (fx_t_lt q21) ?_
                  show fx_W _ _ _ 127 lv20 [] _ _
                  refine fx_n (pc' := 128) (lv' := lv20) (st' := [.int (Int32.ofInt 0)]) aj_d114 rfl (Nat.le_succ _) (fun _ => rfl) ?_
                  exact fx_ri aj_d114 rfl ⟨_, rfl, 0, rfl, rfl⟩
                · skip
                  refine fx_qe (c := (p4).toInt < 0) (fx_f_lt q21) ?_
                  show fx_W _ _ _ 87 lv20 [] _ _
                  refine fx_i0 aj_d114 rfl (Nat.le_succ _) (fun _ => rfl) hlv20_4 ?_
                  refine fx_n (pc' := 92) (lv' := lv20) (st' := [.int ((Int16.ofInt 1024).toInt32), .int p4]) aj_d114 rfl (Nat.le_succ _) (fun _ => rfl) ?_
                  refine fx_b (tgt := 127) aj_d114 rfl (Nat.le_succ _) rfl (fun q22 => ?_) (fun q22 => ?_)
                  · skip
                    refine fx_qe (c := (p4).toInt < 1024) (fx_t_ge q22) ?_
                    show fx_W _ _ _ 127 lv20 [] _ _
                    refine fx_n (pc' := 128) (lv' := lv20) (st' := [.int (Int32.ofInt 0)]) aj_d114 rfl (Nat.le_succ _) (fun _ => rfl) ?_
                    exact fx_ri aj_d114 rfl ⟨_, rfl, 0, rfl, rfl⟩
                  · skip
                    refine fx_qi (c := (p4).toInt < 1024) (fx_f_ge q22) ?_
                    show fx_W _ _ _ 95 lv20 [] _ _
                    refine fx_i0 aj_d114 rfl (Nat.le_succ _) (fun _ => rfl) hlv20_6 ?_
                    refine fx_b0 (tgt := 127) aj_d114 rfl (Nat.le_succ _) rfl (fun q23 => ?_) (fun q23 => ?_)
                    · skip
                      refine fx_qi (c := (x14).toInt < 0) (fx_t_lt q23) ?_
                      show fx_W _ _ _ 127 lv20 [] _ _
                      refine fx_n (pc' := 128) (lv' := lv20) (st' := [.int (Int32.ofInt 0)]) aj_d114 rfl (Nat.le_succ _) (fun _ => rfl) ?_
                      exact fx_ri aj_d114 rfl ⟨_, rfl, 0, rfl, rfl⟩
                    · skip
                      refine fx_qe (c := (x14).toInt < 0) (fx_f_lt q23) ?_
                      show fx_W _ _ _ 100 lv20 [] _ _
                      refine fx_i0 aj_d114 rfl (Nat.le_succ _) (fun _ => rfl) hlv20_6 ?_
                      refine fx_n (pc' := 104) (lv' := lv20) (st' := [.int ((Int8.ofInt 8).toInt32), .int x14]) aj_d114 rfl (Nat.le_succ _) (fun _ => rfl) ?_
                      refine fx_b (tgt := 127) aj_d114 rfl (Nat.le_succ _) rfl (fun q24 => ?_) (fun q24 => ?_)
                      · skip
                        refine fx_qe (c := (x14).toInt < 8) (fx_t_ge q24) ?_
                        show fx_W _ _ _ 127 lv20 [] _ _
                        refine fx_n (pc' := 128) (lv' := lv20) (st' := [.int (Int32.ofInt 0)]) aj_d114 rfl (Nat.le_succ _) (fun _ => rfl) ?_
                        exact fx_ri aj_d114 rfl ⟨_, rfl, 0, rfl, rfl⟩
                      · skip
                        refine fx_qi (c := (x14).toInt < 8) (fx_f_ge q24) ?_
                        show fx_W _ _ _ 107 lv20 [] _ _
                        refine fx_i0 aj_d114 rfl (Nat.le_succ _) (fun _ => rfl) hlv20_7 ?_
                        refine fx_i3 aj_d114 rfl (Nat.le_succ _) (fun _ => rfl) hlv20_1 ?_
                        exact fx_d aj_d114 rfl (fun _ => rfl)
              · skip
                refine fx_qi (c := ((X.1 (p0 + 2) (x2).toInt.toNat)).toInt = 0) (fx_f_ne q18) ?_
                show fx_W _ _ _ 69 lv15 [] _ _
                refine fx_i0 aj_d114 rfl (Nat.le_succ _) (fun _ => rfl) hlv15_6 ?_
                exact fx_ri aj_d114 rfl ⟨_, rfl, 0, rfl, rfl⟩
            · skip
              refine fx_qe (c := (x2).toInt < 180) (fx_f_lt q11) ?_
              show fx_W _ _ _ 48 lv3 [] _ _
              refine fx_n (pc' := 49) (lv' := lv3) (st' := [.int (Int32.ofInt 0)]) aj_d114 rfl (Nat.le_succ _) (fun _ => rfl) ?_
              exact fx_ri aj_d114 rfl ⟨_, rfl, 0, rfl, rfl⟩
def gx_114_2 (p0 : Nat) (p1 : Nat) (p2 : Int32) (p3 : Int32) (p4 : Int32) (X : fx_X) (v : Int32) (X' : fx_X) : Prop :=
  ∃ x2 : Int32, x2 = ((p2 * ((Int8.ofInt 6).toInt32)) + p3) ∧ (if (p2).toInt < 0 then (v = (Int32.ofInt 0) ∧ X' = X) else ((if (p2).toInt < 30 then ((if (p3).toInt < 0 then (v = (Int32.ofInt 0) ∧ X' = X) else ((if (p3).toInt < 6 then ((if (x2).toInt < 180 then ((if (x2).toInt < 180 then ((0 ≤ (x2).toInt ∧ (x2).toInt < ((180 : Nat) : Int)) ∧ ∃ x14 : Int32, x14 = (X.1 (p0 + 1) (x2).toInt.toNat) ∧ (0 ≤ (x2).toInt ∧ (x2).toInt < ((180 : Nat) : Int)) ∧ (if ((X.1 (p0 + 2) (x2).toInt.toNat)).toInt = 0 then (v = x14 ∧ X' = X) else (∃ x19 : Int32, x19 = ((p4 * ((Int8.ofInt 8).toInt32)) + x14) ∧ (if (p4).toInt < 0 then (v = (Int32.ofInt 0) ∧ X' = X) else ((if (p4).toInt < 1024 then ((if (x14).toInt < 0 then (v = (Int32.ofInt 0) ∧ X' = X) else ((if (x14).toInt < 8 then ((if (x19).toInt < 8192 then ((0 ≤ (x19).toInt ∧ (x19).toInt < ((8192 : Nat) : Int)) ∧ v = (X.1 (p1 + 4) (x19).toInt.toNat) ∧ X' = X) else (v = (Int32.ofInt 0) ∧ X' = X))) else (v = (Int32.ofInt 0) ∧ X' = X))))) else (v = (Int32.ofInt 0) ∧ X' = X))))))) else (v = (Int32.ofInt 0) ∧ X' = X))) else (v = (Int32.ofInt 0) ∧ X' = X))) else (v = (Int32.ofInt 0) ∧ X' = X))))) else (v = (Int32.ofInt 0) ∧ X' = X))))
theorem gx_114_2_ok {tb : aj_T} (p0 : Nat) (p1 : Nat) (p2 : Int32) (p3 : Int32) (p4 : Int32) {X : fx_X} : fx_K tb 114 [.ref p0, .ref p1, .int p2, .int p3, .int p4] X (fx_Q fx_qI (fun v X' => gx_114_2 p0 p1 p2 p3 p4 X v X')) := by
  refine fx_m aj_m114_at rfl (fun N => ?_)
  refine fx_mono (Q := fx_Q fx_qI (fun v X' => ∃ n : Nat, gx_114_2 p0 p1 p2 p3 p4 X v X')) (fun r X' ⟨v, e, _, z⟩ => ⟨v, e, z⟩) ?_
  unfold gx_114_2
  show fx_W _ _ _ 0 [(0, .ref p0), (1, .ref p1), (2, .int p2), (3, .int p3), (4, .int p4)] [] _ _
  obtain ⟨lv1, elv1⟩ : ∃ l : aj_V, l = [(0, .ref p0), (1, .ref p1), (2, .int p2), (3, .int p3), (4, .int p4)] := ⟨_, rfl⟩
  rw [← elv1]
  have hlv1_0 : aj_lv lv1 0 = some (.ref p0) := by rw [elv1]; rfl
  have hlv1_1 : aj_lv lv1 1 = some (.ref p1) := by rw [elv1]; rfl
  have hlv1_2 : aj_lv lv1 2 = some (.int p2) := by rw [elv1]; rfl
  have hlv1_3 : aj_lv lv1 3 = some (.int p3) := by rw [elv1]; rfl
  have hlv1_4 : aj_lv lv1 4 = some (.int p4) := by rw [elv1]; rfl
  refine fx_i0 aj_d114 rfl (Nat.le_succ _) (fun _ => rfl) hlv1_2 ?_
  refine fx_n (pc' := 3) (lv' := lv1) (st' := [.int ((Int8.ofInt 6).toInt32), .int p2]) aj_d114 rfl (Nat.le_succ _) (fun _ => rfl) ?_
  refine fx_n (pc' := 4) (lv' := lv1) (st' := [.int (p2 * ((Int8.ofInt 6).toInt32))]) aj_d114 rfl (Nat.le_succ _) (fun _ => rfl) ?_
  refine fx_i0 aj_d114 rfl (Nat.le_succ _) (fun _ => rfl) hlv1_3 ?_
  refine fx_n (pc' := 6) (lv' := lv1) (st' := [.int ((p2 * ((Int8.ofInt 6).toInt32)) + p3)]) aj_d114 rfl (Nat.le_succ _) (fun _ => rfl) ?_
  refine fx_qxI (fun x2 ex2 => ?_)
  refine fx_s0 (j := 5) aj_d114 rfl (Nat.le_succ _) (by decide) (fun _ => rfl) ?_
  obtain ⟨lv3, elv3⟩ : ∃ l, l = aj_set1 lv1 5 (.int x2) := ⟨_, rfl⟩
  rw [← elv3]
  have hlv3_0 : aj_lv lv3 0 = some (.ref p0) := fx_e1 elv3 hlv1_0 (by decide) (Or.inl (by decide))
  have hlv3_1 : aj_lv lv3 1 = some (.ref p1) := fx_e1 elv3 hlv1_1 (by decide) (Or.inl (by decide))
  have hlv3_2 : aj_lv lv3 2 = some (.int p2) := fx_e1 elv3 hlv1_2 (by decide) (Or.inl (by decide))
  have hlv3_3 : aj_lv lv3 3 = some (.int p3) := fx_e1 elv3 hlv1_3 (by decide) (Or.inl (by decide))
  have hlv3_4 : aj_lv lv3 4 = some (.int p4) := fx_e1 elv3 hlv1_4 (by decide) (Or.inr rfl)
  have hlv3_5 : aj_lv lv3 5 = some (.int x2) := by rw [elv3]; exact ak_set1_eq _ _ _
  show fx_W _ _ _ 8 lv3 [] _ _
  refine fx_i0 aj_d114 rfl (Nat.le_succ _) (fun _ => rfl) hlv3_2 ?_
  refine fx_b0 (tgt := 48) aj_d114 rfl (Nat.le_succ _) rfl (fun q4 => ?_) (fun q4 => ?_)
  · skip
    refine fx_qi (c := (p2).toInt < 0) (fx_t_lt q4) ?_
    show fx_W _ _ _ 48 lv3 [] _ _
    refine fx_n (pc' := 49) (lv' := lv3) (st' := [.int (Int32.ofInt 0)]) aj_d114 rfl (Nat.le_succ _) (fun _ => rfl) ?_
    exact fx_ri aj_d114 rfl ⟨_, rfl, 0, rfl, rfl⟩
  · skip
    refine fx_qe (c := (p2).toInt < 0) (fx_f_lt q4) ?_
    show fx_W _ _ _ 12 lv3 [] _ _
    refine fx_i0 aj_d114 rfl (Nat.le_succ _) (fun _ => rfl) hlv3_2 ?_
    refine fx_n (pc' := 15) (lv' := lv3) (st' := [.int ((Int8.ofInt 30).toInt32), .int p2]) aj_d114 rfl (Nat.le_succ _) (fun _ => rfl) ?_
    refine fx_b (tgt := 48) aj_d114 rfl (Nat.le_succ _) rfl (fun q5 => ?_) (fun q5 => ?_)
    · skip
      refine fx_qe (c := (p2).toInt < 30) (fx_t_ge q5) ?_
      show fx_W _ _ _ 48 lv3 [] _ _
      refine fx_n (pc' := 49) (lv' := lv3) (st' := [.int (Int32.ofInt 0)]) aj_d114 rfl (Nat.le_succ _) (fun _ => rfl) ?_
      exact fx_ri aj_d114 rfl ⟨_, rfl, 0, rfl, rfl⟩
    · skip
      refine fx_qi (c := (p2).toInt < 30) (fx_f_ge q5) ?_
      show fx_W _ _ _ 18 lv3 [] _ _
      refine fx_i0 aj_d114 rfl (Nat.le_succ _) (fun _ => rfl) hlv3_3 ?_
      refine fx_b0 (tgt := 48) aj_d114 rfl (Nat.le_succ _) rfl (fun q6 => ?_) (fun q6 => ?_)
      · skip
        refine fx_qi (c := (p3).toInt < 0) (fx_t_lt q6) ?_
        show fx_W _ _ _ 48 lv3 [] _ _
        refine fx_n (pc' := 49) (lv' := lv3) (st' := [.int (Int32.ofInt 0)]) aj_d114 rfl (Nat.le_succ _) (fun _ => rfl) ?_
        exact fx_ri aj_d114 rfl ⟨_, rfl, 0, rfl, rfl⟩
      · skip
        refine fx_qe (c := (p3).toInt < 0) (fx_f_lt q6) ?_
        show fx_W _ _ _ 22 lv3 [] _ _
        refine fx_i0 aj_d114 rfl (Nat.le_succ _) (fun _ => rfl) hlv3_3 ?_
        refine fx_n (pc' := 25) (lv' := lv3) (st' := [.int ((Int8.ofInt 6).toInt32), .int p3]) aj_d114 rfl (Nat.le_succ _) (fun _ => rfl) ?_
        refine fx_b (tgt := 48) aj_d114 rfl (Nat.le_succ _) rfl (fun q7 => ?_) (fun q7 => ?_)
        · skip
          refine fx_qe (c := (p3).toInt < 6) (fx_t_ge q7) ?_
          show fx_W _ _ _ 48 lv3 [] _ _
          refine fx_n (pc' := 49) (lv' := lv3) (st' := [.int (Int32.ofInt 0)]) aj_d114 rfl (Nat.le_succ _) (fun _ => rfl) ?_
          exact fx_ri aj_d114 rfl ⟨_, rfl, 0, rfl, rfl⟩
        · skip
          refine fx_qi (c := (p3).toInt < 6) (fx_f_ge q7) ?_
          show fx_W _ _ _ 28 lv3 [] _ _
          refine fx_i0 aj_d114 rfl (Nat.le_succ _) (fun _ => rfl) hlv3_5 ?_
          refine fx_i2 aj_d114 rfl (Nat.le_succ _) (fun _ => rfl) hlv3_0 ?_
          refine fx_gF aj_d114 rfl (Nat.le_succ _) rfl rfl fx_in_6_0 (t := (p0 + 1)) rfl (fun hA8 => ?_)
          refine fx_al aj_d114 rfl (Nat.le_succ _) ?_
          rw [(hA8 : X.2.2.2.1 (p0 + 1) = (0, 180))]
          show fx_W _ _ _ 35 lv3 [.int (Int32.ofNat 180), .int x2] _ _
          refine fx_b (tgt := 48) aj_d114 rfl (Nat.le_succ _) rfl (fun q9 => ?_) (fun q9 => ?_)
          · skip
            refine fx_qe (c := (x2).toInt < 180) (fx_t_ge q9) ?_
            show fx_W _ _ _ 48 lv3 [] _ _
            refine fx_n (pc' := 49) (lv' := lv3) (st' := [.int (Int32.ofInt 0)]) aj_d114 rfl (Nat.le_succ _) (fun _ => rfl) ?_
            exact fx_ri aj_d114 rfl ⟨_, rfl, 0, rfl, rfl⟩
          · skip
            refine fx_qi (c := (x2).toInt < 180) (fx_f_ge q9) ?_
            show fx_W _ _ _ 38 lv3 [] _ _
            refine fx_i0 aj_d114 rfl (Nat.le_succ _) (fun _ => rfl) hlv3_5 ?_
            refine fx_i2 aj_d114 rfl (Nat.le_succ _) (fun _ => rfl) hlv3_0 ?_
            refine fx_gF aj_d114 rfl (Nat.le_succ _) rfl rfl fx_in_6_1 (t := (p0 + 2)) rfl (fun hA10 => ?_)
            refine fx_al aj_d114 rfl (Nat.le_succ _) ?_
            rw [(hA10 : X.2.2.2.1 (p0 + 2) = (2, 180))]
            show fx_W _ _ _ 45 lv3 [.int (Int32.ofNat 180), .int x2] _ _
            refine fx_b (tgt := 50) aj_d114 rfl (Nat.le_succ _) rfl (fun q11 => ?_) (fun q11 => ?_)
            · skip
              refine fx_qi (c := (x2).toInt < 180) (fx_t_lt q11) ?_
              show fx_W _ _ _ 50 lv3 [] _ _
              refine fx_i2 aj_d114 rfl (Nat.le_succ _) (fun _ => rfl) hlv3_0 ?_
              refine fx_gF aj_d114 rfl (Nat.le_succ _) rfl rfl fx_in_6_0 (t := (p0 + 1)) rfl (fun hA12 => ?_)
              refine fx_i0 aj_d114 rfl (Nat.le_succ _) (fun _ => rfl) hlv3_5 ?_
              refine fx_ld aj_d114 (Or.inl rfl) rfl (Nat.le_succ _) (fun g130 g131 => ?_)
              show fx_W _ _ _ 57 lv3 [.int (X.1 (p0 + 1) (x2).toInt.toNat)] _ _
              refine fx_qa (c := 0 ≤ (x2).toInt ∧ (x2).toInt < ((180 : Nat) : Int)) ⟨g130, fx_lnk g131 hA12⟩ ?_
              refine fx_qxI (fun x14 ex14 => ?_)
              refine fx_s0 (j := 6) aj_d114 rfl (Nat.le_succ _) (by decide) (fun _ => rfl) ?_
              obtain ⟨lv15, elv15⟩ : ∃ l, l = aj_set1 lv3 6 (.int x14) := ⟨_, rfl⟩
              rw [← elv15]
              have hlv15_0 : aj_lv lv15 0 = some (.ref p0) := fx_e1 elv15 hlv3_0 (by decide) (Or.inl (by decide))
              have hlv15_1 : aj_lv lv15 1 = some (.ref p1) := fx_e1 elv15 hlv3_1 (by decide) (Or.inl (by decide))
              have hlv15_4 : aj_lv lv15 4 = some (.int p4) := fx_e1 elv15 hlv3_4 (by decide) (Or.inl (by decide))
              have hlv15_5 : aj_lv lv15 5 = some (.int x2) := fx_e1 elv15 hlv3_5 (by decide) (Or.inr rfl)
              have hlv15_6 : aj_lv lv15 6 = some (.int x14) := by rw [elv15]; exact ak_set1_eq _ _ _
              show fx_W _ _ _ 59 lv15 [] _ _
              refine fx_i2 aj_d114 rfl (Nat.le_succ _) (fun _ => rfl) hlv15_0 ?_
              refine fx_gF aj_d114 rfl (Nat.le_succ _) rfl rfl fx_in_6_1 (t := (p0 + 2)) rfl (fun hA16 => ?_)
              refine fx_i0 aj_d114 rfl (Nat.le_succ _) (fun _ => rfl) hlv15_5 ?_
              refine fx_ld aj_d114 (Or.inr (Or.inr rfl)) rfl (Nat.le_succ _) (fun g170 g171 => ?_)
              show fx_W _ _ _ 66 lv15 [.int (X.1 (p0 + 2) (x2).toInt.toNat)] _ _
              refine fx_qa (c := 0 ≤ (x2).toInt ∧ (x2).toInt < ((180 : Nat) : Int)) ⟨g170, fx_lnk g171 hA16⟩ ?_
              refine fx_b0 (tgt := 72) aj_d114 rfl (Nat.le_succ _) rfl (fun q18 => ?_) (fun q18 => ?_)
              · skip
                refine fx_qe (c := ((X.1 (p0 + 2) (x2).toInt.toNat)).toInt = 0) (fx_t_ne q18) ?_
                show fx_W _ _ _ 72 lv15 [] _ _
                refine fx_i0 aj_d114 rfl (Nat.le_succ _) (fun _ => rfl) hlv15_4 ?_
                refine fx_n (pc' := 76) (lv' := lv15) (st' := [.int ((Int8.ofInt 8).toInt32), .int p4]) aj_d114 rfl (Nat.le_succ _) (fun _ => rfl) ?_
                refine fx_n (pc' := 77) (lv' := lv15) (st' := [.int (p4 * ((Int8.ofInt 8).toInt32))]) aj_d114 rfl (Nat.le_succ _) (fun _ => rfl) ?_
                refine fx_i0 aj_d114 rfl (Nat.le_succ _) (fun _ => rfl) hlv15_6 ?_
                refine fx_n (pc' := 80) (lv' := lv15) (st' := [.int ((p4 * ((Int8.ofInt 8).toInt32)) + x14)]) aj_d114 rfl (Nat.le_succ _) (fun _ => rfl) ?_
                refine fx_qxI (fun x19 ex19 => ?_)
                refine fx_s0 (j := 7) aj_d114 rfl (Nat.le_succ _) (by decide) (fun _ => rfl) ?_
                obtain ⟨lv20, elv20⟩ : ∃ l, l = aj_set1 lv15 7 (.int x19) := ⟨_, rfl⟩
                rw [← elv20]
                have hlv20_1 : aj_lv lv20 1 = some (.ref p1) := fx_e1 elv20 hlv15_1 (by decide) (Or.inl (by decide))
                have hlv20_4 : aj_lv lv20 4 = some (.int p4) := fx_e1 elv20 hlv15_4 (by decide) (Or.inl (by decide))
                have hlv20_6 : aj_lv lv20 6 = some (.int x14) := fx_e1 elv20 hlv15_6 (by decide) (Or.inr rfl)
                have hlv20_7 : aj_lv lv20 7 = some (.int x19) := by rw [elv20]; exact ak_set1_eq _ _ _
                show fx_W _ _ _ 82 lv20 [] _ _
                refine fx_i0 aj_d114 rfl (Nat.le_succ _) (fun _ => rfl) hlv20_4 ?_
                refine fx_b0 (tgt := 127) aj_d114 rfl (Nat.le_succ _) rfl (fun q21 => ?_) (fun q21 => ?_)
                · skip
                  refine fx_qi (c := (p4).toInt < 0) (fx_t_lt q21) ?_
                  show fx_W _ _ _ 127 lv20 [] _ _
                  refine fx_n (pc' := 128) (lv' := lv20) (st' := [.int (Int32.ofInt 0)]) aj_d114 rfl (Nat.le_succ _) (fun _ => rfl) ?_
                  exact fx_ri aj_d114 rfl ⟨_, rfl, 0, rfl, rfl⟩
                · skip
                  refine fx_qe (c := (p4).toInt < 0) (fx_f_lt q21) ?_
                  show fx_W _ _ _ 87 lv20 [] _ _
                  refine fx_i0 aj_d114 rfl (Nat.le_succ _) (fun _ => rfl) hlv20_4 ?_
                  refine fx_n (pc' := 92) (lv' := lv20) (st' := [.int ((Int16.ofInt 1024).toInt32), .int p4]) aj_d114 rfl (Nat.le_succ _) (fun _ => rfl) ?_
                  refine fx_b (tgt := 127) aj_d114 rfl (Nat.le_succ _) rfl (fun q22 => ?_) (fun q22 => ?_)
                  · skip
                    refine fx_qe (c := (p4).toInt < 1024) (fx_t_ge q22) ?_
                    show fx_W _ _ _ 127 lv20 [] _ _
                    refine fx_n (pc' := 128) (lv' := lv20) (st' := [.int (Int32.ofInt 0)]) aj_d114 rfl (Nat.le_succ _) (fun _ => rfl) ?_
                    exact fx_ri aj_d114 rfl ⟨_, rfl, 0, rfl, rfl⟩
                  · skip
                    refine fx_qi (c := (p4).toInt < 1024) (fx_f_ge q22) ?_
                    show fx_W _ _ _ 95 lv20 [] _ _
                    refine fx_i0 aj_d114 rfl (Nat.le_succ _) (fun _ => rfl) hlv20_6 ?_
                    refine fx_b0 (tgt := 127) aj_d114 rfl (Nat.le_succ _) rfl (fun q23 => ?_) (fun q23 => ?_)
                    · skip
                      refine fx_qi (c := (x14).toInt < 0) (fx_t_lt q23) ?_
                      show fx_W _ _ _ 127 lv20 [] _ _
                      refine fx_n (pc' := 128) (lv' := lv20) (st' := [.int (Int32.ofInt 0)]) aj_d114 rfl (Nat.le_succ _) (fun _ => rfl) ?_
                      exact fx_ri aj_d114 rfl ⟨_, rfl, 0, rfl, rfl⟩
                    · skip
                      refine fx_qe (c := (x14).toInt < 0) (fx_f_lt q23) ?_
                      show fx_W _ _ _ 100 lv20 [] _ _
                      refine fx_i0 aj_d114 rfl (Nat.le_succ _) (fun _ => rfl) hlv20_6 ?_
                      refine fx_n (pc' := 104) (lv' := lv20) (st' := [.int ((Int8.ofInt 8).toInt32), .int x14]) aj_d114 rfl (Nat.le_succ _) (fun _ => rfl) ?_
                      refine fx_b (tgt := 127) aj_d114 rfl (Nat.le_succ _) rfl (fun q24 => ?_) (fun q24 => ?_)
                      · skip
                        refine fx_qe (c := (x14).toInt < 8) (fx_t_ge q24) ?_
                        show fx_W _ _ _ 127 lv20 [] _ _
                        refine fx_n (pc' := 128) (lv' := lv20) (st' := [.int (Int32.ofInt 0)]) aj_d114 rfl (Nat.le_succ _) (fun _ => rfl) ?_
                        exact fx_ri aj_d114 rfl ⟨_, rfl, 0, rfl, rfl⟩
                      · skip
                        refine fx_qi (c := (x14).toInt < 8) (fx_f_ge q24) ?_
                        show fx_W _ _ _ 107 lv20 [] _ _
                        refine fx_i0 aj_d114 rfl (Nat.le_succ _) (fun _ => rfl) hlv20_7 ?_
                        refine fx_i2 aj_d114 rfl (Nat.le_succ _) (fun _ => rfl) hlv20_1 ?_
                        refine fx_gF aj_d114 rfl (Nat.le_succ _) rfl rfl fx_in_7_3 (t := (p1 + 4)) rfl (fun hA25 => ?_)
                        refine fx_al aj_d114 rfl (Nat.le_succ _) ?_
                        rw [(hA25 : X.2.2.2.1 (p1 + 4) = (0, 8192))]
                        show fx_W _ _ _ 114 lv20 [.int (Int32.ofNat 8192), .int x19] _ _
                        refine fx_b (tgt := 127) aj_d114 rfl (Nat.le_succ _) rfl (fun q26 => ?_) (fun q26 => ?_)
                        · skip
                          refine fx_qe (c := (x19).toInt < 8192) (fx_t_ge q26) ?_
                          show fx_W _ _ _ 127 lv20 [] _ _
                          refine fx_n (pc' := 128) (lv' := lv20) (st' := [.int (Int32.ofInt 0)]) aj_d114 rfl (Nat.le_succ _) (fun _ => rfl) ?_
                          exact fx_ri aj_d114 rfl ⟨_, rfl, 0, rfl, rfl⟩
                        · skip
                          refine fx_qi (c := (x19).toInt < 8192) (fx_f_ge q26) ?_
                          show fx_W _ _ _ 117 lv20 [] _ _
                          refine fx_i2 aj_d114 rfl (Nat.le_succ _) (fun _ => rfl) hlv20_1 ?_
                          refine fx_gF aj_d114 rfl (Nat.le_succ _) rfl rfl fx_in_7_3 (t := (p1 + 4)) rfl (fun hA27 => ?_)
                          refine fx_i0 aj_d114 rfl (Nat.le_succ _) (fun _ => rfl) hlv20_7 ?_
                          refine fx_ld aj_d114 (Or.inl rfl) rfl (Nat.le_succ _) (fun g280 g281 => ?_)
                          show fx_W _ _ _ 124 lv20 [.int (X.1 (p1 + 4) (x19).toInt.toNat)] _ _
                          refine fx_qa (c := 0 ≤ (x19).toInt ∧ (x19).toInt < ((8192 : Nat) : Int)) ⟨g280, fx_lnk g281 hA27⟩ ?_
                          refine fx_n (pc' := 128) (lv' := lv20) (st' := [.int (X.1 (p1 + 4) (x19).toInt.toNat)]) aj_d114 rfl (Nat.le_succ _) (fun _ => rfl) ?_
                          exact fx_ri aj_d114 rfl ⟨_, rfl, 0, rfl, rfl⟩
              · skip
                refine fx_qi (c := ((X.1 (p0 + 2) (x2).toInt.toNat)).toInt = 0) (fx_f_ne q18) ?_
                show fx_W _ _ _ 69 lv15 [] _ _
                refine fx_i0 aj_d114 rfl (Nat.le_succ _) (fun _ => rfl) hlv15_6 ?_
                exact fx_ri aj_d114 rfl ⟨_, rfl, 0, rfl, rfl⟩
            · skip
              refine fx_qe (c := (x2).toInt < 180) (fx_f_lt q11) ?_
              show fx_W _ _ _ 48 lv3 [] _ _
              refine fx_n (pc' := 49) (lv' := lv3) (st' := [.int (Int32.ofInt 0)]) aj_d114 rfl (Nat.le_succ _) (fun _ => rfl) ?_
              exact fx_ri aj_d114 rfl ⟨_, rfl, 0, rfl, rfl⟩
def gx_124 (p0 : Nat) (p1 : Int32) (p2 : Int32) (X : fx_X) (v : Int32) (X' : fx_X) : Prop :=
  ∃ x2 : Int32, x2 = ((p1 * ((Int8.ofInt 8).toInt32)) + p2) ∧ (if (p1).toInt < 0 then (v = (Int32.ofInt 0) ∧ X' = X) else ((if (p1).toInt < 1024 then ((if (p2).toInt < 0 then (v = (Int32.ofInt 0) ∧ X' = X) else ((if (p2).toInt < 8 then ((if (x2).toInt < 8192 then ((0 ≤ (x2).toInt ∧ (x2).toInt < ((8192 : Nat) : Int)) ∧ v = (X.1 (p0 + 4) (x2).toInt.toNat) ∧ X' = X) else (v = (Int32.ofInt 0) ∧ X' = X))) else (v = (Int32.ofInt 0) ∧ X' = X))))) else (v = (Int32.ofInt 0) ∧ X' = X))))
theorem gx_124_ok {tb : aj_T} (p0 : Nat) (p1 : Int32) (p2 : Int32) {X : fx_X} : fx_K tb 124 [.ref p0, .int p1, .int p2] X (fx_Q fx_qI (fun v X' => gx_124 p0 p1 p2 X v X')) := by
  refine fx_m aj_m124_at rfl (fun N => ?_)
  refine fx_mono (Q := fx_Q fx_qI (fun v X' => ∃ n : Nat, gx_124 p0 p1 p2 X v X')) (fun r X' ⟨v, e, _, z⟩ => ⟨v, e, z⟩) ?_
  unfold gx_124
  show fx_W _ _ _ 0 [(0, .ref p0), (1, .int p1), (2, .int p2)] [] _ _
  obtain ⟨lv1, elv1⟩ : ∃ l : aj_V, l = [(0, .ref p0), (1, .int p1), (2, .int p2)] := ⟨_, rfl⟩
  rw [← elv1]
  have hlv1_0 : aj_lv lv1 0 = some (.ref p0) := by rw [elv1]; rfl
  have hlv1_1 : aj_lv lv1 1 = some (.int p1) := by rw [elv1]; rfl
  have hlv1_2 : aj_lv lv1 2 = some (.int p2) := by rw [elv1]; rfl
  refine fx_i0 aj_d124 rfl (Nat.le_succ _) (fun _ => rfl) hlv1_1 ?_
  refine fx_n (pc' := 3) (lv' := lv1) (st' := [.int ((Int8.ofInt 8).toInt32), .int p1]) aj_d124 rfl (Nat.le_succ _) (fun _ => rfl) ?_
  refine fx_n (pc' := 4) (lv' := lv1) (st' := [.int (p1 * ((Int8.ofInt 8).toInt32))]) aj_d124 rfl (Nat.le_succ _) (fun _ => rfl) ?_
  refine fx_i0 aj_d124 rfl (Nat.le_succ _) (fun _ => rfl) hlv1_2 ?_
  refine fx_n (pc' := 6) (lv' := lv1) (st' := [.int ((p1 * ((Int8.ofInt 8).toInt32)) + p2)]) aj_d124 rfl (Nat.le_succ _) (fun _ => rfl) ?_
  refine fx_qxI (fun x2 ex2 => ?_)
  refine fx_s0 (j := 3) aj_d124 rfl (Nat.le_succ _) (by decide) (fun _ => rfl) ?_
  obtain ⟨lv3, elv3⟩ : ∃ l, l = aj_set1 lv1 3 (.int x2) := ⟨_, rfl⟩
  rw [← elv3]
  have hlv3_0 : aj_lv lv3 0 = some (.ref p0) := fx_e1 elv3 hlv1_0 (by decide) (Or.inl (by decide))
  have hlv3_1 : aj_lv lv3 1 = some (.int p1) := fx_e1 elv3 hlv1_1 (by decide) (Or.inl (by decide))
  have hlv3_2 : aj_lv lv3 2 = some (.int p2) := fx_e1 elv3 hlv1_2 (by decide) (Or.inr rfl)
  have hlv3_3 : aj_lv lv3 3 = some (.int x2) := by rw [elv3]; exact ak_set1_eq _ _ _
  show fx_W _ _ _ 7 lv3 [] _ _
  refine fx_i0 aj_d124 rfl (Nat.le_succ _) (fun _ => rfl) hlv3_1 ?_
  refine fx_b0 (tgt := 46) aj_d124 rfl (Nat.le_succ _) rfl (fun q4 => ?_) (fun q4 => ?_)
  · skip
    refine fx_qi (c := (p1).toInt < 0) (fx_t_lt q4) ?_
    show fx_W _ _ _ 46 lv3 [] _ _
    refine fx_n (pc' := 47) (lv' := lv3) (st' := [.int (Int32.ofInt 0)]) aj_d124 rfl (Nat.le_succ _) (fun _ => rfl) ?_
    exact fx_ri aj_d124 rfl ⟨_, rfl, 0, rfl, rfl⟩
  · skip
    refine fx_qe (c := (p1).toInt < 0) (fx_f_lt q4) ?_
    show fx_W _ _ _ 11 lv3 [] _ _
    refine fx_i0 aj_d124 rfl (Nat.le_succ _) (fun _ => rfl) hlv3_1 ?_
    refine fx_n (pc' := 15) (lv' := lv3) (st' := [.int ((Int16.ofInt 1024).toInt32), .int p1]) aj_d124 rfl (Nat.le_succ _) (fun _ => rfl) ?_
    refine fx_b (tgt := 46) aj_d124 rfl (Nat.le_succ _) rfl (fun q5 => ?_) (fun q5 => ?_)
    · skip
      refine fx_qe (c := (p1).toInt < 1024) (fx_t_ge q5) ?_
      show fx_W _ _ _ 46 lv3 [] _ _
      refine fx_n (pc' := 47) (lv' := lv3) (st' := [.int (Int32.ofInt 0)]) aj_d124 rfl (Nat.le_succ _) (fun _ => rfl) ?_
      exact fx_ri aj_d124 rfl ⟨_, rfl, 0, rfl, rfl⟩
    · skip
      refine fx_qi (c := (p1).toInt < 1024) (fx_f_ge q5) ?_
      show fx_W _ _ _ 18 lv3 [] _ _
      refine fx_i0 aj_d124 rfl (Nat.le_succ _) (fun _ => rfl) hlv3_2 ?_
      refine fx_b0 (tgt := 46) aj_d124 rfl (Nat.le_succ _) rfl (fun q6 => ?_) (fun q6 => ?_)
      · skip
        refine fx_qi (c := (p2).toInt < 0) (fx_t_lt q6) ?_
        show fx_W _ _ _ 46 lv3 [] _ _
        refine fx_n (pc' := 47) (lv' := lv3) (st' := [.int (Int32.ofInt 0)]) aj_d124 rfl (Nat.le_succ _) (fun _ => rfl) ?_
        exact fx_ri aj_d124 rfl ⟨_, rfl, 0, rfl, rfl⟩
      · skip
        refine fx_qe (c := (p2).toInt < 0) (fx_f_lt q6) ?_
        show fx_W _ _ _ 22 lv3 [] _ _
        refine fx_i0 aj_d124 rfl (Nat.le_succ _) (fun _ => rfl) hlv3_2 ?_
        refine fx_n (pc' := 25) (lv' := lv3) (st' := [.int ((Int8.ofInt 8).toInt32), .int p2]) aj_d124 rfl (Nat.le_succ _) (fun _ => rfl) ?_
        refine fx_b (tgt := 46) aj_d124 rfl (Nat.le_succ _) rfl (fun q7 => ?_) (fun q7 => ?_)
        · skip
          refine fx_qe (c := (p2).toInt < 8) (fx_t_ge q7) ?_
          show fx_W _ _ _ 46 lv3 [] _ _
          refine fx_n (pc' := 47) (lv' := lv3) (st' := [.int (Int32.ofInt 0)]) aj_d124 rfl (Nat.le_succ _) (fun _ => rfl) ?_
          exact fx_ri aj_d124 rfl ⟨_, rfl, 0, rfl, rfl⟩
        · skip
          refine fx_qi (c := (p2).toInt < 8) (fx_f_ge q7) ?_
          show fx_W _ _ _ 28 lv3 [] _ _
          refine fx_i0 aj_d124 rfl (Nat.le_succ _) (fun _ => rfl) hlv3_3 ?_
          refine fx_i2 aj_d124 rfl (Nat.le_succ _) (fun _ => rfl) hlv3_0 ?_
          refine fx_gF aj_d124 rfl (Nat.le_succ _) rfl rfl fx_in_7_3 (t := (p0 + 4)) rfl (fun hA8 => ?_)
          refine fx_al aj_d124 rfl (Nat.le_succ _) ?_
          rw [(hA8 : X.2.2.2.1 (p0 + 4) = (0, 8192))]
          show fx_W _ _ _ 34 lv3 [.int (Int32.ofNat 8192), .int x2] _ _
          refine fx_b (tgt := 46) aj_d124 rfl (Nat.le_succ _) rfl (fun q9 => ?_) (fun q9 => ?_)
          · skip
            refine fx_qe (c := (x2).toInt < 8192) (fx_t_ge q9) ?_
            show fx_W _ _ _ 46 lv3 [] _ _
            refine fx_n (pc' := 47) (lv' := lv3) (st' := [.int (Int32.ofInt 0)]) aj_d124 rfl (Nat.le_succ _) (fun _ => rfl) ?_
            exact fx_ri aj_d124 rfl ⟨_, rfl, 0, rfl, rfl⟩
          · skip
            refine fx_qi (c := (x2).toInt < 8192) (fx_f_ge q9) ?_
            show fx_W _ _ _ 37 lv3 [] _ _
            refine fx_i2 aj_d124 rfl (Nat.le_succ _) (fun _ => rfl) hlv3_0 ?_
            refine fx_gF aj_d124 rfl (Nat.le_succ _) rfl rfl fx_in_7_3 (t := (p0 + 4)) rfl (fun hA10 => ?_)
            refine fx_i0 aj_d124 rfl (Nat.le_succ _) (fun _ => rfl) hlv3_3 ?_
            refine fx_ld aj_d124 (Or.inl rfl) rfl (Nat.le_succ _) (fun g110 g111 => ?_)
            show fx_W _ _ _ 43 lv3 [.int (X.1 (p0 + 4) (x2).toInt.toNat)] _ _
            refine fx_qa (c := 0 ≤ (x2).toInt ∧ (x2).toInt < ((8192 : Nat) : Int)) ⟨g110, fx_lnk g111 hA10⟩ ?_
            refine fx_n (pc' := 47) (lv' := lv3) (st' := [.int (X.1 (p0 + 4) (x2).toInt.toNat)]) aj_d124 rfl (Nat.le_succ _) (fun _ => rfl) ?_
            exact fx_ri aj_d124 rfl ⟨_, rfl, 0, rfl, rfl⟩
def gx_123 (p1 : Int32) (p2 : Int32) (p3 : Nat) (p4 : Int32) (p5 : Int32) (X : fx_X) (v : Int32) (X' : fx_X) : Prop :=
  (if (p1).toInt = 0 then (v = p2 ∧ X' = X) else ((if (p1).toInt = 1 then (∃ b11 : Nat, X.2.2.1 95 7 = some b11 ∧ ∃ (w13 : Int32) (X12 : fx_X), gx_124 b11 p5 p2 X w13 X12 ∧ v = w13 ∧ X' = X12) else (((X.2.2.1 95 7 = none ∧ ∃ (w7 : Int32) (X6 : fx_X), gx_114_1 p3 p4 p2 p5 X w7 X6 ∧ v = w7 ∧ X' = X6) ∨ (∃ b5 : Nat, X.2.2.1 95 7 = some b5 ∧ ∃ (w9 : Int32) (X8 : fx_X), gx_114_2 p3 b5 p4 p2 p5 X w9 X8 ∧ v = w9 ∧ X' = X8))))))
theorem gx_123_ok {tb : aj_T} (p1 : Int32) (p2 : Int32) (p3 : Nat) (p4 : Int32) (p5 : Int32) {X : fx_X} : fx_K tb 123 [.ref 95, .int p1, .int p2, .ref p3, .int p4, .int p5] X (fx_Q fx_qI (fun v X' => gx_123 p1 p2 p3 p4 p5 X v X')) := by
  refine fx_m aj_m123_at rfl (fun N => ?_)
  refine fx_mono (Q := fx_Q fx_qI (fun v X' => ∃ n : Nat, gx_123 p1 p2 p3 p4 p5 X v X')) (fun r X' ⟨v, e, _, z⟩ => ⟨v, e, z⟩) ?_
  unfold gx_123
  show fx_W _ _ _ 0 [(0, .ref 95), (1, .int p1), (2, .int p2), (3, .ref p3), (4, .int p4), (5, .int p5)] [] _ _
  obtain ⟨lv1, elv1⟩ : ∃ l : aj_V, l = [(0, .ref 95), (1, .int p1), (2, .int p2), (3, .ref p3), (4, .int p4), (5, .int p5)] := ⟨_, rfl⟩
  rw [← elv1]
  have hlv1_0 : aj_lv lv1 0 = some (.ref 95) := by rw [elv1]; rfl
  have hlv1_1 : aj_lv lv1 1 = some (.int p1) := by rw [elv1]; rfl
  have hlv1_2 : aj_lv lv1 2 = some (.int p2) := by rw [elv1]; rfl
  have hlv1_3 : aj_lv lv1 3 = some (.ref p3) := by rw [elv1]; rfl
  have hlv1_4 : aj_lv lv1 4 = some (.int p4) := by rw [elv1]; rfl
  have hlv1_5 : aj_lv lv1 5 = some (.int p5) := by rw [elv1]; rfl
  refine fx_i0 aj_d123 rfl (Nat.le_succ _) (fun _ => rfl) hlv1_1 ?_
  refine fx_b0 (tgt := 8) aj_d123 rfl (Nat.le_succ _) rfl (fun q2 => ?_) (fun q2 => ?_)
  · skip
    refine fx_qe (c := (p1).toInt = 0) (fx_t_ne q2) ?_
    show fx_W _ _ _ 8 lv1 [] _ _
    refine fx_i0 aj_d123 rfl (Nat.le_succ _) (fun _ => rfl) hlv1_1 ?_
    refine fx_n (pc' := 10) (lv' := lv1) (st' := [.int (Int32.ofInt 1), .int p1]) aj_d123 rfl (Nat.le_succ _) (fun _ => rfl) ?_
    refine fx_b (tgt := 26) aj_d123 rfl (Nat.le_succ _) rfl (fun q3 => ?_) (fun q3 => ?_)
    · skip
      refine fx_qe (c := (p1).toInt = 1) (fx_t_ne q3) ?_
      show fx_W _ _ _ 26 lv1 [] _ _
      refine fx_i2 aj_d123 rfl (Nat.le_succ _) (fun _ => rfl) hlv1_3 ?_
      refine fx_i2 aj_d123 rfl (Nat.le_succ _) (fun _ => rfl) hlv1_0 ?_
      refine fx_gR aj_d123 rfl (Nat.le_succ _) rfl rfl (Or.inl ⟨_, rfl⟩) (fun q4 _ => ?_) (fun b5 q4 => ?_)
      · skip
        refine fx_o1 (fx_qa (c := X.2.2.1 95 7 = none) q4 ?_)
        show fx_W _ _ _ 31 lv1 [.null, .ref p3] _ _
        refine fx_i0 aj_d123 rfl (Nat.le_succ _) (fun _ => rfl) hlv1_4 ?_
        refine fx_i0 aj_d123 rfl (Nat.le_succ _) (fun _ => rfl) hlv1_2 ?_
        refine fx_i0 aj_d123 rfl (Nat.le_succ _) (fun _ => rfl) hlv1_5 ?_
        refine fx_cv aj_d123 rfl (Nat.le_succ _) rfl [_, _, _, _] rfl rfl (gx_114_1_ok p3 p4 p2 p5) ?_
        rintro _ X6 ⟨w7, rfl, hR6⟩ hok6 hle6
        refine fx_qc hR6 ?_
        show fx_W _ _ _ 39 lv1 [.int w7] _ _
        exact fx_ri aj_d123 rfl ⟨_, rfl, 0, rfl, rfl⟩
      · skip
        refine fx_o2 (fx_qs q4 ?_)
        show fx_W _ _ _ 31 lv1 [.ref b5, .ref p3] _ _
        refine fx_i0 aj_d123 rfl (Nat.le_succ _) (fun _ => rfl) hlv1_4 ?_
        refine fx_i0 aj_d123 rfl (Nat.le_succ _) (fun _ => rfl) hlv1_2 ?_
        refine fx_i0 aj_d123 rfl (Nat.le_succ _) (fun _ => rfl) hlv1_5 ?_
        refine fx_cv aj_d123 rfl (Nat.le_succ _) rfl [_, _, _, _] rfl rfl (gx_114_2_ok p3 b5 p4 p2 p5) ?_
        rintro _ X8 ⟨w9, rfl, hR8⟩ hok8 hle8
        refine fx_qc hR8 ?_
        show fx_W _ _ _ 39 lv1 [.int w9] _ _
        exact fx_ri aj_d123 rfl ⟨_, rfl, 0, rfl, rfl⟩
    · skip
      refine fx_qi (c := (p1).toInt = 1) (fx_f_ne q3) ?_
      show fx_W _ _ _ 13 lv1 [] _ _
      refine fx_i2 aj_d123 rfl (Nat.le_succ _) (fun _ => rfl) hlv1_0 ?_
      refine fx_gR aj_d123 rfl (Nat.le_succ _) rfl rfl (Or.inl ⟨_, rfl⟩) (fun q10 _ => ?_) (fun b11 q10 => ?_)
      · skip
        show fx_W _ _ _ 17 lv1 [.null] _ _
        refine fx_i0 aj_d123 rfl (Nat.le_succ _) (fun _ => rfl) hlv1_5 ?_
        refine fx_i0 aj_d123 rfl (Nat.le_succ _) (fun _ => rfl) hlv1_2 ?_
        exact fx_d aj_d123 rfl (fun _ => rfl)
      · skip
        refine fx_qs q10 ?_
        show fx_W _ _ _ 17 lv1 [.ref b11] _ _
        refine fx_i0 aj_d123 rfl (Nat.le_succ _) (fun _ => rfl) hlv1_5 ?_
        refine fx_i0 aj_d123 rfl (Nat.le_succ _) (fun _ => rfl) hlv1_2 ?_
        refine fx_cv aj_d123 rfl (Nat.le_succ _) rfl [_, _] rfl rfl (gx_124_ok b11 p5 p2) ?_
        rintro _ X12 ⟨w13, rfl, hR12⟩ hok12 hle12
        refine fx_qc hR12 ?_
        show fx_W _ _ _ 23 lv1 [.int w13] _ _
        refine fx_n (pc' := 39) (lv' := lv1) (st' := [.int w13]) aj_d123 rfl (Nat.le_succ _) (fun _ => rfl) ?_
        exact fx_ri aj_d123 rfl ⟨_, rfl, 0, rfl, rfl⟩
  · skip
    refine fx_qi (c := (p1).toInt = 0) (fx_f_ne q2) ?_
    show fx_W _ _ _ 4 lv1 [] _ _
    refine fx_i0 aj_d123 rfl (Nat.le_succ _) (fun _ => rfl) hlv1_2 ?_
    refine fx_n (pc' := 39) (lv' := lv1) (st' := [.int p2]) aj_d123 rfl (Nat.le_succ _) (fun _ => rfl) ?_
    exact fx_ri aj_d123 rfl ⟨_, rfl, 0, rfl, rfl⟩
def gx_122 (p1 : Nat) (p2 : Int32) (p3 : Int32) (X : fx_X) (v : Int32) (X' : fx_X) : Prop :=
  ∃ (w3 : Int32) (X2 : fx_X), gx_123 (X.1 95 8) (X.1 95 9) p1 p2 p3 X w3 X2 ∧ ∃ (w6 : Int32) (X5 : fx_X), gx_123 (X2.1 95 10) (X2.1 95 11) p1 p2 p3 X2 w6 X5 ∧ (if ((X5.1 95 12)).toInt = 6 then ((if (w3).toInt = (w6).toInt then (v = (Int32.ofInt 0) ∧ X' = X5) else (v = (Int32.ofInt 1) ∧ X' = X5))) else ((if ((X5.1 95 12)).toInt = 60 then ((if (w3).toInt < (w6).toInt then (v = (Int32.ofInt 1) ∧ X' = X5) else (v = (Int32.ofInt 0) ∧ X' = X5))) else ((if ((X5.1 95 12)).toInt = 61 then ((if (w3).toInt = (w6).toInt then (v = (Int32.ofInt 1) ∧ X' = X5) else (v = (Int32.ofInt 0) ∧ X' = X5))) else ((if (w6).toInt < (w3).toInt then (v = (Int32.ofInt 0) ∧ X' = X5) else (v = (Int32.ofInt 1) ∧ X' = X5))))))))
theorem gx_122_ok {tb : aj_T} (p1 : Nat) (p2 : Int32) (p3 : Int32) {X : fx_X} : fx_K tb 122 [.ref 95, .ref p1, .int p2, .int p3] X (fx_Q fx_qI (fun v X' => gx_122 p1 p2 p3 X v X')) := by
  refine fx_m aj_m122_at rfl (fun N => ?_)
  refine fx_mono (Q := fx_Q fx_qI (fun v X' => ∃ n : Nat, gx_122 p1 p2 p3 X v X')) (fun r X' ⟨v, e, _, z⟩ => ⟨v, e, z⟩) ?_
  unfold gx_122
  show fx_W _ _ _ 0 [(0, .ref 95), (1, .ref p1), (2, .int p2), (3, .int p3)] [] _ _
  obtain ⟨lv1, elv1⟩ : ∃ l : aj_V, l = [(0, .ref 95), (1, .ref p1), (2, .int p2), (3, .int p3)] := ⟨_, rfl⟩
  rw [← elv1]
  have hlv1_0 : aj_lv lv1 0 = some (.ref 95) := by rw [elv1]; rfl
  have hlv1_1 : aj_lv lv1 1 = some (.ref p1) := by rw [elv1]; rfl
  have hlv1_2 : aj_lv lv1 2 = some (.int p2) := by rw [elv1]; rfl
  have hlv1_3 : aj_lv lv1 3 = some (.int p3) := by rw [elv1]; rfl
  refine fx_i2 aj_d122 rfl (Nat.le_succ _) (fun _ => rfl) hlv1_0 ?_
  refine fx_i2 aj_d122 rfl (Nat.le_succ _) (fun _ => rfl) hlv1_0 ?_
  refine fx_gI aj_d122 rfl (Nat.le_succ _) rfl rfl (Or.inl rfl) ?_
  refine fx_i2 aj_d122 rfl (Nat.le_succ _) (fun _ => rfl) hlv1_0 ?_
  refine fx_gI aj_d122 rfl (Nat.le_succ _) rfl rfl (Or.inl rfl) ?_
  refine fx_i2 aj_d122 rfl (Nat.le_succ _) (fun _ => rfl) hlv1_1 ?_
  refine fx_i0 aj_d122 rfl (Nat.le_succ _) (fun _ => rfl) hlv1_2 ?_
  refine fx_i0 aj_d122 rfl (Nat.le_succ _) (fun _ => rfl) hlv1_3 ?_
  refine fx_cv aj_d122 rfl (Nat.le_succ _) rfl [_, _, _, _, _] rfl rfl (gx_123_ok (X.1 95 8) (X.1 95 9) p1 p2 p3) ?_
  rintro _ X2 ⟨w3, rfl, hR2⟩ hok2 hle2
  refine fx_qc hR2 ?_
  show fx_W _ _ _ 15 lv1 [.int w3] _ _
  refine fx_s0 (j := 4) aj_d122 rfl (Nat.le_succ _) (by decide) (fun _ => rfl) ?_
  obtain ⟨lv4, elv4⟩ : ∃ l, l = aj_set1 lv1 4 (.int w3) := ⟨_, rfl⟩
  rw [← elv4]
  have hlv4_0 : aj_lv lv4 0 = some (.ref 95) := fx_e1 elv4 hlv1_0 (by decide) (Or.inl (by decide))
  have hlv4_1 : aj_lv lv4 1 = some (.ref p1) := fx_e1 elv4 hlv1_1 (by decide) (Or.inl (by decide))
  have hlv4_2 : aj_lv lv4 2 = some (.int p2) := fx_e1 elv4 hlv1_2 (by decide) (Or.inl (by decide))
  have hlv4_3 : aj_lv lv4 3 = some (.int p3) := fx_e1 elv4 hlv1_3 (by decide) (Or.inr rfl)
  have hlv4_4 : aj_lv lv4 4 = some (.int w3) := by rw [elv4]; exact ak_set1_eq _ _ _
  show fx_W _ _ _ 17 lv4 [] _ _
  refine fx_i2 aj_d122 rfl (Nat.le_succ _) (fun _ => rfl) hlv4_0 ?_
  refine fx_i2 aj_d122 rfl (Nat.le_succ _) (fun _ => rfl) hlv4_0 ?_
  refine fx_gI aj_d122 rfl (Nat.le_succ _) rfl rfl (Or.inl rfl) ?_
  refine fx_i2 aj_d122 rfl (Nat.le_succ _) (fun _ => rfl) hlv4_0 ?_
  refine fx_gI aj_d122 rfl (Nat.le_succ _) rfl rfl (Or.inl rfl) ?_
  refine fx_i2 aj_d122 rfl (Nat.le_succ _) (fun _ => rfl) hlv4_1 ?_
  refine fx_i0 aj_d122 rfl (Nat.le_succ _) (fun _ => rfl) hlv4_2 ?_
  refine fx_i0 aj_d122 rfl (Nat.le_succ _) (fun _ => rfl) hlv4_3 ?_
  refine fx_cv aj_d122 rfl (Nat.le_succ _) rfl [_, _, _, _, _] rfl rfl (gx_123_ok (X2.1 95 10) (X2.1 95 11) p1 p2 p3) ?_
  rintro _ X5 ⟨w6, rfl, hR5⟩ hok5 hle5
  refine fx_qc hR5 ?_
  show fx_W _ _ _ 32 lv4 [.int w6] _ _
  refine fx_s0 (j := 5) aj_d122 rfl (Nat.le_succ _) (by decide) (fun _ => rfl) ?_
  obtain ⟨lv7, elv7⟩ : ∃ l, l = aj_set1 lv4 5 (.int w6) := ⟨_, rfl⟩
  rw [← elv7]
  have hlv7_0 : aj_lv lv7 0 = some (.ref 95) := fx_e1 elv7 hlv4_0 (by decide) (Or.inl (by decide))
  have hlv7_4 : aj_lv lv7 4 = some (.int w3) := fx_e1 elv7 hlv4_4 (by decide) (Or.inr rfl)
  have hlv7_5 : aj_lv lv7 5 = some (.int w6) := by rw [elv7]; exact ak_set1_eq _ _ _
  show fx_W _ _ _ 34 lv7 [] _ _
  refine fx_i2 aj_d122 rfl (Nat.le_succ _) (fun _ => rfl) hlv7_0 ?_
  refine fx_gI aj_d122 rfl (Nat.le_succ _) rfl rfl (Or.inl rfl) ?_
  by_cases q9 : ((X5.1 95 12)).toInt = 6
  · skip
    refine fx_qi (c := ((X5.1 95 12)).toInt = 6) q9 ?_
    refine fx_lk (tgt := 85) (off := 47) aj_d122 rfl (Nat.le_succ _) (by decide) (by rw [q9]; rfl) rfl ?_
    show fx_W _ _ _ 85 lv7 [] _ _
    refine fx_i0 aj_d122 rfl (Nat.le_succ _) (fun _ => rfl) hlv7_4 ?_
    refine fx_i0 aj_d122 rfl (Nat.le_succ _) (fun _ => rfl) hlv7_5 ?_
    refine fx_b (tgt := 96) aj_d122 rfl (Nat.le_succ _) rfl (fun q10 => ?_) (fun q10 => ?_)
    · skip
      refine fx_qi (c := (w3).toInt = (w6).toInt) (fx_t_eq q10) ?_
      show fx_W _ _ _ 96 lv7 [] _ _
      refine fx_n (pc' := 97) (lv' := lv7) (st' := [.int (Int32.ofInt 0)]) aj_d122 rfl (Nat.le_succ _) (fun _ => rfl) ?_
      exact fx_ri aj_d122 rfl ⟨_, rfl, 0, rfl, rfl⟩
    · skip
      refine fx_qe (c := (w3).toInt = (w6).toInt) (fx_f_eq q10) ?_
      show fx_W _ _ _ 92 lv7 [] _ _
      refine fx_n (pc' := 93) (lv' := lv7) (st' := [.int (Int32.ofInt 1)]) aj_d122 rfl (Nat.le_succ _) (fun _ => rfl) ?_
      refine fx_n (pc' := 97) (lv' := lv7) (st' := [.int (Int32.ofInt 1)]) aj_d122 rfl (Nat.le_succ _) (fun _ => rfl) ?_
      exact fx_ri aj_d122 rfl ⟨_, rfl, 0, rfl, rfl⟩
  · skip
    refine fx_qe (c := ((X5.1 95 12)).toInt = 6) q9 ?_
    by_cases q11 : ((X5.1 95 12)).toInt = 60
    · skip
      refine fx_qi (c := ((X5.1 95 12)).toInt = 60) q11 ?_
      refine fx_lk (tgt := 98) (off := 60) aj_d122 rfl (Nat.le_succ _) (by decide) (by rw [q11]; rfl) rfl ?_
      show fx_W _ _ _ 98 lv7 [] _ _
      refine fx_i0 aj_d122 rfl (Nat.le_succ _) (fun _ => rfl) hlv7_4 ?_
      refine fx_i0 aj_d122 rfl (Nat.le_succ _) (fun _ => rfl) hlv7_5 ?_
      refine fx_b (tgt := 109) aj_d122 rfl (Nat.le_succ _) rfl (fun q12 => ?_) (fun q12 => ?_)
      · skip
        refine fx_qe (c := (w3).toInt < (w6).toInt) (fx_t_ge q12) ?_
        show fx_W _ _ _ 109 lv7 [] _ _
        refine fx_n (pc' := 110) (lv' := lv7) (st' := [.int (Int32.ofInt 0)]) aj_d122 rfl (Nat.le_succ _) (fun _ => rfl) ?_
        exact fx_ri aj_d122 rfl ⟨_, rfl, 0, rfl, rfl⟩
      · skip
        refine fx_qi (c := (w3).toInt < (w6).toInt) (fx_f_ge q12) ?_
        show fx_W _ _ _ 105 lv7 [] _ _
        refine fx_n (pc' := 106) (lv' := lv7) (st' := [.int (Int32.ofInt 1)]) aj_d122 rfl (Nat.le_succ _) (fun _ => rfl) ?_
        refine fx_n (pc' := 110) (lv' := lv7) (st' := [.int (Int32.ofInt 1)]) aj_d122 rfl (Nat.le_succ _) (fun _ => rfl) ?_
        exact fx_ri aj_d122 rfl ⟨_, rfl, 0, rfl, rfl⟩
    · skip
      refine fx_qe (c := ((X5.1 95 12)).toInt = 60) q11 ?_
      by_cases q13 : ((X5.1 95 12)).toInt = 61
      · skip
        refine fx_qi (c := ((X5.1 95 12)).toInt = 61) q13 ?_
        refine fx_lk (tgt := 72) (off := 34) aj_d122 rfl (Nat.le_succ _) (by decide) (by rw [q13]; rfl) rfl ?_
        show fx_W _ _ _ 72 lv7 [] _ _
        refine fx_i0 aj_d122 rfl (Nat.le_succ _) (fun _ => rfl) hlv7_4 ?_
        refine fx_i0 aj_d122 rfl (Nat.le_succ _) (fun _ => rfl) hlv7_5 ?_
        refine fx_b (tgt := 83) aj_d122 rfl (Nat.le_succ _) rfl (fun q14 => ?_) (fun q14 => ?_)
        · skip
          refine fx_qe (c := (w3).toInt = (w6).toInt) (fx_t_ne q14) ?_
          show fx_W _ _ _ 83 lv7 [] _ _
          refine fx_n (pc' := 84) (lv' := lv7) (st' := [.int (Int32.ofInt 0)]) aj_d122 rfl (Nat.le_succ _) (fun _ => rfl) ?_
          exact fx_ri aj_d122 rfl ⟨_, rfl, 0, rfl, rfl⟩
        · skip
          refine fx_qi (c := (w3).toInt = (w6).toInt) (fx_f_ne q14) ?_
          show fx_W _ _ _ 79 lv7 [] _ _
          refine fx_n (pc' := 80) (lv' := lv7) (st' := [.int (Int32.ofInt 1)]) aj_d122 rfl (Nat.le_succ _) (fun _ => rfl) ?_
          refine fx_n (pc' := 84) (lv' := lv7) (st' := [.int (Int32.ofInt 1)]) aj_d122 rfl (Nat.le_succ _) (fun _ => rfl) ?_
          exact fx_ri aj_d122 rfl ⟨_, rfl, 0, rfl, rfl⟩
      · skip
        refine fx_qe (c := ((X5.1 95 12)).toInt = 61) q13 ?_
        refine fx_lk (tgt := 111) (off := 73) aj_d122 rfl (Nat.le_succ _) (by decide) (fx_lkd (by intro z hz; simp only [List.mem_cons, List.not_mem_nil, or_false] at hz; rcases hz with rfl | rfl | rfl <;> (dsimp only; omega))) rfl ?_
        show fx_W _ _ _ 111 lv7 [] _ _
        refine fx_i0 aj_d122 rfl (Nat.le_succ _) (fun _ => rfl) hlv7_4 ?_
        refine fx_i0 aj_d122 rfl (Nat.le_succ _) (fun _ => rfl) hlv7_5 ?_
        refine fx_b (tgt := 122) aj_d122 rfl (Nat.le_succ _) rfl (fun q15 => ?_) (fun q15 => ?_)
        · skip
          refine fx_qi (c := (w6).toInt < (w3).toInt) (fx_t_gt q15) ?_
          show fx_W _ _ _ 122 lv7 [] _ _
          refine fx_n (pc' := 123) (lv' := lv7) (st' := [.int (Int32.ofInt 0)]) aj_d122 rfl (Nat.le_succ _) (fun _ => rfl) ?_
          exact fx_ri aj_d122 rfl ⟨_, rfl, 0, rfl, rfl⟩
        · skip
          refine fx_qe (c := (w6).toInt < (w3).toInt) (fx_f_gt q15) ?_
          show fx_W _ _ _ 118 lv7 [] _ _
          refine fx_n (pc' := 119) (lv' := lv7) (st' := [.int (Int32.ofInt 1)]) aj_d122 rfl (Nat.le_succ _) (fun _ => rfl) ?_
          refine fx_n (pc' := 123) (lv' := lv7) (st' := [.int (Int32.ofInt 1)]) aj_d122 rfl (Nat.le_succ _) (fun _ => rfl) ?_
          exact fx_ri aj_d122 rfl ⟨_, rfl, 0, rfl, rfl⟩
def gx_142 (p1 : Int32) (p2 : Int32) (p3 : Int32) (X : fx_X) (v : Int32) (X' : fx_X) : Prop :=
  (if (p1).toInt = 205 then (v = (p2 ^^^ (Int32.ofInt 1)) ∧ X' = X) else ((if (p1).toInt = 206 then (v = ((p2 >>> ((Int32.ofInt 1) &&& 31)) &&& (p2 ||| ((Int8.ofInt (-2)).toInt32))) ∧ X' = X) else ((if (p1).toInt = 207 then (v = ((p2 >>> ((Int32.ofInt 1) &&& 31)) ||| (p2 &&& (Int32.ofInt 1))) ∧ X' = X) else (∃ b7 : Nat, X.2.2.1 95 5 = some b7 ∧ ∃ (w9 : Int32) (X8 : fx_X), gx_122 b7 (Int32.ofInt 0) p3 X w9 X8 ∧ (if (w9).toInt = 0 then (v = ((p2 <<< ((Int32.ofInt 1) &&& 31)) ||| (Int32.ofInt 0)) ∧ X' = X8) else (v = ((p2 <<< ((Int32.ofInt 1) &&& 31)) ||| (Int32.ofInt 1)) ∧ X' = X8))))))))
theorem gx_142_ok {tb : aj_T} (p1 : Int32) (p2 : Int32) (p3 : Int32) {X : fx_X} : fx_K tb 142 [.ref 95, .int p1, .int p2, .int p3] X (fx_Q fx_qI (fun v X' => gx_142 p1 p2 p3 X v X')) := by
  refine fx_m aj_m142_at rfl (fun N => ?_)
  refine fx_mono (Q := fx_Q fx_qI (fun v X' => ∃ n : Nat, gx_142 p1 p2 p3 X v X')) (fun r X' ⟨v, e, _, z⟩ => ⟨v, e, z⟩) ?_
  unfold gx_142
  show fx_W _ _ _ 0 [(0, .ref 95), (1, .int p1), (2, .int p2), (3, .int p3)] [] _ _
  obtain ⟨lv1, elv1⟩ : ∃ l : aj_V, l = [(0, .ref 95), (1, .int p1), (2, .int p2), (3, .int p3)] := ⟨_, rfl⟩
  rw [← elv1]
  have hlv1_0 : aj_lv lv1 0 = some (.ref 95) := by rw [elv1]; rfl
  have hlv1_1 : aj_lv lv1 1 = some (.int p1) := by rw [elv1]; rfl
  have hlv1_2 : aj_lv lv1 2 = some (.int p2) := by rw [elv1]; rfl
  have hlv1_3 : aj_lv lv1 3 = some (.int p3) := by rw [elv1]; rfl
  refine fx_i0 aj_d142 rfl (Nat.le_succ _) (fun _ => rfl) hlv1_1 ?_
  by_cases q3 : (p1).toInt = 205
  · skip
    refine fx_qi (c := (p1).toInt = 205) q3 ?_
    refine fx_ts (tgt := 28) aj_d142 rfl (Nat.le_succ _) q3 (by decide) rfl rfl ?_
    show fx_W _ _ _ 28 lv1 [] _ _
    refine fx_i0 aj_d142 rfl (Nat.le_succ _) (fun _ => rfl) hlv1_2 ?_
    refine fx_n (pc' := 30) (lv' := lv1) (st' := [.int (Int32.ofInt 1), .int p2]) aj_d142 rfl (Nat.le_succ _) (fun _ => rfl) ?_
    refine fx_n (pc' := 31) (lv' := lv1) (st' := [.int (p2 ^^^ (Int32.ofInt 1))]) aj_d142 rfl (Nat.le_succ _) (fun _ => rfl) ?_
    exact fx_ri aj_d142 rfl ⟨_, rfl, 0, rfl, rfl⟩
  · skip
    refine fx_qe (c := (p1).toInt = 205) q3 ?_
    by_cases q4 : (p1).toInt = 206
    · skip
      refine fx_qi (c := (p1).toInt = 206) q4 ?_
      refine fx_ts (tgt := 32) aj_d142 rfl (Nat.le_succ _) q4 (by decide) rfl rfl ?_
      show fx_W _ _ _ 32 lv1 [] _ _
      refine fx_i0 aj_d142 rfl (Nat.le_succ _) (fun _ => rfl) hlv1_2 ?_
      refine fx_n (pc' := 34) (lv' := lv1) (st' := [.int (Int32.ofInt 1), .int p2]) aj_d142 rfl (Nat.le_succ _) (fun _ => rfl) ?_
      refine fx_n (pc' := 35) (lv' := lv1) (st' := [.int (p2 >>> ((Int32.ofInt 1) &&& 31))]) aj_d142 rfl (Nat.le_succ _) (fun _ => rfl) ?_
      refine fx_i0 aj_d142 rfl (Nat.le_succ _) (fun _ => rfl) hlv1_2 ?_
      refine fx_n (pc' := 38) (lv' := lv1) (st' := [.int ((Int8.ofInt (-2)).toInt32), .int p2, .int (p2 >>> ((Int32.ofInt 1) &&& 31))]) aj_d142 rfl (Nat.le_succ _) (fun _ => rfl) ?_
      refine fx_n (pc' := 39) (lv' := lv1) (st' := [.int (p2 ||| ((Int8.ofInt (-2)).toInt32)), .int (p2 >>> ((Int32.ofInt 1) &&& 31))]) aj_d142 rfl (Nat.le_succ _) (fun _ => rfl) ?_
      refine fx_n (pc' := 40) (lv' := lv1) (st' := [.int ((p2 >>> ((Int32.ofInt 1) &&& 31)) &&& (p2 ||| ((Int8.ofInt (-2)).toInt32)))]) aj_d142 rfl (Nat.le_succ _) (fun _ => rfl) ?_
      exact fx_ri aj_d142 rfl ⟨_, rfl, 0, rfl, rfl⟩
    · skip
      refine fx_qe (c := (p1).toInt = 206) q4 ?_
      by_cases q5 : (p1).toInt = 207
      · skip
        refine fx_qi (c := (p1).toInt = 207) q5 ?_
        refine fx_ts (tgt := 41) aj_d142 rfl (Nat.le_succ _) q5 (by decide) rfl rfl ?_
        show fx_W _ _ _ 41 lv1 [] _ _
        refine fx_i0 aj_d142 rfl (Nat.le_succ _) (fun _ => rfl) hlv1_2 ?_
        refine fx_n (pc' := 43) (lv' := lv1) (st' := [.int (Int32.ofInt 1), .int p2]) aj_d142 rfl (Nat.le_succ _) (fun _ => rfl) ?_
        refine fx_n (pc' := 44) (lv' := lv1) (st' := [.int (p2 >>> ((Int32.ofInt 1) &&& 31))]) aj_d142 rfl (Nat.le_succ _) (fun _ => rfl) ?_
        refine fx_i0 aj_d142 rfl (Nat.le_succ _) (fun _ => rfl) hlv1_2 ?_
        refine fx_n (pc' := 46) (lv' := lv1) (st' := [.int (Int32.ofInt 1), .int p2, .int (p2 >>> ((Int32.ofInt 1) &&& 31))]) aj_d142 rfl (Nat.le_succ _) (fun _ => rfl) ?_
        refine fx_n (pc' := 47) (lv' := lv1) (st' := [.int (p2 &&& (Int32.ofInt 1)), .int (p2 >>> ((Int32.ofInt 1) &&& 31))]) aj_d142 rfl (Nat.le_succ _) (fun _ => rfl) ?_
        refine fx_n (pc' := 48) (lv' := lv1) (st' := [.int ((p2 >>> ((Int32.ofInt 1) &&& 31)) ||| (p2 &&& (Int32.ofInt 1)))]) aj_d142 rfl (Nat.le_succ _) (fun _ => rfl) ?_
        exact fx_ri aj_d142 rfl ⟨_, rfl, 0, rfl, rfl⟩
      · skip
        refine fx_qe (c := (p1).toInt = 207) q5 ?_
        refine fx_td (tgt := 49) aj_d142 rfl (Nat.le_succ _) (by omega) rfl ?_
        show fx_W _ _ _ 49 lv1 [] _ _
        refine fx_i0 aj_d142 rfl (Nat.le_succ _) (fun _ => rfl) hlv1_2 ?_
        refine fx_n (pc' := 51) (lv' := lv1) (st' := [.int (Int32.ofInt 1), .int p2]) aj_d142 rfl (Nat.le_succ _) (fun _ => rfl) ?_
        refine fx_n (pc' := 52) (lv' := lv1) (st' := [.int (p2 <<< ((Int32.ofInt 1) &&& 31))]) aj_d142 rfl (Nat.le_succ _) (fun _ => rfl) ?_
        refine fx_i2 aj_d142 rfl (Nat.le_succ _) (fun _ => rfl) hlv1_0 ?_
        refine fx_i2 aj_d142 rfl (Nat.le_succ _) (fun _ => rfl) hlv1_0 ?_
        refine fx_gR aj_d142 rfl (Nat.le_succ _) rfl rfl (Or.inl ⟨_, rfl⟩) (fun _ z => absurd (by decide) z) (fun b7 q6 => ?_)
        show fx_W _ _ _ 57 lv1 [.ref b7, .ref 95, .int (p2 <<< ((Int32.ofInt 1) &&& 31))] _ _
        refine fx_qs q6 ?_
        refine fx_n (pc' := 58) (lv' := lv1) (st' := [.int (Int32.ofInt 0), .ref b7, .ref 95, .int (p2 <<< ((Int32.ofInt 1) &&& 31))]) aj_d142 rfl (Nat.le_succ _) (fun _ => rfl) ?_
        refine fx_i0 aj_d142 rfl (Nat.le_succ _) (fun _ => rfl) hlv1_3 ?_
        refine fx_cv aj_d142 rfl (Nat.le_succ _) rfl [_, _, _] rfl rfl (gx_122_ok b7 (Int32.ofInt 0) p3) ?_
        rintro _ X8 ⟨w9, rfl, hR8⟩ hok8 hle8
        refine fx_qc hR8 ?_
        show fx_W _ _ _ 62 lv1 [.int w9, .int (p2 <<< ((Int32.ofInt 1) &&& 31))] _ _
        refine fx_b0 (tgt := 69) aj_d142 rfl (Nat.le_succ _) rfl (fun q10 => ?_) (fun q10 => ?_)
        · skip
          refine fx_qi (c := (w9).toInt = 0) (fx_t_eq q10) ?_
          show fx_W _ _ _ 69 lv1 [.int (p2 <<< ((Int32.ofInt 1) &&& 31))] _ _
          refine fx_n (pc' := 70) (lv' := lv1) (st' := [.int (Int32.ofInt 0), .int (p2 <<< ((Int32.ofInt 1) &&& 31))]) aj_d142 rfl (Nat.le_succ _) (fun _ => rfl) ?_
          refine fx_n (pc' := 71) (lv' := lv1) (st' := [.int ((p2 <<< ((Int32.ofInt 1) &&& 31)) ||| (Int32.ofInt 0))]) aj_d142 rfl (Nat.le_succ _) (fun _ => rfl) ?_
          exact fx_ri aj_d142 rfl ⟨_, rfl, 0, rfl, rfl⟩
        · skip
          refine fx_qe (c := (w9).toInt = 0) (fx_f_eq q10) ?_
          show fx_W _ _ _ 65 lv1 [.int (p2 <<< ((Int32.ofInt 1) &&& 31))] _ _
          refine fx_n (pc' := 66) (lv' := lv1) (st' := [.int (Int32.ofInt 1), .int (p2 <<< ((Int32.ofInt 1) &&& 31))]) aj_d142 rfl (Nat.le_succ _) (fun _ => rfl) ?_
          refine fx_n (pc' := 70) (lv' := lv1) (st' := [.int (Int32.ofInt 1), .int (p2 <<< ((Int32.ofInt 1) &&& 31))]) aj_d142 rfl (Nat.le_succ _) (fun _ => rfl) ?_
          refine fx_n (pc' := 71) (lv' := lv1) (st' := [.int ((p2 <<< ((Int32.ofInt 1) &&& 31)) ||| (Int32.ofInt 1))]) aj_d142 rfl (Nat.le_succ _) (fun _ => rfl) ?_
          exact fx_ri aj_d142 rfl ⟨_, rfl, 0, rfl, rfl⟩
def gxT_140_85 (p1 : Int32) (p2 : Int32) (P : Nat → List Int32 → List Int64 → List Nat → fx_X → Unit → fx_X → Prop) (y3 : Int32) (X : fx_X) (v : Unit) (X' : fx_X) : Prop :=
  ∃ b23 : Nat, X.2.2.1 95 7 = some b23 ∧ (if (y3).toInt < ((X.1 b23 13)).toInt then ((if (y3).toInt < 1024 then ((0 ≤ (y3).toInt ∧ (y3).toInt < ((1024 : Nat) : Int)) ∧ ∃ (w31 : Int32) (X30 : fx_X), gx_142 p1 (X.1 106 (y3).toInt.toNat) y3 X w31 X30 ∧ (0 ≤ (y3).toInt ∧ (y3).toInt < ((1024 : Nat) : Int)) ∧ ∃ X33 : fx_X, X33 = (fx_wI X30 106 (y3).toInt.toNat w31) ∧ ∃ x34 : Int32, x34 = y3 + Int32.ofInt 1 ∧ P 85 [x34] [] [] X33 v X') else (X' = X))) else (X' = X))
def gxE_140 (p1 : Int32) (p2 : Int32) (P : Nat → List Int32 → List Int64 → List Nat → fx_X → Unit → fx_X → Prop) (X : fx_X) (v : Unit) (X' : fx_X) : Prop :=
  (if (p1).toInt = 200 then (∃ (w5 : Unit) (X4 : fx_X), gx_141 (Int32.ofInt 0) p2 X w5 X4 ∧ X' = X4) else ((if (p1).toInt = 201 then (∃ (w8 : Unit) (X7 : fx_X), gx_141 (Int32.ofInt 1) p2 X w8 X7 ∧ X' = X7) else ((if (p1).toInt = 202 then (∃ (w11 : Unit) (X10 : fx_X), gx_141 (Int32.ofInt 2) p2 X w11 X10 ∧ X' = X10) else ((if (p1).toInt = 203 then (∃ X13 : fx_X, X13 = (fx_wI X 95 12 p2) ∧ X' = X13) else ((if (p1).toInt = 204 then (P 85 [(Int32.ofInt 0)] [] [] X v X') else ((if (p1).toInt = 205 then (P 85 [(Int32.ofInt 0)] [] [] X v X') else ((if (p1).toInt = 206 then (P 85 [(Int32.ofInt 0)] [] [] X v X') else ((if (p1).toInt = 207 then (P 85 [(Int32.ofInt 0)] [] [] X v X') else (X' = X))))))))))))))))
noncomputable def gxF_140 (p1 : Int32) (p2 : Int32) (n : Nat) : Nat → List Int32 → List Int64 → List Nat → fx_X → Unit → fx_X → Prop := Nat.rec (motive := fun _ => Nat → List Int32 → List Int64 → List Nat → fx_X → Unit → fx_X → Prop) (fun _ _ _ _ _ _ _ => False) (fun _ P l is ls rs X v X' => (l = 85 ∧ ∃ (y3 : Int32), is = [y3] ∧ ls = [] ∧ rs = [] ∧ gxT_140_85 p1 p2 P y3 X v X')) n
theorem gxI_140_85 {p1 : Int32} {p2 : Int32} {n : Nat} {y3 : Int32} {X : fx_X} {v : Unit} {X' : fx_X} (h : gxT_140_85 p1 p2 (gxF_140 p1 p2 n) y3 X v X') : gxF_140 p1 p2 (n + 1) 85 [y3] [] [] X v X' := ⟨rfl, y3, rfl, rfl, rfl, h⟩
theorem gxO_140_85 {p1 : Int32} {p2 : Int32} {n : Nat} {y3 : Int32} {X : fx_X} {v : Unit} {X' : fx_X} (h : gxF_140 p1 p2 (n + 1) 85 [y3] [] [] X v X') : gxT_140_85 p1 p2 (gxF_140 p1 p2 n) y3 X v X' := by
  rcases h with ⟨-, _, e1, e2, e3, h⟩
  · cases e1; cases e2; cases e3; exact h
def gx_140 (p1 : Int32) (p2 : Int32) (X : fx_X) (v : Unit) (X' : fx_X) : Prop := ∃ n : Nat, gxE_140 p1 p2 (gxF_140 p1 p2 n) X v X'
theorem gxL_140 {tb : aj_T} (p1 : Int32) (p2 : Int32) : ∀ N : Nat, (∀ (lv : aj_V) (y3 : Int32) (X : fx_X), aj_lv lv 0 = some (.ref 95) → aj_lv lv 1 = some (.int p1) → aj_lv lv 3 = some (.int y3) → fx_W tb aj_m140 N 85 lv [] X (fx_Q fx_qN (fun v X' => ∃ n : Nat, gxF_140 p1 p2 n 85 [y3] [] [] X v X'))) := by
  intro N
  induction N with
  | zero => exact (by intros; exact fx_z)
  | succ N ih =>
    skip
    · intro lv y3 X hlv_0 hlv_1 hlv_3
      refine fx_mono (Q := fx_Q fx_qN (fun v X' => ∃ n : Nat, gxT_140_85 p1 p2 (gxF_140 p1 p2 n) y3 X v X')) (fun r X' ⟨v, e, n, z⟩ => ⟨v, e, n + 1, gxI_140_85 z⟩) ?_
      unfold gxT_140_85
      refine fx_i0 aj_d140 rfl (Nat.le_refl _) (fun _ => rfl) hlv_3 ?_
      refine fx_i2 aj_d140 rfl (Nat.le_succ _) (fun _ => rfl) hlv_0 ?_
      refine fx_gR aj_d140 rfl (Nat.le_succ _) rfl rfl (Or.inl ⟨_, rfl⟩) (fun q22 _ => ?_) (fun b23 q22 => ?_)
      · skip
        show fx_W _ _ _ 90 lv [.null, .int y3] _ _
        exact fx_d aj_d140 rfl (fun _ => rfl)
      · skip
        refine fx_qs q22 ?_
        show fx_W _ _ _ 90 lv [.ref b23, .int y3] _ _
        refine fx_gI aj_d140 rfl (Nat.le_succ _) rfl rfl (Or.inl rfl) ?_
        refine fx_b (tgt := 129) aj_d140 rfl (Nat.le_succ _) rfl (fun q24 => ?_) (fun q24 => ?_)
        · skip
          refine fx_qe (c := (y3).toInt < ((X.1 b23 13)).toInt) (fx_t_ge q24) ?_
          show fx_W _ _ _ 129 lv [] _ _
          refine fx_n (pc' := 132) (lv' := lv) (st' := []) aj_d140 rfl (Nat.le_succ _) (fun _ => rfl) ?_
          exact fx_rn aj_d140 rfl ⟨(), rfl, 0, rfl⟩
        · skip
          refine fx_qi (c := (y3).toInt < ((X.1 b23 13)).toInt) (fx_f_ge q24) ?_
          show fx_W _ _ _ 96 lv [] _ _
          refine fx_i0 aj_d140 rfl (Nat.le_succ _) (fun _ => rfl) hlv_3 ?_
          refine fx_i2 aj_d140 rfl (Nat.le_succ _) (fun _ => rfl) hlv_0 ?_
          refine fx_gF aj_d140 rfl (Nat.le_succ _) rfl rfl fx_in_9_6 (t := 106) rfl (fun hA25 => ?_)
          refine fx_al aj_d140 rfl (Nat.le_succ _) ?_
          rw [(hA25 : X.2.2.2.1 106 = (0, 1024))]
          show fx_W _ _ _ 102 lv [.int (Int32.ofNat 1024), .int y3] _ _
          refine fx_b (tgt := 129) aj_d140 rfl (Nat.le_succ _) rfl (fun q26 => ?_) (fun q26 => ?_)
          · skip
            refine fx_qe (c := (y3).toInt < 1024) (fx_t_ge q26) ?_
            show fx_W _ _ _ 129 lv [] _ _
            refine fx_n (pc' := 132) (lv' := lv) (st' := []) aj_d140 rfl (Nat.le_succ _) (fun _ => rfl) ?_
            exact fx_rn aj_d140 rfl ⟨(), rfl, 0, rfl⟩
          · skip
            refine fx_qi (c := (y3).toInt < 1024) (fx_f_ge q26) ?_
            show fx_W _ _ _ 105 lv [] _ _
            refine fx_i2 aj_d140 rfl (Nat.le_succ _) (fun _ => rfl) hlv_0 ?_
            refine fx_gF aj_d140 rfl (Nat.le_succ _) rfl rfl fx_in_9_6 (t := 106) rfl (fun hA27 => ?_)
            refine fx_i0 aj_d140 rfl (Nat.le_succ _) (fun _ => rfl) hlv_3 ?_
            refine fx_i2 aj_d140 rfl (Nat.le_succ _) (fun _ => rfl) hlv_0 ?_
            refine fx_i0 aj_d140 rfl (Nat.le_succ _) (fun _ => rfl) hlv_1 ?_
            refine fx_i2 aj_d140 rfl (Nat.le_succ _) (fun _ => rfl) hlv_0 ?_
            refine fx_gF aj_d140 rfl (Nat.le_succ _) rfl rfl fx_in_9_6 (t := 106) rfl (fun hA28 => ?_)
            refine fx_i0 aj_d140 rfl (Nat.le_succ _) (fun _ => rfl) hlv_3 ?_
            refine fx_ld aj_d140 (Or.inl rfl) rfl (Nat.le_succ _) (fun g290 g291 => ?_)
            show fx_W _ _ _ 118 lv [.int (X.1 106 (y3).toInt.toNat), .int p1, .ref 95, .int y3, .ref 106] _ _
            refine fx_qa (c := 0 ≤ (y3).toInt ∧ (y3).toInt < ((1024 : Nat) : Int)) ⟨g290, fx_lnk g291 hA28⟩ ?_
            refine fx_i0 aj_d140 rfl (Nat.le_succ _) (fun _ => rfl) hlv_3 ?_
            refine fx_cv aj_d140 rfl (Nat.le_succ _) rfl [_, _, _] rfl rfl (gx_142_ok p1 (X.1 106 (y3).toInt.toNat) y3) ?_
            rintro _ X30 ⟨w31, rfl, hR30⟩ hok30 hle30
            refine fx_qc hR30 ?_
            show fx_W _ _ _ 122 lv [.int w31, .int y3, .ref 106] _ _
            refine fx_st aj_d140 (Or.inl ⟨rfl, rfl⟩) rfl (Nat.le_succ _) (fun g320 g321 => ?_)
            show fx_W _ _ _ _ _ _ (fx_wI X30 106 (y3).toInt.toNat w31) _
            refine fx_qa (c := 0 ≤ (y3).toInt ∧ (y3).toInt < ((1024 : Nat) : Int)) ⟨g320, fx_lnk g321 ((hle30.2 _ (by rw [hA27]; decide)).trans hA27)⟩ ?_
            refine fx_qX (fun X33 eX33 => ?_)
            show fx_W _ _ _ 123 lv [] _ _
            refine fx_incq aj_d140 rfl (Nat.le_succ _) hlv_3 (by decide) (fun x34 ex34 => ?_)
            obtain ⟨lv35, elv35⟩ : ∃ l, l = aj_set1 lv 3 (.int x34) := ⟨_, rfl⟩
            rw [← elv35]
            have hlv35_0 : aj_lv lv35 0 = some (.ref 95) := fx_e1 elv35 hlv_0 (by decide) (Or.inl (by decide))
            have hlv35_1 : aj_lv lv35 1 = some (.int p1) := fx_e1 elv35 hlv_1 (by decide) (Or.inl (by decide))
            have hlv35_3 : aj_lv lv35 3 = some (.int x34) := by rw [elv35]; exact ak_set1_eq _ _ _
            show fx_W _ _ _ 126 lv35 [] _ _
            refine fx_n (pc' := 85) (lv' := lv35) (st' := []) aj_d140 rfl (Nat.le_succ _) (fun _ => rfl) ?_
            exact (ih) lv35 (x34) X33  hlv35_0 hlv35_1 hlv35_3
theorem gx_140_ok {tb : aj_T} (p1 : Int32) (p2 : Int32) {X : fx_X} : fx_K tb 140 [.ref 95, .int p1, .int p2] X (fx_Q fx_qN (fun v X' => gx_140 p1 p2 X v X')) := by
  refine fx_m aj_m140_at rfl (fun N => ?_)
  refine fx_mono (Q := fx_Q fx_qN (fun v X' => ∃ n : Nat, gxE_140 p1 p2 (gxF_140 p1 p2 n) X v X')) (fun r X' h => h) ?_
  unfold gxE_140
  show fx_W _ _ _ 0 [(0, .ref 95), (1, .int p1), (2, .int p2)] [] _ _
  obtain ⟨lv1, elv1⟩ : ∃ l : aj_V, l = [(0, .ref 95), (1, .int p1), (2, .int p2)] := ⟨_, rfl⟩
  rw [← elv1]
  have hlv1_0 : aj_lv lv1 0 = some (.ref 95) := by rw [elv1]; rfl
  have hlv1_1 : aj_lv lv1 1 = some (.int p1) := by rw [elv1]; rfl
  have hlv1_2 : aj_lv lv1 2 = some (.int p2) := by rw [elv1]; rfl
  refine fx_i0 aj_d140 rfl (Nat.le_succ _) (fun _ => rfl) hlv1_1 ?_
  by_cases q3 : (p1).toInt = 200
  · skip
    refine fx_qi (c := (p1).toInt = 200) q3 ?_
    refine fx_ts (tgt := 48) aj_d140 rfl (Nat.le_succ _) q3 (by decide) rfl rfl ?_
    show fx_W _ _ _ 48 lv1 [] _ _
    refine fx_i2 aj_d140 rfl (Nat.le_succ _) (fun _ => rfl) hlv1_0 ?_
    refine fx_n (pc' := 50) (lv' := lv1) (st' := [.int (Int32.ofInt 0), .ref 95]) aj_d140 rfl (Nat.le_succ _) (fun _ => rfl) ?_
    refine fx_i0 aj_d140 rfl (Nat.le_succ _) (fun _ => rfl) hlv1_2 ?_
    refine fx_cv aj_d140 rfl (Nat.le_succ _) rfl [_, _] rfl rfl (gx_141_ok (Int32.ofInt 0) p2) ?_
    rintro _ X4 ⟨w5, rfl, hR4⟩ hok4 hle4
    refine fx_qc hR4 ?_
    show fx_W _ _ _ 54 lv1 [] _ _
    refine fx_n (pc' := 132) (lv' := lv1) (st' := []) aj_d140 rfl (Nat.le_succ _) (fun _ => rfl) ?_
    exact fx_rn aj_d140 rfl ⟨(), rfl, 0, rfl⟩
  · skip
    refine fx_qe (c := (p1).toInt = 200) q3 ?_
    by_cases q6 : (p1).toInt = 201
    · skip
      refine fx_qi (c := (p1).toInt = 201) q6 ?_
      refine fx_ts (tgt := 57) aj_d140 rfl (Nat.le_succ _) q6 (by decide) rfl rfl ?_
      show fx_W _ _ _ 57 lv1 [] _ _
      refine fx_i2 aj_d140 rfl (Nat.le_succ _) (fun _ => rfl) hlv1_0 ?_
      refine fx_n (pc' := 59) (lv' := lv1) (st' := [.int (Int32.ofInt 1), .ref 95]) aj_d140 rfl (Nat.le_succ _) (fun _ => rfl) ?_
      refine fx_i0 aj_d140 rfl (Nat.le_succ _) (fun _ => rfl) hlv1_2 ?_
      refine fx_cv aj_d140 rfl (Nat.le_succ _) rfl [_, _] rfl rfl (gx_141_ok (Int32.ofInt 1) p2) ?_
      rintro _ X7 ⟨w8, rfl, hR7⟩ hok7 hle7
      refine fx_qc hR7 ?_
      show fx_W _ _ _ 63 lv1 [] _ _
      refine fx_n (pc' := 132) (lv' := lv1) (st' := []) aj_d140 rfl (Nat.le_succ _) (fun _ => rfl) ?_
      exact fx_rn aj_d140 rfl ⟨(), rfl, 0, rfl⟩
    · skip
      refine fx_qe (c := (p1).toInt = 201) q6 ?_
      by_cases q9 : (p1).toInt = 202
      · skip
        refine fx_qi (c := (p1).toInt = 202) q9 ?_
        refine fx_ts (tgt := 66) aj_d140 rfl (Nat.le_succ _) q9 (by decide) rfl rfl ?_
        show fx_W _ _ _ 66 lv1 [] _ _
        refine fx_i2 aj_d140 rfl (Nat.le_succ _) (fun _ => rfl) hlv1_0 ?_
        refine fx_n (pc' := 68) (lv' := lv1) (st' := [.int (Int32.ofInt 2), .ref 95]) aj_d140 rfl (Nat.le_succ _) (fun _ => rfl) ?_
        refine fx_i0 aj_d140 rfl (Nat.le_succ _) (fun _ => rfl) hlv1_2 ?_
        refine fx_cv aj_d140 rfl (Nat.le_succ _) rfl [_, _] rfl rfl (gx_141_ok (Int32.ofInt 2) p2) ?_
        rintro _ X10 ⟨w11, rfl, hR10⟩ hok10 hle10
        refine fx_qc hR10 ?_
        show fx_W _ _ _ 72 lv1 [] _ _
        refine fx_n (pc' := 132) (lv' := lv1) (st' := []) aj_d140 rfl (Nat.le_succ _) (fun _ => rfl) ?_
        exact fx_rn aj_d140 rfl ⟨(), rfl, 0, rfl⟩
      · skip
        refine fx_qe (c := (p1).toInt = 202) q9 ?_
        by_cases q12 : (p1).toInt = 203
        · skip
          refine fx_qi (c := (p1).toInt = 203) q12 ?_
          refine fx_ts (tgt := 75) aj_d140 rfl (Nat.le_succ _) q12 (by decide) rfl rfl ?_
          show fx_W _ _ _ 75 lv1 [] _ _
          refine fx_i2 aj_d140 rfl (Nat.le_succ _) (fun _ => rfl) hlv1_0 ?_
          refine fx_i0 aj_d140 rfl (Nat.le_succ _) (fun _ => rfl) hlv1_2 ?_
          refine fx_pI aj_d140 rfl (Nat.le_succ _) rfl rfl (Or.inl rfl) fx_no_9_12 (by decide) ?_
          refine fx_qX (fun X13 eX13 => ?_)
          show fx_W _ _ _ 80 lv1 [] _ _
          refine fx_n (pc' := 132) (lv' := lv1) (st' := []) aj_d140 rfl (Nat.le_succ _) (fun _ => rfl) ?_
          exact fx_rn aj_d140 rfl ⟨(), rfl, 0, rfl⟩
        · skip
          refine fx_qe (c := (p1).toInt = 203) q12 ?_
          by_cases q14 : (p1).toInt = 204
          · skip
            refine fx_qi (c := (p1).toInt = 204) q14 ?_
            refine fx_ts (tgt := 83) aj_d140 rfl (Nat.le_succ _) q14 (by decide) rfl rfl ?_
            show fx_W _ _ _ 83 lv1 [] _ _
            refine fx_n (pc' := 84) (lv' := lv1) (st' := [.int (Int32.ofInt 0)]) aj_d140 rfl (Nat.le_succ _) (fun _ => rfl) ?_
            refine fx_s0 (j := 3) aj_d140 rfl (Nat.le_succ _) (by decide) (fun _ => rfl) ?_
            obtain ⟨lv15, elv15⟩ : ∃ l, l = aj_set1 lv1 3 (.int (Int32.ofInt 0)) := ⟨_, rfl⟩
            rw [← elv15]
            have hlv15_0 : aj_lv lv15 0 = some (.ref 95) := fx_e1 elv15 hlv1_0 (by decide) (Or.inl (by decide))
            have hlv15_1 : aj_lv lv15 1 = some (.int p1) := fx_e1 elv15 hlv1_1 (by decide) (Or.inl (by decide))
            have hlv15_3 : aj_lv lv15 3 = some (.int (Int32.ofInt 0)) := by rw [elv15]; exact ak_set1_eq _ _ _
            show fx_W _ _ _ 85 lv15 [] _ _
            exact ((gxL_140 p1 p2 N)) lv15 ((Int32.ofInt 0)) X  hlv15_0 hlv15_1 hlv15_3
          · skip
            refine fx_qe (c := (p1).toInt = 204) q14 ?_
            by_cases q16 : (p1).toInt = 205
            · skip
              refine fx_qi (c := (p1).toInt = 205) q16 ?_
              refine fx_ts (tgt := 83) aj_d140 rfl (Nat.le_succ _) q16 (by decide) rfl rfl ?_
              show fx_W _ _ _ 83 lv1 [] _ _
              refine fx_n (pc' := 84) (lv' := lv1) (st' := [.int (Int32.ofInt 0)]) aj_d140 rfl (Nat.le_succ _) (fun _ => rfl) ?_
              refine fx_s0 (j := 3) aj_d140 rfl (Nat.le_succ _) (by decide) (fun _ => rfl) ?_
              obtain ⟨lv17, elv17⟩ : ∃ l, l = aj_set1 lv1 3 (.int (Int32.ofInt 0)) := ⟨_, rfl⟩
              rw [← elv17]
              have hlv17_0 : aj_lv lv17 0 = some (.ref 95) := fx_e1 elv17 hlv1_0 (by decide) (Or.inl (by decide))
              have hlv17_1 : aj_lv lv17 1 = some (.int p1) := fx_e1 elv17 hlv1_1 (by decide) (Or.inl (by decide))
              have hlv17_3 : aj_lv lv17 3 = some (.int (Int32.ofInt 0)) := by rw [elv17]; exact ak_set1_eq _ _ _
              show fx_W _ _ _ 85 lv17 [] _ _
              exact ((gxL_140 p1 p2 N)) lv17 ((Int32.ofInt 0)) X  hlv17_0 hlv17_1 hlv17_3
            · skip
              refine fx_qe (c := (p1).toInt = 205) q16 ?_
              by_cases q18 : (p1).toInt = 206
              · skip
                refine fx_qi (c := (p1).toInt = 206) q18 ?_
                refine fx_ts (tgt := 83) aj_d140 rfl (Nat.le_succ _) q18 (by decide) rfl rfl ?_
                show fx_W _ _ _ 83 lv1 [] _ _
                refine fx_n (pc' := 84) (lv' := lv1) (st' := [.int (Int32.ofInt 0)]) aj_d140 rfl (Nat.le_succ _) (fun _ => rfl) ?_
                refine fx_s0 (j := 3) aj_d140 rfl (Nat.le_succ _) (by decide) (fun _ => rfl) ?_
                obtain ⟨lv19, elv19⟩ : ∃ l, l = aj_set1 lv1 3 (.int (Int32.ofInt 0)) := ⟨_, rfl⟩
                rw [← elv19]
                have hlv19_0 : aj_lv lv19 0 = some (.ref 95) := fx_e1 elv19 hlv1_0 (by decide) (Or.inl (by decide))
                have hlv19_1 : aj_lv lv19 1 = some (.int p1) := fx_e1 elv19 hlv1_1 (by decide) (Or.inl (by decide))
                have hlv19_3 : aj_lv lv19 3 = some (.int (Int32.ofInt 0)) := by rw [elv19]; exact ak_set1_eq _ _ _
                show fx_W _ _ _ 85 lv19 [] _ _
                exact ((gxL_140 p1 p2 N)) lv19 ((Int32.ofInt 0)) X  hlv19_0 hlv19_1 hlv19_3
              · skip
                refine fx_qe (c := (p1).toInt = 206) q18 ?_
                by_cases q20 : (p1).toInt = 207
                · skip
                  refine fx_qi (c := (p1).toInt = 207) q20 ?_
                  refine fx_ts (tgt := 83) aj_d140 rfl (Nat.le_succ _) q20 (by decide) rfl rfl ?_
                  show fx_W _ _ _ 83 lv1 [] _ _
                  refine fx_n (pc' := 84) (lv' := lv1) (st' := [.int (Int32.ofInt 0)]) aj_d140 rfl (Nat.le_succ _) (fun _ => rfl) ?_
                  refine fx_s0 (j := 3) aj_d140 rfl (Nat.le_succ _) (by decide) (fun _ => rfl) ?_
                  obtain ⟨lv21, elv21⟩ : ∃ l, l = aj_set1 lv1 3 (.int (Int32.ofInt 0)) := ⟨_, rfl⟩
                  rw [← elv21]
                  have hlv21_0 : aj_lv lv21 0 = some (.ref 95) := fx_e1 elv21 hlv1_0 (by decide) (Or.inl (by decide))
                  have hlv21_1 : aj_lv lv21 1 = some (.int p1) := fx_e1 elv21 hlv1_1 (by decide) (Or.inl (by decide))
                  have hlv21_3 : aj_lv lv21 3 = some (.int (Int32.ofInt 0)) := by rw [elv21]; exact ak_set1_eq _ _ _
                  show fx_W _ _ _ 85 lv21 [] _ _
                  exact ((gxL_140 p1 p2 N)) lv21 ((Int32.ofInt 0)) X  hlv21_0 hlv21_1 hlv21_3
                · skip
                  refine fx_qe (c := (p1).toInt = 207) q20 ?_
                  refine fx_td (tgt := 132) aj_d140 rfl (Nat.le_succ _) (by omega) rfl ?_
                  show fx_W _ _ _ 132 lv1 [] _ _
                  exact fx_rn aj_d140 rfl ⟨(), rfl, 0, rfl⟩
def gx_99_1 (X : fx_X) (v : Unit) (X' : fx_X) : Prop :=
  X' = X
theorem gx_99_1_ok {tb : aj_T} {X : fx_X} : fx_K tb 99 [.ref 95, .null] X (fx_Q fx_qN (fun v X' => gx_99_1 X v X')) := by
  refine fx_m aj_m99_at rfl (fun N => ?_)
  refine fx_mono (Q := fx_Q fx_qN (fun v X' => ∃ n : Nat, gx_99_1 X v X')) (fun r X' ⟨v, e, _, z⟩ => ⟨v, e, z⟩) ?_
  unfold gx_99_1
  show fx_W _ _ _ 0 [(0, .ref 95), (1, .null)] [] _ _
  obtain ⟨lv1, elv1⟩ : ∃ l : aj_V, l = [(0, .ref 95), (1, .null)] := ⟨_, rfl⟩
  rw [← elv1]
  have hlv1_0 : aj_lv lv1 0 = some (.ref 95) := by rw [elv1]; rfl
  have hlv1_1 : aj_lv lv1 1 = some (.null) := by rw [elv1]; rfl
  refine fx_i3 aj_d99 rfl (Nat.le_succ _) (fun _ => rfl) hlv1_1 ?_
  refine fx_n (pc' := 26) (lv' := lv1) (st' := []) aj_d99 rfl (Nat.le_succ _) (fun _ => rfl) ?_
  exact fx_rn aj_d99 rfl ⟨(), rfl, 0, rfl⟩
def gx_99_2 (p1 : Nat) (X : fx_X) (v : Unit) (X' : fx_X) : Prop :=
  ∃ (w3 : Nat) (X2 : fx_X), gx_100 (X.1 95 4) X w3 X2 ∧ ∃ (w5 : Unit) (X4 : fx_X), gx_101 w3 p1 X2 w5 X4 ∧ ∃ X6 : fx_X, X6 = (fx_wI X4 95 4 ((X4.1 95 4) + (Int32.ofInt 1))) ∧ X' = X6
theorem gx_99_2_ok {tb : aj_T} (p1 : Nat) {X : fx_X} : fx_K tb 99 [.ref 95, .ref p1] X (fx_Q fx_qN (fun v X' => gx_99_2 p1 X v X')) := by
  refine fx_m aj_m99_at rfl (fun N => ?_)
  refine fx_mono (Q := fx_Q fx_qN (fun v X' => ∃ n : Nat, gx_99_2 p1 X v X')) (fun r X' ⟨v, e, _, z⟩ => ⟨v, e, z⟩) ?_
  unfold gx_99_2
  show fx_W _ _ _ 0 [(0, .ref 95), (1, .ref p1)] [] _ _
  obtain ⟨lv1, elv1⟩ : ∃ l : aj_V, l = [(0, .ref 95), (1, .ref p1)] := ⟨_, rfl⟩
  rw [← elv1]
  have hlv1_0 : aj_lv lv1 0 = some (.ref 95) := by rw [elv1]; rfl
  have hlv1_1 : aj_lv lv1 1 = some (.ref p1) := by rw [elv1]; rfl
  refine fx_i2 aj_d99 rfl (Nat.le_succ _) (fun _ => rfl) hlv1_1 ?_
  refine fx_n (pc' := 4) (lv' := lv1) (st' := []) aj_d99 rfl (Nat.le_succ _) (fun _ => rfl) ?_
  refine fx_i2 aj_d99 rfl (Nat.le_succ _) (fun _ => rfl) hlv1_0 ?_
  refine fx_i2 aj_d99 rfl (Nat.le_succ _) (fun _ => rfl) hlv1_0 ?_
  refine fx_gI aj_d99 rfl (Nat.le_succ _) rfl rfl (Or.inl rfl) ?_
  refine fx_cv aj_d99 rfl (Nat.le_succ _) rfl [_] rfl rfl (gx_100_ok (X.1 95 4)) ?_
  rintro _ X2 ⟨w3, rfl, hR2⟩ hok2 hle2
  refine fx_qc hR2 ?_
  show fx_W _ _ _ 12 lv1 [.ref w3] _ _
  refine fx_i2 aj_d99 rfl (Nat.le_succ _) (fun _ => rfl) hlv1_1 ?_
  refine fx_cv aj_d99 rfl (Nat.le_succ _) rfl [_] rfl rfl (gx_101_ok w3 p1) ?_
  rintro _ X4 ⟨w5, rfl, hR4⟩ hok4 hle4
  refine fx_qc hR4 ?_
  show fx_W _ _ _ 16 lv1 [] _ _
  refine fx_i2 aj_d99 rfl (Nat.le_succ _) (fun _ => rfl) hlv1_0 ?_
  refine fx_n (pc' := 18) (lv' := lv1) (st' := [.ref 95, .ref 95]) aj_d99 rfl (Nat.le_succ _) (fun _ => rfl) ?_
  refine fx_gI aj_d99 rfl (Nat.le_succ _) rfl rfl (Or.inl rfl) ?_
  refine fx_n (pc' := 22) (lv' := lv1) (st' := [.int (Int32.ofInt 1), .int (X4.1 95 4), .ref 95]) aj_d99 rfl (Nat.le_succ _) (fun _ => rfl) ?_
  refine fx_n (pc' := 23) (lv' := lv1) (st' := [.int ((X4.1 95 4) + (Int32.ofInt 1)), .ref 95]) aj_d99 rfl (Nat.le_succ _) (fun _ => rfl) ?_
  refine fx_pI aj_d99 rfl (Nat.le_succ _) rfl rfl (Or.inl rfl) fx_no_9_4 (by decide) ?_
  refine fx_qX (fun X6 eX6 => ?_)
  show fx_W _ _ _ 26 lv1 [] _ _
  exact fx_rn aj_d99 rfl ⟨(), rfl, 0, rfl⟩
def gx_107 (p1 : Int32) (X : fx_X) (v : Unit) (X' : fx_X) : Prop :=
  ∃ (w6 : Int32) (X5 : fx_X), gx_72 p1 X w6 X5 ∧ ∃ (w8 : Int32) (X7 : fx_X), gx_43 w6 X5 w8 X7 ∧ ∃ (w10 : Unit) (X9 : fx_X), gx_44 ((Int8.ofInt 6).toInt32) w8 X7 w10 X9 ∧ X' = X9
theorem gx_107_ok {tb : aj_T} (p1 : Int32) {X : fx_X} : fx_K tb 107 [.ref 95, .int p1] X (fx_Q fx_qN (fun v X' => gx_107 p1 X v X')) := by
  refine fx_m aj_m107_at rfl (fun N => ?_)
  refine fx_mono (Q := fx_Q fx_qN (fun v X' => ∃ n : Nat, gx_107 p1 X v X')) (fun r X' ⟨v, e, _, z⟩ => ⟨v, e, z⟩) ?_
  unfold gx_107
  show fx_W _ _ _ 0 [(0, .ref 95), (1, .int p1)] [] _ _
  obtain ⟨lv1, elv1⟩ : ∃ l : aj_V, l = [(0, .ref 95), (1, .int p1)] := ⟨_, rfl⟩
  rw [← elv1]
  have hlv1_0 : aj_lv lv1 0 = some (.ref 95) := by rw [elv1]; rfl
  have hlv1_1 : aj_lv lv1 1 = some (.int p1) := by rw [elv1]; rfl
  refine fx_i2 aj_d107 rfl (Nat.le_succ _) (fun _ => rfl) hlv1_0 ?_
  refine fx_gF aj_d107 rfl (Nat.le_succ _) rfl rfl fx_in_9_1 (t := 82) rfl (fun hA2 => ?_)
  refine fx_n (pc' := 6) (lv' := lv1) (st' := [.int ((Int8.ofInt 6).toInt32), .ref 82]) aj_d107 rfl (Nat.le_succ _) (fun _ => rfl) ?_
  refine fx_i2 aj_d107 rfl (Nat.le_succ _) (fun _ => rfl) hlv1_0 ?_
  refine fx_gF aj_d107 rfl (Nat.le_succ _) rfl rfl fx_in_9_0 (t := 78) rfl (fun hA3 => ?_)
  refine fx_i2 aj_d107 rfl (Nat.le_succ _) (fun _ => rfl) hlv1_0 ?_
  refine fx_gF aj_d107 rfl (Nat.le_succ _) rfl rfl fx_in_9_1 (t := 82) rfl (fun hA4 => ?_)
  refine fx_i0 aj_d107 rfl (Nat.le_succ _) (fun _ => rfl) hlv1_1 ?_
  refine fx_cv aj_d107 rfl (Nat.le_succ _) rfl [_] rfl rfl (gx_72_ok p1) ?_
  rintro _ X5 ⟨w6, rfl, hR5⟩ hok5 hle5
  refine fx_qc hR5 ?_
  show fx_W _ _ _ 18 lv1 [.int w6, .ref 78, .int ((Int8.ofInt 6).toInt32), .ref 82] _ _
  refine fx_cv aj_d107 rfl (Nat.le_succ _) rfl [_] rfl rfl (gx_43_ok w6) ?_
  rintro _ X7 ⟨w8, rfl, hR7⟩ hok7 hle7
  refine fx_qc hR7 ?_
  show fx_W _ _ _ 21 lv1 [.int w8, .int ((Int8.ofInt 6).toInt32), .ref 82] _ _
  refine fx_cv aj_d107 rfl (Nat.le_succ _) rfl [_, _] rfl rfl (gx_44_ok ((Int8.ofInt 6).toInt32) w8) ?_
  rintro _ X9 ⟨w10, rfl, hR9⟩ hok9 hle9
  refine fx_qc hR9 ?_
  show fx_W _ _ _ 24 lv1 [] _ _
  exact fx_rn aj_d107 rfl ⟨(), rfl, 0, rfl⟩
def gx_108 (p0 : Nat) (p1 : Int32) (p2 : Int32) (X : fx_X) (v : Int32) (X' : fx_X) : Prop :=
  (if (p2).toInt < 0 then (v = (Int32.ofInt 0) ∧ X' = X) else ((if (p2).toInt < 1024 then ((0 ≤ (p2).toInt ∧ (p2).toInt < ((1024 : Nat) : Int)) ∧ (if ((((X.1 (p0 + 3) (p2).toInt.toNat) >>> (p1 &&& 31)) &&& (Int32.ofInt 1))).toInt = 0 then (v = (Int32.ofInt 0) ∧ X' = X) else (v = (Int32.ofInt 1) ∧ X' = X))) else (v = (Int32.ofInt 0) ∧ X' = X))))
theorem gx_108_ok {tb : aj_T} (p0 : Nat) (p1 : Int32) (p2 : Int32) {X : fx_X} : fx_K tb 108 [.ref p0, .int p1, .int p2] X (fx_Q fx_qI (fun v X' => gx_108 p0 p1 p2 X v X')) := by
  refine fx_m aj_m108_at rfl (fun N => ?_)
  refine fx_mono (Q := fx_Q fx_qI (fun v X' => ∃ n : Nat, gx_108 p0 p1 p2 X v X')) (fun r X' ⟨v, e, _, z⟩ => ⟨v, e, z⟩) ?_
  unfold gx_108
  show fx_W _ _ _ 0 [(0, .ref p0), (1, .int p1), (2, .int p2)] [] _ _
  obtain ⟨lv1, elv1⟩ : ∃ l : aj_V, l = [(0, .ref p0), (1, .int p1), (2, .int p2)] := ⟨_, rfl⟩
  rw [← elv1]
  have hlv1_0 : aj_lv lv1 0 = some (.ref p0) := by rw [elv1]; rfl
  have hlv1_1 : aj_lv lv1 1 = some (.int p1) := by rw [elv1]; rfl
  have hlv1_2 : aj_lv lv1 2 = some (.int p2) := by rw [elv1]; rfl
  refine fx_i0 aj_d108 rfl (Nat.le_succ _) (fun _ => rfl) hlv1_2 ?_
  refine fx_b0 (tgt := 30) aj_d108 rfl (Nat.le_succ _) rfl (fun q2 => ?_) (fun q2 => ?_)
  · skip
    refine fx_qi (c := (p2).toInt < 0) (fx_t_lt q2) ?_
    show fx_W _ _ _ 30 lv1 [] _ _
    refine fx_n (pc' := 31) (lv' := lv1) (st' := [.int (Int32.ofInt 0)]) aj_d108 rfl (Nat.le_succ _) (fun _ => rfl) ?_
    exact fx_ri aj_d108 rfl ⟨_, rfl, 0, rfl, rfl⟩
  · skip
    refine fx_qe (c := (p2).toInt < 0) (fx_f_lt q2) ?_
    show fx_W _ _ _ 4 lv1 [] _ _
    refine fx_i0 aj_d108 rfl (Nat.le_succ _) (fun _ => rfl) hlv1_2 ?_
    refine fx_i2 aj_d108 rfl (Nat.le_succ _) (fun _ => rfl) hlv1_0 ?_
    refine fx_gF aj_d108 rfl (Nat.le_succ _) rfl rfl fx_in_6_2 (t := (p0 + 3)) rfl (fun hA3 => ?_)
    refine fx_al aj_d108 rfl (Nat.le_succ _) ?_
    rw [(hA3 : X.2.2.2.1 (p0 + 3) = (0, 1024))]
    show fx_W _ _ _ 10 lv1 [.int (Int32.ofNat 1024), .int p2] _ _
    refine fx_b (tgt := 30) aj_d108 rfl (Nat.le_succ _) rfl (fun q4 => ?_) (fun q4 => ?_)
    · skip
      refine fx_qe (c := (p2).toInt < 1024) (fx_t_ge q4) ?_
      show fx_W _ _ _ 30 lv1 [] _ _
      refine fx_n (pc' := 31) (lv' := lv1) (st' := [.int (Int32.ofInt 0)]) aj_d108 rfl (Nat.le_succ _) (fun _ => rfl) ?_
      exact fx_ri aj_d108 rfl ⟨_, rfl, 0, rfl, rfl⟩
    · skip
      refine fx_qi (c := (p2).toInt < 1024) (fx_f_ge q4) ?_
      show fx_W _ _ _ 13 lv1 [] _ _
      refine fx_i2 aj_d108 rfl (Nat.le_succ _) (fun _ => rfl) hlv1_0 ?_
      refine fx_gF aj_d108 rfl (Nat.le_succ _) rfl rfl fx_in_6_2 (t := (p0 + 3)) rfl (fun hA5 => ?_)
      refine fx_i0 aj_d108 rfl (Nat.le_succ _) (fun _ => rfl) hlv1_2 ?_
      refine fx_ld aj_d108 (Or.inl rfl) rfl (Nat.le_succ _) (fun g60 g61 => ?_)
      show fx_W _ _ _ 19 lv1 [.int (X.1 (p0 + 3) (p2).toInt.toNat)] _ _
      refine fx_qa (c := 0 ≤ (p2).toInt ∧ (p2).toInt < ((1024 : Nat) : Int)) ⟨g60, fx_lnk g61 hA5⟩ ?_
      refine fx_i0 aj_d108 rfl (Nat.le_succ _) (fun _ => rfl) hlv1_1 ?_
      refine fx_n (pc' := 21) (lv' := lv1) (st' := [.int ((X.1 (p0 + 3) (p2).toInt.toNat) >>> (p1 &&& 31))]) aj_d108 rfl (Nat.le_succ _) (fun _ => rfl) ?_
      refine fx_n (pc' := 22) (lv' := lv1) (st' := [.int (Int32.ofInt 1), .int ((X.1 (p0 + 3) (p2).toInt.toNat) >>> (p1 &&& 31))]) aj_d108 rfl (Nat.le_succ _) (fun _ => rfl) ?_
      refine fx_n (pc' := 23) (lv' := lv1) (st' := [.int (((X.1 (p0 + 3) (p2).toInt.toNat) >>> (p1 &&& 31)) &&& (Int32.ofInt 1))]) aj_d108 rfl (Nat.le_succ _) (fun _ => rfl) ?_
      refine fx_b0 (tgt := 30) aj_d108 rfl (Nat.le_succ _) rfl (fun q7 => ?_) (fun q7 => ?_)
      · skip
        refine fx_qi (c := ((((X.1 (p0 + 3) (p2).toInt.toNat) >>> (p1 &&& 31)) &&& (Int32.ofInt 1))).toInt = 0) (fx_t_eq q7) ?_
        show fx_W _ _ _ 30 lv1 [] _ _
        refine fx_n (pc' := 31) (lv' := lv1) (st' := [.int (Int32.ofInt 0)]) aj_d108 rfl (Nat.le_succ _) (fun _ => rfl) ?_
        exact fx_ri aj_d108 rfl ⟨_, rfl, 0, rfl, rfl⟩
      · skip
        refine fx_qe (c := ((((X.1 (p0 + 3) (p2).toInt.toNat) >>> (p1 &&& 31)) &&& (Int32.ofInt 1))).toInt = 0) (fx_f_eq q7) ?_
        show fx_W _ _ _ 26 lv1 [] _ _
        refine fx_n (pc' := 27) (lv' := lv1) (st' := [.int (Int32.ofInt 1)]) aj_d108 rfl (Nat.le_succ _) (fun _ => rfl) ?_
        refine fx_n (pc' := 31) (lv' := lv1) (st' := [.int (Int32.ofInt 1)]) aj_d108 rfl (Nat.le_succ _) (fun _ => rfl) ?_
        exact fx_ri aj_d108 rfl ⟨_, rfl, 0, rfl, rfl⟩
def gxT_106_23 (p1 : Nat) (p2 : Nat) (p3 : Int32) (P : Nat → List Int32 → List Int64 → List Nat → fx_X → Unit → fx_X → Prop) (y4 : Int32) (X : fx_X) (v : Unit) (X' : fx_X) : Prop :=
  (if (y4).toInt < ((X.1 p2 4)).toInt then (∃ (w8 : Int32) (X7 : fx_X), gx_102 p1 p2 y4 X w8 X7 ∧ P 44 [y4, w8, (Int32.ofInt 0)] [] [] X7 v X') else (X' = X))
def gxT_106_44 (p1 : Nat) (p2 : Nat) (p3 : Int32) (P : Nat → List Int32 → List Int64 → List Nat → fx_X → Unit → fx_X → Prop) (y4 : Int32) (y5 : Int32) (y6 : Int32) (X : fx_X) (v : Unit) (X' : fx_X) : Prop :=
  ∃ b12 : Nat, X.2.2.1 95 7 = some b12 ∧ (if (y6).toInt < ((X.1 b12 13)).toInt then (∃ (w17 : Int32) (X16 : fx_X), gx_108 p2 y4 y6 X w17 X16 ∧ (if (w17).toInt = 0 then (∃ (w20 : Unit) (X19 : fx_X), gx_110 p1 y5 y6 X16 w20 X19 ∧ ∃ x21 : Int32, x21 = y6 + Int32.ofInt 1 ∧ P 44 [y4, y5, x21] [] [] X19 v X') else (∃ (w24 : Unit) (X23 : fx_X), gx_109 p1 y5 y6 X16 w24 X23 ∧ ∃ x25 : Int32, x25 = y6 + Int32.ofInt 1 ∧ P 44 [y4, y5, x25] [] [] X23 v X'))) else (∃ x14 : Int32, x14 = y4 + Int32.ofInt 1 ∧ P 23 [x14] [] [] X v X'))
def gxE_106 (p1 : Nat) (p2 : Nat) (p3 : Int32) (P : Nat → List Int32 → List Int64 → List Nat → fx_X → Unit → fx_X → Prop) (X : fx_X) (v : Unit) (X' : fx_X) : Prop :=
  (if 30 < (((X.1 p1 4) + (X.1 p2 4))).toInt then (∃ (w5 : Unit) (X4 : fx_X), gx_107 p3 X w5 X4 ∧ X' = X4) else (P 23 [(Int32.ofInt 0)] [] [] X v X'))
noncomputable def gxF_106 (p1 : Nat) (p2 : Nat) (p3 : Int32) (n : Nat) : Nat → List Int32 → List Int64 → List Nat → fx_X → Unit → fx_X → Prop := Nat.rec (motive := fun _ => Nat → List Int32 → List Int64 → List Nat → fx_X → Unit → fx_X → Prop) (fun _ _ _ _ _ _ _ => False) (fun _ P l is ls rs X v X' => (l = 23 ∧ ∃ (y4 : Int32), is = [y4] ∧ ls = [] ∧ rs = [] ∧ gxT_106_23 p1 p2 p3 P y4 X v X') ∨ (l = 44 ∧ ∃ (y4 : Int32) (y5 : Int32) (y6 : Int32), is = [y4, y5, y6] ∧ ls = [] ∧ rs = [] ∧ gxT_106_44 p1 p2 p3 P y4 y5 y6 X v X')) n
theorem gxI_106_23 {p1 : Nat} {p2 : Nat} {p3 : Int32} {n : Nat} {y4 : Int32} {X : fx_X} {v : Unit} {X' : fx_X} (h : gxT_106_23 p1 p2 p3 (gxF_106 p1 p2 p3 n) y4 X v X') : gxF_106 p1 p2 p3 (n + 1) 23 [y4] [] [] X v X' := Or.inl ⟨rfl, y4, rfl, rfl, rfl, h⟩
theorem gxO_106_23 {p1 : Nat} {p2 : Nat} {p3 : Int32} {n : Nat} {y4 : Int32} {X : fx_X} {v : Unit} {X' : fx_X} (h : gxF_106 p1 p2 p3 (n + 1) 23 [y4] [] [] X v X') : gxT_106_23 p1 p2 p3 (gxF_106 p1 p2 p3 n) y4 X v X' := by
  rcases h with ⟨-, _, e1, e2, e3, h⟩ | ⟨e, -⟩
  · cases e1; cases e2; cases e3; exact h
  · exact absurd e (by decide)
theorem gxI_106_44 {p1 : Nat} {p2 : Nat} {p3 : Int32} {n : Nat} {y4 : Int32} {y5 : Int32} {y6 : Int32} {X : fx_X} {v : Unit} {X' : fx_X} (h : gxT_106_44 p1 p2 p3 (gxF_106 p1 p2 p3 n) y4 y5 y6 X v X') : gxF_106 p1 p2 p3 (n + 1) 44 [y4, y5, y6] [] [] X v X' := Or.inr (⟨rfl, y4, y5, y6, rfl, rfl, rfl, h⟩)
theorem gxO_106_44 {p1 : Nat} {p2 : Nat} {p3 : Int32} {n : Nat} {y4 : Int32} {y5 : Int32} {y6 : Int32} {X : fx_X} {v : Unit} {X' : fx_X} (h : gxF_106 p1 p2 p3 (n + 1) 44 [y4, y5, y6] [] [] X v X') : gxT_106_44 p1 p2 p3 (gxF_106 p1 p2 p3 n) y4 y5 y6 X v X' := by
  rcases h with ⟨e, -⟩ | ⟨-, _, _, _, e1, e2, e3, h⟩
  · exact absurd e (by decide)
  · cases e1; cases e2; cases e3; exact h
def gx_106 (p1 : Nat) (p2 : Nat) (p3 : Int32) (X : fx_X) (v : Unit) (X' : fx_X) : Prop := ∃ n : Nat, gxE_106 p1 p2 p3 (gxF_106 p1 p2 p3 n) X v X'
theorem gxL_106 {tb : aj_T} (p1 : Nat) (p2 : Nat) (p3 : Int32) : ∀ N : Nat, (∀ (lv : aj_V) (y4 : Int32) (X : fx_X), aj_lv lv 0 = some (.ref 95) → aj_lv lv 1 = some (.ref p1) → aj_lv lv 2 = some (.ref p2) → aj_lv lv 4 = some (.int y4) → fx_W tb aj_m106 N 23 lv [] X (fx_Q fx_qN (fun v X' => ∃ n : Nat, gxF_106 p1 p2 p3 n 23 [y4] [] [] X v X'))) ∧ (∀ (lv : aj_V) (y4 : Int32) (y5 : Int32) (y6 : Int32) (X : fx_X), aj_lv lv 0 = some (.ref 95) → aj_lv lv 1 = some (.ref p1) → aj_lv lv 2 = some (.ref p2) → aj_lv lv 4 = some (.int y4) → aj_lv lv 5 = some (.int y5) → aj_lv lv 6 = some (.int y6) → fx_W tb aj_m106 N 44 lv [] X (fx_Q fx_qN (fun v X' => ∃ n : Nat, gxF_106 p1 p2 p3 n 44 [y4, y5, y6] [] [] X v X'))) := by
  intro N
  induction N with
  | zero => exact ⟨(by intros; exact fx_z), (by intros; exact fx_z)⟩
  | succ N ih =>
    refine ⟨?_, ?_⟩
    · intro lv y4 X hlv_0 hlv_1 hlv_2 hlv_4
      refine fx_mono (Q := fx_Q fx_qN (fun v X' => ∃ n : Nat, gxT_106_23 p1 p2 p3 (gxF_106 p1 p2 p3 n) y4 X v X')) (fun r X' ⟨v, e, n, z⟩ => ⟨v, e, n + 1, gxI_106_23 z⟩) ?_
      unfold gxT_106_23
      refine fx_i0 aj_d106 rfl (Nat.le_refl _) (fun _ => rfl) hlv_4 ?_
      refine fx_i2 aj_d106 rfl (Nat.le_succ _) (fun _ => rfl) hlv_2 ?_
      refine fx_gI aj_d106 rfl (Nat.le_succ _) rfl rfl (Or.inl rfl) ?_
      refine fx_b (tgt := 98) aj_d106 rfl (Nat.le_succ _) rfl (fun q6 => ?_) (fun q6 => ?_)
      · skip
        refine fx_qe (c := (y4).toInt < ((X.1 p2 4)).toInt) (fx_t_ge q6) ?_
        show fx_W _ _ _ 98 lv [] _ _
        exact fx_rn aj_d106 rfl ⟨(), rfl, 0, rfl⟩
      · skip
        refine fx_qi (c := (y4).toInt < ((X.1 p2 4)).toInt) (fx_f_ge q6) ?_
        show fx_W _ _ _ 32 lv [] _ _
        refine fx_i2 aj_d106 rfl (Nat.le_succ _) (fun _ => rfl) hlv_1 ?_
        refine fx_i2 aj_d106 rfl (Nat.le_succ _) (fun _ => rfl) hlv_2 ?_
        refine fx_i0 aj_d106 rfl (Nat.le_succ _) (fun _ => rfl) hlv_4 ?_
        refine fx_cv aj_d106 rfl (Nat.le_succ _) rfl [_, _] rfl rfl (gx_102_ok p1 p2 y4) ?_
        rintro _ X7 ⟨w8, rfl, hR7⟩ hok7 hle7
        refine fx_qc hR7 ?_
        show fx_W _ _ _ 39 lv [.int w8] _ _
        refine fx_s0 (j := 5) aj_d106 rfl (Nat.le_succ _) (by decide) (fun _ => rfl) ?_
        obtain ⟨lv9, elv9⟩ : ∃ l, l = aj_set1 lv 5 (.int w8) := ⟨_, rfl⟩
        rw [← elv9]
        have hlv9_0 : aj_lv lv9 0 = some (.ref 95) := fx_e1 elv9 hlv_0 (by decide) (Or.inl (by decide))
        have hlv9_1 : aj_lv lv9 1 = some (.ref p1) := fx_e1 elv9 hlv_1 (by decide) (Or.inl (by decide))
        have hlv9_2 : aj_lv lv9 2 = some (.ref p2) := fx_e1 elv9 hlv_2 (by decide) (Or.inl (by decide))
        have hlv9_4 : aj_lv lv9 4 = some (.int y4) := fx_e1 elv9 hlv_4 (by decide) (Or.inr rfl)
        have hlv9_5 : aj_lv lv9 5 = some (.int w8) := by rw [elv9]; exact ak_set1_eq _ _ _
        show fx_W _ _ _ 41 lv9 [] _ _
        refine fx_n (pc' := 42) (lv' := lv9) (st' := [.int (Int32.ofInt 0)]) aj_d106 rfl (Nat.le_succ _) (fun _ => rfl) ?_
        refine fx_s0 (j := 6) aj_d106 rfl (Nat.le_succ _) (by decide) (fun _ => rfl) ?_
        obtain ⟨lv10, elv10⟩ : ∃ l, l = aj_set1 lv9 6 (.int (Int32.ofInt 0)) := ⟨_, rfl⟩
        rw [← elv10]
        have hlv10_0 : aj_lv lv10 0 = some (.ref 95) := fx_e1 elv10 hlv9_0 (by decide) (Or.inl (by decide))
        have hlv10_1 : aj_lv lv10 1 = some (.ref p1) := fx_e1 elv10 hlv9_1 (by decide) (Or.inl (by decide))
        have hlv10_2 : aj_lv lv10 2 = some (.ref p2) := fx_e1 elv10 hlv9_2 (by decide) (Or.inl (by decide))
        have hlv10_4 : aj_lv lv10 4 = some (.int y4) := fx_e1 elv10 hlv9_4 (by decide) (Or.inl (by decide))
        have hlv10_5 : aj_lv lv10 5 = some (.int w8) := fx_e1 elv10 hlv9_5 (by decide) (Or.inr rfl)
        have hlv10_6 : aj_lv lv10 6 = some (.int (Int32.ofInt 0)) := by rw [elv10]; exact ak_set1_eq _ _ _
        show fx_W _ _ _ 44 lv10 [] _ _
        exact (ih.2) lv10 (y4) (w8) ((Int32.ofInt 0)) X7  hlv10_0 hlv10_1 hlv10_2 hlv10_4 hlv10_5 hlv10_6
    · intro lv y4 y5 y6 X hlv_0 hlv_1 hlv_2 hlv_4 hlv_5 hlv_6
      refine fx_mono (Q := fx_Q fx_qN (fun v X' => ∃ n : Nat, gxT_106_44 p1 p2 p3 (gxF_106 p1 p2 p3 n) y4 y5 y6 X v X')) (fun r X' ⟨v, e, n, z⟩ => ⟨v, e, n + 1, gxI_106_44 z⟩) ?_
      unfold gxT_106_44
      refine fx_i0 aj_d106 rfl (Nat.le_refl _) (fun _ => rfl) hlv_6 ?_
      refine fx_i2 aj_d106 rfl (Nat.le_succ _) (fun _ => rfl) hlv_0 ?_
      refine fx_gR aj_d106 rfl (Nat.le_succ _) rfl rfl (Or.inl ⟨_, rfl⟩) (fun q11 _ => ?_) (fun b12 q11 => ?_)
      · skip
        show fx_W _ _ _ 50 lv [.null, .int y6] _ _
        exact fx_d aj_d106 rfl (fun _ => rfl)
      · skip
        refine fx_qs q11 ?_
        show fx_W _ _ _ 50 lv [.ref b12, .int y6] _ _
        refine fx_gI aj_d106 rfl (Nat.le_succ _) rfl rfl (Or.inl rfl) ?_
        refine fx_b (tgt := 92) aj_d106 rfl (Nat.le_succ _) rfl (fun q13 => ?_) (fun q13 => ?_)
        · skip
          refine fx_qe (c := (y6).toInt < ((X.1 b12 13)).toInt) (fx_t_ge q13) ?_
          show fx_W _ _ _ 92 lv [] _ _
          refine fx_incq aj_d106 rfl (Nat.le_succ _) hlv_4 (by decide) (fun x14 ex14 => ?_)
          obtain ⟨lv15, elv15⟩ : ∃ l, l = aj_set1 lv 4 (.int x14) := ⟨_, rfl⟩
          rw [← elv15]
          have hlv15_0 : aj_lv lv15 0 = some (.ref 95) := fx_e1 elv15 hlv_0 (by decide) (Or.inl (by decide))
          have hlv15_1 : aj_lv lv15 1 = some (.ref p1) := fx_e1 elv15 hlv_1 (by decide) (Or.inl (by decide))
          have hlv15_2 : aj_lv lv15 2 = some (.ref p2) := fx_e1 elv15 hlv_2 (by decide) (Or.inl (by decide))
          have hlv15_4 : aj_lv lv15 4 = some (.int x14) := by rw [elv15]; exact ak_set1_eq _ _ _
          show fx_W _ _ _ 95 lv15 [] _ _
          refine fx_n (pc' := 23) (lv' := lv15) (st' := []) aj_d106 rfl (Nat.le_succ _) (fun _ => rfl) ?_
          exact (ih.1) lv15 (x14) X  hlv15_0 hlv15_1 hlv15_2 hlv15_4
        · skip
          refine fx_qi (c := (y6).toInt < ((X.1 b12 13)).toInt) (fx_f_ge q13) ?_
          show fx_W _ _ _ 56 lv [] _ _
          refine fx_i2 aj_d106 rfl (Nat.le_succ _) (fun _ => rfl) hlv_2 ?_
          refine fx_i0 aj_d106 rfl (Nat.le_succ _) (fun _ => rfl) hlv_4 ?_
          refine fx_i0 aj_d106 rfl (Nat.le_succ _) (fun _ => rfl) hlv_6 ?_
          refine fx_cv aj_d106 rfl (Nat.le_succ _) rfl [_, _] rfl rfl (gx_108_ok p2 y4 y6) ?_
          rintro _ X16 ⟨w17, rfl, hR16⟩ hok16 hle16
          refine fx_qc hR16 ?_
          show fx_W _ _ _ 64 lv [.int w17] _ _
          refine fx_b0 (tgt := 78) aj_d106 rfl (Nat.le_succ _) rfl (fun q18 => ?_) (fun q18 => ?_)
          · skip
            refine fx_qi (c := (w17).toInt = 0) (fx_t_eq q18) ?_
            show fx_W _ _ _ 78 lv [] _ _
            refine fx_i2 aj_d106 rfl (Nat.le_succ _) (fun _ => rfl) hlv_1 ?_
            refine fx_i0 aj_d106 rfl (Nat.le_succ _) (fun _ => rfl) hlv_5 ?_
            refine fx_i0 aj_d106 rfl (Nat.le_succ _) (fun _ => rfl) hlv_6 ?_
            refine fx_cv aj_d106 rfl (Nat.le_succ _) rfl [_, _] rfl rfl (gx_110_ok p1 y5 y6) ?_
            rintro _ X19 ⟨w20, rfl, hR19⟩ hok19 hle19
            refine fx_qc hR19 ?_
            show fx_W _ _ _ 86 lv [] _ _
            refine fx_incq aj_d106 rfl (Nat.le_succ _) hlv_6 (by decide) (fun x21 ex21 => ?_)
            obtain ⟨lv22, elv22⟩ : ∃ l, l = aj_set1 lv 6 (.int x21) := ⟨_, rfl⟩
            rw [← elv22]
            have hlv22_0 : aj_lv lv22 0 = some (.ref 95) := fx_e1 elv22 hlv_0 (by decide) (Or.inl (by decide))
            have hlv22_1 : aj_lv lv22 1 = some (.ref p1) := fx_e1 elv22 hlv_1 (by decide) (Or.inl (by decide))
            have hlv22_2 : aj_lv lv22 2 = some (.ref p2) := fx_e1 elv22 hlv_2 (by decide) (Or.inl (by decide))
            have hlv22_4 : aj_lv lv22 4 = some (.int y4) := fx_e1 elv22 hlv_4 (by decide) (Or.inl (by decide))
            have hlv22_5 : aj_lv lv22 5 = some (.int y5) := fx_e1 elv22 hlv_5 (by decide) (Or.inr rfl)
            have hlv22_6 : aj_lv lv22 6 = some (.int x21) := by rw [elv22]; exact ak_set1_eq _ _ _
            show fx_W _ _ _ 89 lv22 [] _ _
            refine fx_n (pc' := 44) (lv' := lv22) (st' := []) aj_d106 rfl (Nat.le_succ _) (fun _ => rfl) ?_
            exact (ih.2) lv22 (y4) (y5) (x21) X19  hlv22_0 hlv22_1 hlv22_2 hlv22_4 hlv22_5 hlv22_6
          · skip
            refine fx_qe (c := (w17).toInt = 0) (fx_f_eq q18) ?_
            show fx_W _ _ _ 67 lv [] _ _
            refine fx_i2 aj_d106 rfl (Nat.le_succ _) (fun _ => rfl) hlv_1 ?_
            refine fx_i0 aj_d106 rfl (Nat.le_succ _) (fun _ => rfl) hlv_5 ?_
            refine fx_i0 aj_d106 rfl (Nat.le_succ _) (fun _ => rfl) hlv_6 ?_
            refine fx_cv aj_d106 rfl (Nat.le_succ _) rfl [_, _] rfl rfl (gx_109_ok p1 y5 y6) ?_
            rintro _ X23 ⟨w24, rfl, hR23⟩ hok23 hle23
            refine fx_qc hR23 ?_
            show fx_W _ _ _ 75 lv [] _ _
            refine fx_n (pc' := 86) (lv' := lv) (st' := []) aj_d106 rfl (Nat.le_succ _) (fun _ => rfl) ?_
            refine fx_incq aj_d106 rfl (Nat.le_succ _) hlv_6 (by decide) (fun x25 ex25 => ?_)
            obtain ⟨lv26, elv26⟩ : ∃ l, l = aj_set1 lv 6 (.int x25) := ⟨_, rfl⟩
            rw [← elv26]
            have hlv26_0 : aj_lv lv26 0 = some (.ref 95) := fx_e1 elv26 hlv_0 (by decide) (Or.inl (by decide))
            have hlv26_1 : aj_lv lv26 1 = some (.ref p1) := fx_e1 elv26 hlv_1 (by decide) (Or.inl (by decide))
            have hlv26_2 : aj_lv lv26 2 = some (.ref p2) := fx_e1 elv26 hlv_2 (by decide) (Or.inl (by decide))
            have hlv26_4 : aj_lv lv26 4 = some (.int y4) := fx_e1 elv26 hlv_4 (by decide) (Or.inl (by decide))
            have hlv26_5 : aj_lv lv26 5 = some (.int y5) := fx_e1 elv26 hlv_5 (by decide) (Or.inr rfl)
            have hlv26_6 : aj_lv lv26 6 = some (.int x25) := by rw [elv26]; exact ak_set1_eq _ _ _
            show fx_W _ _ _ 89 lv26 [] _ _
            refine fx_n (pc' := 44) (lv' := lv26) (st' := []) aj_d106 rfl (Nat.le_succ _) (fun _ => rfl) ?_
            exact (ih.2) lv26 (y4) (y5) (x25) X23  hlv26_0 hlv26_1 hlv26_2 hlv26_4 hlv26_5 hlv26_6
theorem gx_106_ok {tb : aj_T} (p1 : Nat) (p2 : Nat) (p3 : Int32) {X : fx_X} : fx_K tb 106 [.ref 95, .ref p1, .ref p2, .int p3] X (fx_Q fx_qN (fun v X' => gx_106 p1 p2 p3 X v X')) := by
  refine fx_m aj_m106_at rfl (fun N => ?_)
  refine fx_mono (Q := fx_Q fx_qN (fun v X' => ∃ n : Nat, gxE_106 p1 p2 p3 (gxF_106 p1 p2 p3 n) X v X')) (fun r X' h => h) ?_
  unfold gxE_106
  show fx_W _ _ _ 0 [(0, .ref 95), (1, .ref p1), (2, .ref p2), (3, .int p3)] [] _ _
  obtain ⟨lv1, elv1⟩ : ∃ l : aj_V, l = [(0, .ref 95), (1, .ref p1), (2, .ref p2), (3, .int p3)] := ⟨_, rfl⟩
  rw [← elv1]
  have hlv1_0 : aj_lv lv1 0 = some (.ref 95) := by rw [elv1]; rfl
  have hlv1_1 : aj_lv lv1 1 = some (.ref p1) := by rw [elv1]; rfl
  have hlv1_2 : aj_lv lv1 2 = some (.ref p2) := by rw [elv1]; rfl
  have hlv1_3 : aj_lv lv1 3 = some (.int p3) := by rw [elv1]; rfl
  refine fx_i2 aj_d106 rfl (Nat.le_succ _) (fun _ => rfl) hlv1_1 ?_
  refine fx_gI aj_d106 rfl (Nat.le_succ _) rfl rfl (Or.inl rfl) ?_
  refine fx_i2 aj_d106 rfl (Nat.le_succ _) (fun _ => rfl) hlv1_2 ?_
  refine fx_gI aj_d106 rfl (Nat.le_succ _) rfl rfl (Or.inl rfl) ?_
  refine fx_n (pc' := 9) (lv' := lv1) (st' := [.int ((X.1 p1 4) + (X.1 p2 4))]) aj_d106 rfl (Nat.le_succ _) (fun _ => rfl) ?_
  refine fx_n (pc' := 11) (lv' := lv1) (st' := [.int ((Int8.ofInt 30).toInt32), .int ((X.1 p1 4) + (X.1 p2 4))]) aj_d106 rfl (Nat.le_succ _) (fun _ => rfl) ?_
  refine fx_b (tgt := 20) aj_d106 rfl (Nat.le_succ _) rfl (fun q2 => ?_) (fun q2 => ?_)
  · skip
    refine fx_qe (c := 30 < (((X.1 p1 4) + (X.1 p2 4))).toInt) (fx_t_le q2) ?_
    show fx_W _ _ _ 20 lv1 [] _ _
    refine fx_n (pc' := 21) (lv' := lv1) (st' := [.int (Int32.ofInt 0)]) aj_d106 rfl (Nat.le_succ _) (fun _ => rfl) ?_
    refine fx_s0 (j := 4) aj_d106 rfl (Nat.le_succ _) (by decide) (fun _ => rfl) ?_
    obtain ⟨lv3, elv3⟩ : ∃ l, l = aj_set1 lv1 4 (.int (Int32.ofInt 0)) := ⟨_, rfl⟩
    rw [← elv3]
    have hlv3_0 : aj_lv lv3 0 = some (.ref 95) := fx_e1 elv3 hlv1_0 (by decide) (Or.inl (by decide))
    have hlv3_1 : aj_lv lv3 1 = some (.ref p1) := fx_e1 elv3 hlv1_1 (by decide) (Or.inl (by decide))
    have hlv3_2 : aj_lv lv3 2 = some (.ref p2) := fx_e1 elv3 hlv1_2 (by decide) (Or.inl (by decide))
    have hlv3_4 : aj_lv lv3 4 = some (.int (Int32.ofInt 0)) := by rw [elv3]; exact ak_set1_eq _ _ _
    show fx_W _ _ _ 23 lv3 [] _ _
    exact ((gxL_106 p1 p2 p3 N).1) lv3 ((Int32.ofInt 0)) X  hlv3_0 hlv3_1 hlv3_2 hlv3_4
  · skip
    refine fx_qi (c := 30 < (((X.1 p1 4) + (X.1 p2 4))).toInt) (fx_f_le q2) ?_
    show fx_W _ _ _ 14 lv1 [] _ _
    refine fx_i2 aj_d106 rfl (Nat.le_succ _) (fun _ => rfl) hlv1_0 ?_
    refine fx_i0 aj_d106 rfl (Nat.le_succ _) (fun _ => rfl) hlv1_3 ?_
    refine fx_cv aj_d106 rfl (Nat.le_succ _) rfl [_] rfl rfl (gx_107_ok p3) ?_
    rintro _ X4 ⟨w5, rfl, hR4⟩ hok4 hle4
    refine fx_qc hR4 ?_
    show fx_W _ _ _ 19 lv1 [] _ _
    exact fx_rn aj_d106 rfl ⟨(), rfl, 0, rfl⟩
def gxT_112_3 (p0 : Nat) (p1 : Int32) (p2 : Nat) (p3 : Int32) (p4 : Int32) (P : Nat → List Int32 → List Int64 → List Nat → fx_X → Int32 → fx_X → Prop) (y5 : Int32) (X : fx_X) (v : Int32) (X' : fx_X) : Prop :=
  (if (y5).toInt < ((X.1 p2 3)).toInt then (∃ x4 : Int32, x4 = ((p4 >>> (((Int32.ofInt 3) * y5) &&& 31)) &&& ((Int8.ofInt 7).toInt32)) ∧ (if (x4).toInt < ((X.1 p0 3)).toInt then (∃ (w10 : Int32) (X9 : fx_X), gx_103 p0 p1 x4 X w10 X9 ∧ (if (w10).toInt = 0 then (∃ (w15 : Int32) (X14 : fx_X), gx_103 p2 p3 y5 X9 w15 X14 ∧ (if (w15).toInt = 0 then (∃ (w20 : Int32) (X19 : fx_X), gx_104 p0 p1 x4 X14 w20 X19 ∧ ∃ (w22 : Int32) (X21 : fx_X), gx_104 p2 p3 y5 X19 w22 X21 ∧ (if (w20).toInt = (w22).toInt then (∃ x24 : Int32, x24 = y5 + Int32.ofInt 1 ∧ P 3 [x24] [] [] X21 v X') else (v = (Int32.ofInt 1) ∧ X' = X21))) else (∃ x17 : Int32, x17 = y5 + Int32.ofInt 1 ∧ P 3 [x17] [] [] X14 v X'))) else (∃ x12 : Int32, x12 = y5 + Int32.ofInt 1 ∧ P 3 [x12] [] [] X9 v X'))) else (∃ x7 : Int32, x7 = y5 + Int32.ofInt 1 ∧ P 3 [x7] [] [] X v X'))) else (v = (Int32.ofInt 0) ∧ X' = X))
def gxE_112 (p0 : Nat) (p1 : Int32) (p2 : Nat) (p3 : Int32) (p4 : Int32) (P : Nat → List Int32 → List Int64 → List Nat → fx_X → Int32 → fx_X → Prop) (X : fx_X) (v : Int32) (X' : fx_X) : Prop :=
  P 3 [(Int32.ofInt 0)] [] [] X v X'
noncomputable def gxF_112 (p0 : Nat) (p1 : Int32) (p2 : Nat) (p3 : Int32) (p4 : Int32) (n : Nat) : Nat → List Int32 → List Int64 → List Nat → fx_X → Int32 → fx_X → Prop := Nat.rec (motive := fun _ => Nat → List Int32 → List Int64 → List Nat → fx_X → Int32 → fx_X → Prop) (fun _ _ _ _ _ _ _ => False) (fun _ P l is ls rs X v X' => (l = 3 ∧ ∃ (y5 : Int32), is = [y5] ∧ ls = [] ∧ rs = [] ∧ gxT_112_3 p0 p1 p2 p3 p4 P y5 X v X')) n
theorem gxI_112_3 {p0 : Nat} {p1 : Int32} {p2 : Nat} {p3 : Int32} {p4 : Int32} {n : Nat} {y5 : Int32} {X : fx_X} {v : Int32} {X' : fx_X} (h : gxT_112_3 p0 p1 p2 p3 p4 (gxF_112 p0 p1 p2 p3 p4 n) y5 X v X') : gxF_112 p0 p1 p2 p3 p4 (n + 1) 3 [y5] [] [] X v X' := ⟨rfl, y5, rfl, rfl, rfl, h⟩
theorem gxO_112_3 {p0 : Nat} {p1 : Int32} {p2 : Nat} {p3 : Int32} {p4 : Int32} {n : Nat} {y5 : Int32} {X : fx_X} {v : Int32} {X' : fx_X} (h : gxF_112 p0 p1 p2 p3 p4 (n + 1) 3 [y5] [] [] X v X') : gxT_112_3 p0 p1 p2 p3 p4 (gxF_112 p0 p1 p2 p3 p4 n) y5 X v X' := by
  rcases h with ⟨-, _, e1, e2, e3, h⟩
  · cases e1; cases e2; cases e3; exact h
def gx_112 (p0 : Nat) (p1 : Int32) (p2 : Nat) (p3 : Int32) (p4 : Int32) (X : fx_X) (v : Int32) (X' : fx_X) : Prop := ∃ n : Nat, gxE_112 p0 p1 p2 p3 p4 (gxF_112 p0 p1 p2 p3 p4 n) X v X'
theorem gxL_112 {tb : aj_T} (p0 : Nat) (p1 : Int32) (p2 : Nat) (p3 : Int32) (p4 : Int32) : ∀ N : Nat, (∀ (lv : aj_V) (y5 : Int32) (X : fx_X), aj_lv lv 0 = some (.ref p0) → aj_lv lv 1 = some (.int p1) → aj_lv lv 2 = some (.ref p2) → aj_lv lv 3 = some (.int p3) → aj_lv lv 4 = some (.int p4) → aj_lv lv 5 = some (.int y5) → fx_W tb aj_m112 N 3 lv [] X (fx_Q fx_qI (fun v X' => ∃ n : Nat, gxF_112 p0 p1 p2 p3 p4 n 3 [y5] [] [] X v X'))) := by
  intro N
  induction N with
  | zero => exact (by intros; exact fx_z)
  | succ N ih =>
    skip
    · intro lv y5 X hlv_0 hlv_1 hlv_2 hlv_3 hlv_4 hlv_5
      refine fx_mono (Q := fx_Q fx_qI (fun v X' => ∃ n : Nat, gxT_112_3 p0 p1 p2 p3 p4 (gxF_112 p0 p1 p2 p3 p4 n) y5 X v X')) (fun r X' ⟨v, e, n, z⟩ => ⟨v, e, n + 1, gxI_112_3 z⟩) ?_
      unfold gxT_112_3
      refine fx_i0 aj_d112 rfl (Nat.le_refl _) (fun _ => rfl) hlv_5 ?_
      refine fx_i2 aj_d112 rfl (Nat.le_succ _) (fun _ => rfl) hlv_2 ?_
      refine fx_gI aj_d112 rfl (Nat.le_succ _) rfl rfl (Or.inl rfl) ?_
      refine fx_b (tgt := 78) aj_d112 rfl (Nat.le_succ _) rfl (fun q3 => ?_) (fun q3 => ?_)
      · skip
        refine fx_qe (c := (y5).toInt < ((X.1 p2 3)).toInt) (fx_t_ge q3) ?_
        show fx_W _ _ _ 78 lv [] _ _
        refine fx_n (pc' := 79) (lv' := lv) (st' := [.int (Int32.ofInt 0)]) aj_d112 rfl (Nat.le_succ _) (fun _ => rfl) ?_
        exact fx_ri aj_d112 rfl ⟨_, rfl, 0, rfl, rfl⟩
      · skip
        refine fx_qi (c := (y5).toInt < ((X.1 p2 3)).toInt) (fx_f_ge q3) ?_
        show fx_W _ _ _ 12 lv [] _ _
        refine fx_i0 aj_d112 rfl (Nat.le_succ _) (fun _ => rfl) hlv_4 ?_
        refine fx_n (pc' := 15) (lv' := lv) (st' := [.int (Int32.ofInt 3), .int p4]) aj_d112 rfl (Nat.le_succ _) (fun _ => rfl) ?_
        refine fx_i0 aj_d112 rfl (Nat.le_succ _) (fun _ => rfl) hlv_5 ?_
        refine fx_n (pc' := 18) (lv' := lv) (st' := [.int ((Int32.ofInt 3) * y5), .int p4]) aj_d112 rfl (Nat.le_succ _) (fun _ => rfl) ?_
        refine fx_n (pc' := 19) (lv' := lv) (st' := [.int (p4 >>> (((Int32.ofInt 3) * y5) &&& 31))]) aj_d112 rfl (Nat.le_succ _) (fun _ => rfl) ?_
        refine fx_n (pc' := 21) (lv' := lv) (st' := [.int ((Int8.ofInt 7).toInt32), .int (p4 >>> (((Int32.ofInt 3) * y5) &&& 31))]) aj_d112 rfl (Nat.le_succ _) (fun _ => rfl) ?_
        refine fx_n (pc' := 22) (lv' := lv) (st' := [.int ((p4 >>> (((Int32.ofInt 3) * y5) &&& 31)) &&& ((Int8.ofInt 7).toInt32))]) aj_d112 rfl (Nat.le_succ _) (fun _ => rfl) ?_
        refine fx_qxI (fun x4 ex4 => ?_)
        refine fx_s0 (j := 6) aj_d112 rfl (Nat.le_succ _) (by decide) (fun _ => rfl) ?_
        obtain ⟨lv5, elv5⟩ : ∃ l, l = aj_set1 lv 6 (.int x4) := ⟨_, rfl⟩
        rw [← elv5]
        have hlv5_0 : aj_lv lv5 0 = some (.ref p0) := fx_e1 elv5 hlv_0 (by decide) (Or.inl (by decide))
        have hlv5_1 : aj_lv lv5 1 = some (.int p1) := fx_e1 elv5 hlv_1 (by decide) (Or.inl (by decide))
        have hlv5_2 : aj_lv lv5 2 = some (.ref p2) := fx_e1 elv5 hlv_2 (by decide) (Or.inl (by decide))
        have hlv5_3 : aj_lv lv5 3 = some (.int p3) := fx_e1 elv5 hlv_3 (by decide) (Or.inl (by decide))
        have hlv5_4 : aj_lv lv5 4 = some (.int p4) := fx_e1 elv5 hlv_4 (by decide) (Or.inl (by decide))
        have hlv5_5 : aj_lv lv5 5 = some (.int y5) := fx_e1 elv5 hlv_5 (by decide) (Or.inr rfl)
        have hlv5_6 : aj_lv lv5 6 = some (.int x4) := by rw [elv5]; exact ak_set1_eq _ _ _
        show fx_W _ _ _ 24 lv5 [] _ _
        refine fx_i0 aj_d112 rfl (Nat.le_succ _) (fun _ => rfl) hlv5_6 ?_
        refine fx_i2 aj_d112 rfl (Nat.le_succ _) (fun _ => rfl) hlv5_0 ?_
        refine fx_gI aj_d112 rfl (Nat.le_succ _) rfl rfl (Or.inl rfl) ?_
        refine fx_b (tgt := 72) aj_d112 rfl (Nat.le_succ _) rfl (fun q6 => ?_) (fun q6 => ?_)
        · skip
          refine fx_qe (c := (x4).toInt < ((X.1 p0 3)).toInt) (fx_t_ge q6) ?_
          show fx_W _ _ _ 72 lv5 [] _ _
          refine fx_incq aj_d112 rfl (Nat.le_succ _) hlv5_5 (by decide) (fun x7 ex7 => ?_)
          obtain ⟨lv8, elv8⟩ : ∃ l, l = aj_set1 lv5 5 (.int x7) := ⟨_, rfl⟩
          rw [← elv8]
          have hlv8_0 : aj_lv lv8 0 = some (.ref p0) := fx_e1 elv8 hlv5_0 (by decide) (Or.inl (by decide))
          have hlv8_1 : aj_lv lv8 1 = some (.int p1) := fx_e1 elv8 hlv5_1 (by decide) (Or.inl (by decide))
          have hlv8_2 : aj_lv lv8 2 = some (.ref p2) := fx_e1 elv8 hlv5_2 (by decide) (Or.inl (by decide))
          have hlv8_3 : aj_lv lv8 3 = some (.int p3) := fx_e1 elv8 hlv5_3 (by decide) (Or.inl (by decide))
          have hlv8_4 : aj_lv lv8 4 = some (.int p4) := fx_e1 elv8 hlv5_4 (by decide) (Or.inr rfl)
          have hlv8_5 : aj_lv lv8 5 = some (.int x7) := by rw [elv8]; exact ak_set1_eq _ _ _
          show fx_W _ _ _ 75 lv8 [] _ _
          refine fx_n (pc' := 3) (lv' := lv8) (st' := []) aj_d112 rfl (Nat.le_succ _) (fun _ => rfl) ?_
          exact (ih) lv8 (x7) X  hlv8_0 hlv8_1 hlv8_2 hlv8_3 hlv8_4 hlv8_5
        · skip
          refine fx_qi (c := (x4).toInt < ((X.1 p0 3)).toInt) (fx_f_ge q6) ?_
          show fx_W _ _ _ 33 lv5 [] _ _
          refine fx_i2 aj_d112 rfl (Nat.le_succ _) (fun _ => rfl) hlv5_0 ?_
          refine fx_i0 aj_d112 rfl (Nat.le_succ _) (fun _ => rfl) hlv5_1 ?_
          refine fx_i0 aj_d112 rfl (Nat.le_succ _) (fun _ => rfl) hlv5_6 ?_
          refine fx_cv aj_d112 rfl (Nat.le_succ _) rfl [_, _] rfl rfl (gx_103_ok p0 p1 x4) ?_
          rintro _ X9 ⟨w10, rfl, hR9⟩ hok9 hle9
          refine fx_qc hR9 ?_
          show fx_W _ _ _ 40 lv5 [.int w10] _ _
          refine fx_b0 (tgt := 72) aj_d112 rfl (Nat.le_succ _) rfl (fun q11 => ?_) (fun q11 => ?_)
          · skip
            refine fx_qe (c := (w10).toInt = 0) (fx_t_ne q11) ?_
            show fx_W _ _ _ 72 lv5 [] _ _
            refine fx_incq aj_d112 rfl (Nat.le_succ _) hlv5_5 (by decide) (fun x12 ex12 => ?_)
            obtain ⟨lv13, elv13⟩ : ∃ l, l = aj_set1 lv5 5 (.int x12) := ⟨_, rfl⟩
            rw [← elv13]
            have hlv13_0 : aj_lv lv13 0 = some (.ref p0) := fx_e1 elv13 hlv5_0 (by decide) (Or.inl (by decide))
            have hlv13_1 : aj_lv lv13 1 = some (.int p1) := fx_e1 elv13 hlv5_1 (by decide) (Or.inl (by decide))
            have hlv13_2 : aj_lv lv13 2 = some (.ref p2) := fx_e1 elv13 hlv5_2 (by decide) (Or.inl (by decide))
            have hlv13_3 : aj_lv lv13 3 = some (.int p3) := fx_e1 elv13 hlv5_3 (by decide) (Or.inl (by decide))
            have hlv13_4 : aj_lv lv13 4 = some (.int p4) := fx_e1 elv13 hlv5_4 (by decide) (Or.inr rfl)
            have hlv13_5 : aj_lv lv13 5 = some (.int x12) := by rw [elv13]; exact ak_set1_eq _ _ _
            show fx_W _ _ _ 75 lv13 [] _ _
            refine fx_n (pc' := 3) (lv' := lv13) (st' := []) aj_d112 rfl (Nat.le_succ _) (fun _ => rfl) ?_
            exact (ih) lv13 (x12) X9  hlv13_0 hlv13_1 hlv13_2 hlv13_3 hlv13_4 hlv13_5
          · skip
            refine fx_qi (c := (w10).toInt = 0) (fx_f_ne q11) ?_
            show fx_W _ _ _ 43 lv5 [] _ _
            refine fx_i2 aj_d112 rfl (Nat.le_succ _) (fun _ => rfl) hlv5_2 ?_
            refine fx_i0 aj_d112 rfl (Nat.le_succ _) (fun _ => rfl) hlv5_3 ?_
            refine fx_i0 aj_d112 rfl (Nat.le_succ _) (fun _ => rfl) hlv5_5 ?_
            refine fx_cv aj_d112 rfl (Nat.le_succ _) rfl [_, _] rfl rfl (gx_103_ok p2 p3 y5) ?_
            rintro _ X14 ⟨w15, rfl, hR14⟩ hok14 hle14
            refine fx_qc hR14 ?_
            show fx_W _ _ _ 50 lv5 [.int w15] _ _
            refine fx_b0 (tgt := 72) aj_d112 rfl (Nat.le_succ _) rfl (fun q16 => ?_) (fun q16 => ?_)
            · skip
              refine fx_qe (c := (w15).toInt = 0) (fx_t_ne q16) ?_
              show fx_W _ _ _ 72 lv5 [] _ _
              refine fx_incq aj_d112 rfl (Nat.le_succ _) hlv5_5 (by decide) (fun x17 ex17 => ?_)
              obtain ⟨lv18, elv18⟩ : ∃ l, l = aj_set1 lv5 5 (.int x17) := ⟨_, rfl⟩
              rw [← elv18]
              have hlv18_0 : aj_lv lv18 0 = some (.ref p0) := fx_e1 elv18 hlv5_0 (by decide) (Or.inl (by decide))
              have hlv18_1 : aj_lv lv18 1 = some (.int p1) := fx_e1 elv18 hlv5_1 (by decide) (Or.inl (by decide))
              have hlv18_2 : aj_lv lv18 2 = some (.ref p2) := fx_e1 elv18 hlv5_2 (by decide) (Or.inl (by decide))
              have hlv18_3 : aj_lv lv18 3 = some (.int p3) := fx_e1 elv18 hlv5_3 (by decide) (Or.inl (by decide))
              have hlv18_4 : aj_lv lv18 4 = some (.int p4) := fx_e1 elv18 hlv5_4 (by decide) (Or.inr rfl)
              have hlv18_5 : aj_lv lv18 5 = some (.int x17) := by rw [elv18]; exact ak_set1_eq _ _ _
              show fx_W _ _ _ 75 lv18 [] _ _
              refine fx_n (pc' := 3) (lv' := lv18) (st' := []) aj_d112 rfl (Nat.le_succ _) (fun _ => rfl) ?_
              exact (ih) lv18 (x17) X14  hlv18_0 hlv18_1 hlv18_2 hlv18_3 hlv18_4 hlv18_5
            · skip
              refine fx_qi (c := (w15).toInt = 0) (fx_f_ne q16) ?_
              show fx_W _ _ _ 53 lv5 [] _ _
              refine fx_i2 aj_d112 rfl (Nat.le_succ _) (fun _ => rfl) hlv5_0 ?_
              refine fx_i0 aj_d112 rfl (Nat.le_succ _) (fun _ => rfl) hlv5_1 ?_
              refine fx_i0 aj_d112 rfl (Nat.le_succ _) (fun _ => rfl) hlv5_6 ?_
              refine fx_cv aj_d112 rfl (Nat.le_succ _) rfl [_, _] rfl rfl (gx_104_ok p0 p1 x4) ?_
              rintro _ X19 ⟨w20, rfl, hR19⟩ hok19 hle19
              refine fx_qc hR19 ?_
              show fx_W _ _ _ 60 lv5 [.int w20] _ _
              refine fx_i2 aj_d112 rfl (Nat.le_succ _) (fun _ => rfl) hlv5_2 ?_
              refine fx_i0 aj_d112 rfl (Nat.le_succ _) (fun _ => rfl) hlv5_3 ?_
              refine fx_i0 aj_d112 rfl (Nat.le_succ _) (fun _ => rfl) hlv5_5 ?_
              refine fx_cv aj_d112 rfl (Nat.le_succ _) rfl [_, _] rfl rfl (gx_104_ok p2 p3 y5) ?_
              rintro _ X21 ⟨w22, rfl, hR21⟩ hok21 hle21
              refine fx_qc hR21 ?_
              show fx_W _ _ _ 67 lv5 [.int w22, .int w20] _ _
              refine fx_b (tgt := 72) aj_d112 rfl (Nat.le_succ _) rfl (fun q23 => ?_) (fun q23 => ?_)
              · skip
                refine fx_qi (c := (w20).toInt = (w22).toInt) (fx_t_eq q23) ?_
                show fx_W _ _ _ 72 lv5 [] _ _
                refine fx_incq aj_d112 rfl (Nat.le_succ _) hlv5_5 (by decide) (fun x24 ex24 => ?_)
                obtain ⟨lv25, elv25⟩ : ∃ l, l = aj_set1 lv5 5 (.int x24) := ⟨_, rfl⟩
                rw [← elv25]
                have hlv25_0 : aj_lv lv25 0 = some (.ref p0) := fx_e1 elv25 hlv5_0 (by decide) (Or.inl (by decide))
                have hlv25_1 : aj_lv lv25 1 = some (.int p1) := fx_e1 elv25 hlv5_1 (by decide) (Or.inl (by decide))
                have hlv25_2 : aj_lv lv25 2 = some (.ref p2) := fx_e1 elv25 hlv5_2 (by decide) (Or.inl (by decide))
                have hlv25_3 : aj_lv lv25 3 = some (.int p3) := fx_e1 elv25 hlv5_3 (by decide) (Or.inl (by decide))
                have hlv25_4 : aj_lv lv25 4 = some (.int p4) := fx_e1 elv25 hlv5_4 (by decide) (Or.inr rfl)
                have hlv25_5 : aj_lv lv25 5 = some (.int x24) := by rw [elv25]; exact ak_set1_eq _ _ _
                show fx_W _ _ _ 75 lv25 [] _ _
                refine fx_n (pc' := 3) (lv' := lv25) (st' := []) aj_d112 rfl (Nat.le_succ _) (fun _ => rfl) ?_
                exact (ih) lv25 (x24) X21  hlv25_0 hlv25_1 hlv25_2 hlv25_3 hlv25_4 hlv25_5
              · skip
                refine fx_qe (c := (w20).toInt = (w22).toInt) (fx_f_eq q23) ?_
                show fx_W _ _ _ 70 lv5 [] _ _
                refine fx_n (pc' := 71) (lv' := lv5) (st' := [.int (Int32.ofInt 1)]) aj_d112 rfl (Nat.le_succ _) (fun _ => rfl) ?_
                exact fx_ri aj_d112 rfl ⟨_, rfl, 0, rfl, rfl⟩
theorem gx_112_ok {tb : aj_T} (p0 : Nat) (p1 : Int32) (p2 : Nat) (p3 : Int32) (p4 : Int32) {X : fx_X} : fx_K tb 112 [.ref p0, .int p1, .ref p2, .int p3, .int p4] X (fx_Q fx_qI (fun v X' => gx_112 p0 p1 p2 p3 p4 X v X')) := by
  refine fx_m aj_m112_at rfl (fun N => ?_)
  refine fx_mono (Q := fx_Q fx_qI (fun v X' => ∃ n : Nat, gxE_112 p0 p1 p2 p3 p4 (gxF_112 p0 p1 p2 p3 p4 n) X v X')) (fun r X' h => h) ?_
  unfold gxE_112
  show fx_W _ _ _ 0 [(0, .ref p0), (1, .int p1), (2, .ref p2), (3, .int p3), (4, .int p4)] [] _ _
  obtain ⟨lv1, elv1⟩ : ∃ l : aj_V, l = [(0, .ref p0), (1, .int p1), (2, .ref p2), (3, .int p3), (4, .int p4)] := ⟨_, rfl⟩
  rw [← elv1]
  have hlv1_0 : aj_lv lv1 0 = some (.ref p0) := by rw [elv1]; rfl
  have hlv1_1 : aj_lv lv1 1 = some (.int p1) := by rw [elv1]; rfl
  have hlv1_2 : aj_lv lv1 2 = some (.ref p2) := by rw [elv1]; rfl
  have hlv1_3 : aj_lv lv1 3 = some (.int p3) := by rw [elv1]; rfl
  have hlv1_4 : aj_lv lv1 4 = some (.int p4) := by rw [elv1]; rfl
  refine fx_n (pc' := 1) (lv' := lv1) (st' := [.int (Int32.ofInt 0)]) aj_d112 rfl (Nat.le_succ _) (fun _ => rfl) ?_
  refine fx_s0 (j := 5) aj_d112 rfl (Nat.le_succ _) (by decide) (fun _ => rfl) ?_
  obtain ⟨lv2, elv2⟩ : ∃ l, l = aj_set1 lv1 5 (.int (Int32.ofInt 0)) := ⟨_, rfl⟩
  rw [← elv2]
  have hlv2_0 : aj_lv lv2 0 = some (.ref p0) := fx_e1 elv2 hlv1_0 (by decide) (Or.inl (by decide))
  have hlv2_1 : aj_lv lv2 1 = some (.int p1) := fx_e1 elv2 hlv1_1 (by decide) (Or.inl (by decide))
  have hlv2_2 : aj_lv lv2 2 = some (.ref p2) := fx_e1 elv2 hlv1_2 (by decide) (Or.inl (by decide))
  have hlv2_3 : aj_lv lv2 3 = some (.int p3) := fx_e1 elv2 hlv1_3 (by decide) (Or.inl (by decide))
  have hlv2_4 : aj_lv lv2 4 = some (.int p4) := fx_e1 elv2 hlv1_4 (by decide) (Or.inr rfl)
  have hlv2_5 : aj_lv lv2 5 = some (.int (Int32.ofInt 0)) := by rw [elv2]; exact ak_set1_eq _ _ _
  show fx_W _ _ _ 3 lv2 [] _ _
  exact ((gxL_112 p0 p1 p2 p3 p4 N)) lv2 ((Int32.ofInt 0)) X  hlv2_0 hlv2_1 hlv2_2 hlv2_3 hlv2_4 hlv2_5
def gxT_113_26 (p0 : Nat) (p1 : Nat) (p2 : Int32) (p3 : Nat) (p4 : Int32) (p5 : Int32) (p6 : Int32) (P : Nat → List Int32 → List Int64 → List Nat → fx_X → Int32 → fx_X → Prop) (y7 : Int32) (X : fx_X) (v : Int32) (X' : fx_X) : Prop :=
  (if (y7).toInt < ((X.1 p3 3)).toInt then (∃ x10 : Int32, x10 = ((p5 >>> (((Int32.ofInt 3) * y7) &&& 31)) &&& ((Int8.ofInt 7).toInt32)) ∧ (if (x10).toInt < ((X.1 p0 3)).toInt then (∃ (w16 : Int32) (X15 : fx_X), gx_114_2 p0 p1 p2 x10 p6 X w16 X15 ∧ ∃ (w18 : Int32) (X17 : fx_X), gx_114_2 p3 p1 p4 y7 p6 X15 w18 X17 ∧ (if (w16).toInt = (w18).toInt then (∃ x20 : Int32, x20 = y7 + Int32.ofInt 1 ∧ P 26 [x20] [] [] X17 v X') else (v = (Int32.ofInt 0) ∧ X' = X17))) else (∃ x13 : Int32, x13 = y7 + Int32.ofInt 1 ∧ P 26 [x13] [] [] X v X'))) else (v = (Int32.ofInt 1) ∧ X' = X))
def gxE_113 (p0 : Nat) (p1 : Nat) (p2 : Int32) (p3 : Nat) (p4 : Int32) (p5 : Int32) (p6 : Int32) (P : Nat → List Int32 → List Int64 → List Nat → fx_X → Int32 → fx_X → Prop) (X : fx_X) (v : Int32) (X' : fx_X) : Prop :=
  ∃ (w3 : Int32) (X2 : fx_X), gx_108 p0 p2 p6 X w3 X2 ∧ (if (w3).toInt = 0 then (v = (Int32.ofInt 0) ∧ X' = X2) else (∃ (w6 : Int32) (X5 : fx_X), gx_108 p3 p4 p6 X2 w6 X5 ∧ (if (w6).toInt = 0 then (v = (Int32.ofInt 0) ∧ X' = X5) else (P 26 [(Int32.ofInt 0)] [] [] X5 v X'))))
noncomputable def gxF_113 (p0 : Nat) (p1 : Nat) (p2 : Int32) (p3 : Nat) (p4 : Int32) (p5 : Int32) (p6 : Int32) (n : Nat) : Nat → List Int32 → List Int64 → List Nat → fx_X → Int32 → fx_X → Prop := Nat.rec (motive := fun _ => Nat → List Int32 → List Int64 → List Nat → fx_X → Int32 → fx_X → Prop) (fun _ _ _ _ _ _ _ => False) (fun _ P l is ls rs X v X' => (l = 26 ∧ ∃ (y7 : Int32), is = [y7] ∧ ls = [] ∧ rs = [] ∧ gxT_113_26 p0 p1 p2 p3 p4 p5 p6 P y7 X v X')) n
theorem gxI_113_26 {p0 : Nat} {p1 : Nat} {p2 : Int32} {p3 : Nat} {p4 : Int32} {p5 : Int32} {p6 : Int32} {n : Nat} {y7 : Int32} {X : fx_X} {v : Int32} {X' : fx_X} (h : gxT_113_26 p0 p1 p2 p3 p4 p5 p6 (gxF_113 p0 p1 p2 p3 p4 p5 p6 n) y7 X v X') : gxF_113 p0 p1 p2 p3 p4 p5 p6 (n + 1) 26 [y7] [] [] X v X' := ⟨rfl, y7, rfl, rfl, rfl, h⟩
theorem gxO_113_26 {p0 : Nat} {p1 : Nat} {p2 : Int32} {p3 : Nat} {p4 : Int32} {p5 : Int32} {p6 : Int32} {n : Nat} {y7 : Int32} {X : fx_X} {v : Int32} {X' : fx_X} (h : gxF_113 p0 p1 p2 p3 p4 p5 p6 (n + 1) 26 [y7] [] [] X v X') : gxT_113_26 p0 p1 p2 p3 p4 p5 p6 (gxF_113 p0 p1 p2 p3 p4 p5 p6 n) y7 X v X' := by
  rcases h with ⟨-, _, e1, e2, e3, h⟩
  · cases e1; cases e2; cases e3; exact h
def gx_113 (p0 : Nat) (p1 : Nat) (p2 : Int32) (p3 : Nat) (p4 : Int32) (p5 : Int32) (p6 : Int32) (X : fx_X) (v : Int32) (X' : fx_X) : Prop := ∃ n : Nat, gxE_113 p0 p1 p2 p3 p4 p5 p6 (gxF_113 p0 p1 p2 p3 p4 p5 p6 n) X v X'
theorem gxL_113 {tb : aj_T} (p0 : Nat) (p1 : Nat) (p2 : Int32) (p3 : Nat) (p4 : Int32) (p5 : Int32) (p6 : Int32) : ∀ N : Nat, (∀ (lv : aj_V) (y7 : Int32) (X : fx_X), aj_lv lv 0 = some (.ref p0) → aj_lv lv 1 = some (.ref p1) → aj_lv lv 2 = some (.int p2) → aj_lv lv 3 = some (.ref p3) → aj_lv lv 4 = some (.int p4) → aj_lv lv 5 = some (.int p5) → aj_lv lv 6 = some (.int p6) → aj_lv lv 7 = some (.int y7) → fx_W tb aj_m113 N 26 lv [] X (fx_Q fx_qI (fun v X' => ∃ n : Nat, gxF_113 p0 p1 p2 p3 p4 p5 p6 n 26 [y7] [] [] X v X'))) := by
  intro N
  induction N with
  | zero => exact (by intros; exact fx_z)
  | succ N ih =>
    skip
    · intro lv y7 X hlv_0 hlv_1 hlv_2 hlv_3 hlv_4 hlv_5 hlv_6 hlv_7
      refine fx_mono (Q := fx_Q fx_qI (fun v X' => ∃ n : Nat, gxT_113_26 p0 p1 p2 p3 p4 p5 p6 (gxF_113 p0 p1 p2 p3 p4 p5 p6 n) y7 X v X')) (fun r X' ⟨v, e, n, z⟩ => ⟨v, e, n + 1, gxI_113_26 z⟩) ?_
      unfold gxT_113_26
      refine fx_i0 aj_d113 rfl (Nat.le_refl _) (fun _ => rfl) hlv_7 ?_
      refine fx_i2 aj_d113 rfl (Nat.le_succ _) (fun _ => rfl) hlv_3 ?_
      refine fx_gI aj_d113 rfl (Nat.le_succ _) rfl rfl (Or.inl rfl) ?_
      refine fx_b (tgt := 88) aj_d113 rfl (Nat.le_succ _) rfl (fun q9 => ?_) (fun q9 => ?_)
      · skip
        refine fx_qe (c := (y7).toInt < ((X.1 p3 3)).toInt) (fx_t_ge q9) ?_
        show fx_W _ _ _ 88 lv [] _ _
        refine fx_n (pc' := 89) (lv' := lv) (st' := [.int (Int32.ofInt 1)]) aj_d113 rfl (Nat.le_succ _) (fun _ => rfl) ?_
        exact fx_ri aj_d113 rfl ⟨_, rfl, 0, rfl, rfl⟩
      · skip
        refine fx_qi (c := (y7).toInt < ((X.1 p3 3)).toInt) (fx_f_ge q9) ?_
        show fx_W _ _ _ 35 lv [] _ _
        refine fx_i0 aj_d113 rfl (Nat.le_succ _) (fun _ => rfl) hlv_5 ?_
        refine fx_n (pc' := 38) (lv' := lv) (st' := [.int (Int32.ofInt 3), .int p5]) aj_d113 rfl (Nat.le_succ _) (fun _ => rfl) ?_
        refine fx_i0 aj_d113 rfl (Nat.le_succ _) (fun _ => rfl) hlv_7 ?_
        refine fx_n (pc' := 41) (lv' := lv) (st' := [.int ((Int32.ofInt 3) * y7), .int p5]) aj_d113 rfl (Nat.le_succ _) (fun _ => rfl) ?_
        refine fx_n (pc' := 42) (lv' := lv) (st' := [.int (p5 >>> (((Int32.ofInt 3) * y7) &&& 31))]) aj_d113 rfl (Nat.le_succ _) (fun _ => rfl) ?_
        refine fx_n (pc' := 44) (lv' := lv) (st' := [.int ((Int8.ofInt 7).toInt32), .int (p5 >>> (((Int32.ofInt 3) * y7) &&& 31))]) aj_d113 rfl (Nat.le_succ _) (fun _ => rfl) ?_
        refine fx_n (pc' := 45) (lv' := lv) (st' := [.int ((p5 >>> (((Int32.ofInt 3) * y7) &&& 31)) &&& ((Int8.ofInt 7).toInt32))]) aj_d113 rfl (Nat.le_succ _) (fun _ => rfl) ?_
        refine fx_qxI (fun x10 ex10 => ?_)
        refine fx_s0 (j := 8) aj_d113 rfl (Nat.le_succ _) (by decide) (fun _ => rfl) ?_
        obtain ⟨lv11, elv11⟩ : ∃ l, l = aj_set1 lv 8 (.int x10) := ⟨_, rfl⟩
        rw [← elv11]
        have hlv11_0 : aj_lv lv11 0 = some (.ref p0) := fx_e1 elv11 hlv_0 (by decide) (Or.inl (by decide))
        have hlv11_1 : aj_lv lv11 1 = some (.ref p1) := fx_e1 elv11 hlv_1 (by decide) (Or.inl (by decide))
        have hlv11_2 : aj_lv lv11 2 = some (.int p2) := fx_e1 elv11 hlv_2 (by decide) (Or.inl (by decide))
        have hlv11_3 : aj_lv lv11 3 = some (.ref p3) := fx_e1 elv11 hlv_3 (by decide) (Or.inl (by decide))
        have hlv11_4 : aj_lv lv11 4 = some (.int p4) := fx_e1 elv11 hlv_4 (by decide) (Or.inl (by decide))
        have hlv11_5 : aj_lv lv11 5 = some (.int p5) := fx_e1 elv11 hlv_5 (by decide) (Or.inl (by decide))
        have hlv11_6 : aj_lv lv11 6 = some (.int p6) := fx_e1 elv11 hlv_6 (by decide) (Or.inl (by decide))
        have hlv11_7 : aj_lv lv11 7 = some (.int y7) := fx_e1 elv11 hlv_7 (by decide) (Or.inr rfl)
        have hlv11_8 : aj_lv lv11 8 = some (.int x10) := by rw [elv11]; exact ak_set1_eq _ _ _
        show fx_W _ _ _ 47 lv11 [] _ _
        refine fx_i0 aj_d113 rfl (Nat.le_succ _) (fun _ => rfl) hlv11_8 ?_
        refine fx_i2 aj_d113 rfl (Nat.le_succ _) (fun _ => rfl) hlv11_0 ?_
        refine fx_gI aj_d113 rfl (Nat.le_succ _) rfl rfl (Or.inl rfl) ?_
        refine fx_b (tgt := 82) aj_d113 rfl (Nat.le_succ _) rfl (fun q12 => ?_) (fun q12 => ?_)
        · skip
          refine fx_qe (c := (x10).toInt < ((X.1 p0 3)).toInt) (fx_t_ge q12) ?_
          show fx_W _ _ _ 82 lv11 [] _ _
          refine fx_incq aj_d113 rfl (Nat.le_succ _) hlv11_7 (by decide) (fun x13 ex13 => ?_)
          obtain ⟨lv14, elv14⟩ : ∃ l, l = aj_set1 lv11 7 (.int x13) := ⟨_, rfl⟩
          rw [← elv14]
          have hlv14_0 : aj_lv lv14 0 = some (.ref p0) := fx_e1 elv14 hlv11_0 (by decide) (Or.inl (by decide))
          have hlv14_1 : aj_lv lv14 1 = some (.ref p1) := fx_e1 elv14 hlv11_1 (by decide) (Or.inl (by decide))
          have hlv14_2 : aj_lv lv14 2 = some (.int p2) := fx_e1 elv14 hlv11_2 (by decide) (Or.inl (by decide))
          have hlv14_3 : aj_lv lv14 3 = some (.ref p3) := fx_e1 elv14 hlv11_3 (by decide) (Or.inl (by decide))
          have hlv14_4 : aj_lv lv14 4 = some (.int p4) := fx_e1 elv14 hlv11_4 (by decide) (Or.inl (by decide))
          have hlv14_5 : aj_lv lv14 5 = some (.int p5) := fx_e1 elv14 hlv11_5 (by decide) (Or.inl (by decide))
          have hlv14_6 : aj_lv lv14 6 = some (.int p6) := fx_e1 elv14 hlv11_6 (by decide) (Or.inr rfl)
          have hlv14_7 : aj_lv lv14 7 = some (.int x13) := by rw [elv14]; exact ak_set1_eq _ _ _
          show fx_W _ _ _ 85 lv14 [] _ _
          refine fx_n (pc' := 26) (lv' := lv14) (st' := []) aj_d113 rfl (Nat.le_succ _) (fun _ => rfl) ?_
          exact (ih) lv14 (x13) X  hlv14_0 hlv14_1 hlv14_2 hlv14_3 hlv14_4 hlv14_5 hlv14_6 hlv14_7
        · skip
          refine fx_qi (c := (x10).toInt < ((X.1 p0 3)).toInt) (fx_f_ge q12) ?_
          show fx_W _ _ _ 56 lv11 [] _ _
          refine fx_i2 aj_d113 rfl (Nat.le_succ _) (fun _ => rfl) hlv11_0 ?_
          refine fx_i2 aj_d113 rfl (Nat.le_succ _) (fun _ => rfl) hlv11_1 ?_
          refine fx_i0 aj_d113 rfl (Nat.le_succ _) (fun _ => rfl) hlv11_2 ?_
          refine fx_i0 aj_d113 rfl (Nat.le_succ _) (fun _ => rfl) hlv11_8 ?_
          refine fx_i0 aj_d113 rfl (Nat.le_succ _) (fun _ => rfl) hlv11_6 ?_
          refine fx_cv aj_d113 rfl (Nat.le_succ _) rfl [_, _, _, _] rfl rfl (gx_114_2_ok p0 p1 p2 x10 p6) ?_
          rintro _ X15 ⟨w16, rfl, hR15⟩ hok15 hle15
          refine fx_qc hR15 ?_
          show fx_W _ _ _ 66 lv11 [.int w16] _ _
          refine fx_i2 aj_d113 rfl (Nat.le_succ _) (fun _ => rfl) hlv11_3 ?_
          refine fx_i2 aj_d113 rfl (Nat.le_succ _) (fun _ => rfl) hlv11_1 ?_
          refine fx_i0 aj_d113 rfl (Nat.le_succ _) (fun _ => rfl) hlv11_4 ?_
          refine fx_i0 aj_d113 rfl (Nat.le_succ _) (fun _ => rfl) hlv11_7 ?_
          refine fx_i0 aj_d113 rfl (Nat.le_succ _) (fun _ => rfl) hlv11_6 ?_
          refine fx_cv aj_d113 rfl (Nat.le_succ _) rfl [_, _, _, _] rfl rfl (gx_114_2_ok p3 p1 p4 y7 p6) ?_
          rintro _ X17 ⟨w18, rfl, hR17⟩ hok17 hle17
          refine fx_qc hR17 ?_
          show fx_W _ _ _ 77 lv11 [.int w18, .int w16] _ _
          refine fx_b (tgt := 82) aj_d113 rfl (Nat.le_succ _) rfl (fun q19 => ?_) (fun q19 => ?_)
          · skip
            refine fx_qi (c := (w16).toInt = (w18).toInt) (fx_t_eq q19) ?_
            show fx_W _ _ _ 82 lv11 [] _ _
            refine fx_incq aj_d113 rfl (Nat.le_succ _) hlv11_7 (by decide) (fun x20 ex20 => ?_)
            obtain ⟨lv21, elv21⟩ : ∃ l, l = aj_set1 lv11 7 (.int x20) := ⟨_, rfl⟩
            rw [← elv21]
            have hlv21_0 : aj_lv lv21 0 = some (.ref p0) := fx_e1 elv21 hlv11_0 (by decide) (Or.inl (by decide))
            have hlv21_1 : aj_lv lv21 1 = some (.ref p1) := fx_e1 elv21 hlv11_1 (by decide) (Or.inl (by decide))
            have hlv21_2 : aj_lv lv21 2 = some (.int p2) := fx_e1 elv21 hlv11_2 (by decide) (Or.inl (by decide))
            have hlv21_3 : aj_lv lv21 3 = some (.ref p3) := fx_e1 elv21 hlv11_3 (by decide) (Or.inl (by decide))
            have hlv21_4 : aj_lv lv21 4 = some (.int p4) := fx_e1 elv21 hlv11_4 (by decide) (Or.inl (by decide))
            have hlv21_5 : aj_lv lv21 5 = some (.int p5) := fx_e1 elv21 hlv11_5 (by decide) (Or.inl (by decide))
            have hlv21_6 : aj_lv lv21 6 = some (.int p6) := fx_e1 elv21 hlv11_6 (by decide) (Or.inr rfl)
            have hlv21_7 : aj_lv lv21 7 = some (.int x20) := by rw [elv21]; exact ak_set1_eq _ _ _
            show fx_W _ _ _ 85 lv21 [] _ _
            refine fx_n (pc' := 26) (lv' := lv21) (st' := []) aj_d113 rfl (Nat.le_succ _) (fun _ => rfl) ?_
            exact (ih) lv21 (x20) X17  hlv21_0 hlv21_1 hlv21_2 hlv21_3 hlv21_4 hlv21_5 hlv21_6 hlv21_7
          · skip
            refine fx_qe (c := (w16).toInt = (w18).toInt) (fx_f_eq q19) ?_
            show fx_W _ _ _ 80 lv11 [] _ _
            refine fx_n (pc' := 81) (lv' := lv11) (st' := [.int (Int32.ofInt 0)]) aj_d113 rfl (Nat.le_succ _) (fun _ => rfl) ?_
            exact fx_ri aj_d113 rfl ⟨_, rfl, 0, rfl, rfl⟩
theorem gx_113_ok {tb : aj_T} (p0 : Nat) (p1 : Nat) (p2 : Int32) (p3 : Nat) (p4 : Int32) (p5 : Int32) (p6 : Int32) {X : fx_X} : fx_K tb 113 [.ref p0, .ref p1, .int p2, .ref p3, .int p4, .int p5, .int p6] X (fx_Q fx_qI (fun v X' => gx_113 p0 p1 p2 p3 p4 p5 p6 X v X')) := by
  refine fx_m aj_m113_at rfl (fun N => ?_)
  refine fx_mono (Q := fx_Q fx_qI (fun v X' => ∃ n : Nat, gxE_113 p0 p1 p2 p3 p4 p5 p6 (gxF_113 p0 p1 p2 p3 p4 p5 p6 n) X v X')) (fun r X' h => h) ?_
  unfold gxE_113
  show fx_W _ _ _ 0 [(0, .ref p0), (1, .ref p1), (2, .int p2), (3, .ref p3), (4, .int p4), (5, .int p5), (6, .int p6)] [] _ _
  obtain ⟨lv1, elv1⟩ : ∃ l : aj_V, l = [(0, .ref p0), (1, .ref p1), (2, .int p2), (3, .ref p3), (4, .int p4), (5, .int p5), (6, .int p6)] := ⟨_, rfl⟩
  rw [← elv1]
  have hlv1_0 : aj_lv lv1 0 = some (.ref p0) := by rw [elv1]; rfl
  have hlv1_1 : aj_lv lv1 1 = some (.ref p1) := by rw [elv1]; rfl
  have hlv1_2 : aj_lv lv1 2 = some (.int p2) := by rw [elv1]; rfl
  have hlv1_3 : aj_lv lv1 3 = some (.ref p3) := by rw [elv1]; rfl
  have hlv1_4 : aj_lv lv1 4 = some (.int p4) := by rw [elv1]; rfl
  have hlv1_5 : aj_lv lv1 5 = some (.int p5) := by rw [elv1]; rfl
  have hlv1_6 : aj_lv lv1 6 = some (.int p6) := by rw [elv1]; rfl
  refine fx_i2 aj_d113 rfl (Nat.le_succ _) (fun _ => rfl) hlv1_0 ?_
  refine fx_i0 aj_d113 rfl (Nat.le_succ _) (fun _ => rfl) hlv1_2 ?_
  refine fx_i0 aj_d113 rfl (Nat.le_succ _) (fun _ => rfl) hlv1_6 ?_
  refine fx_cv aj_d113 rfl (Nat.le_succ _) rfl [_, _] rfl rfl (gx_108_ok p0 p2 p6) ?_
  rintro _ X2 ⟨w3, rfl, hR2⟩ hok2 hle2
  refine fx_qc hR2 ?_
  show fx_W _ _ _ 7 lv1 [.int w3] _ _
  refine fx_b0 (tgt := 21) aj_d113 rfl (Nat.le_succ _) rfl (fun q4 => ?_) (fun q4 => ?_)
  · skip
    refine fx_qi (c := (w3).toInt = 0) (fx_t_eq q4) ?_
    show fx_W _ _ _ 21 lv1 [] _ _
    refine fx_n (pc' := 22) (lv' := lv1) (st' := [.int (Int32.ofInt 0)]) aj_d113 rfl (Nat.le_succ _) (fun _ => rfl) ?_
    exact fx_ri aj_d113 rfl ⟨_, rfl, 0, rfl, rfl⟩
  · skip
    refine fx_qe (c := (w3).toInt = 0) (fx_f_eq q4) ?_
    show fx_W _ _ _ 10 lv1 [] _ _
    refine fx_i2 aj_d113 rfl (Nat.le_succ _) (fun _ => rfl) hlv1_3 ?_
    refine fx_i0 aj_d113 rfl (Nat.le_succ _) (fun _ => rfl) hlv1_4 ?_
    refine fx_i0 aj_d113 rfl (Nat.le_succ _) (fun _ => rfl) hlv1_6 ?_
    refine fx_cv aj_d113 rfl (Nat.le_succ _) rfl [_, _] rfl rfl (gx_108_ok p3 p4 p6) ?_
    rintro _ X5 ⟨w6, rfl, hR5⟩ hok5 hle5
    refine fx_qc hR5 ?_
    show fx_W _ _ _ 18 lv1 [.int w6] _ _
    refine fx_b0 (tgt := 23) aj_d113 rfl (Nat.le_succ _) rfl (fun q7 => ?_) (fun q7 => ?_)
    · skip
      refine fx_qe (c := (w6).toInt = 0) (fx_t_ne q7) ?_
      show fx_W _ _ _ 23 lv1 [] _ _
      refine fx_n (pc' := 24) (lv' := lv1) (st' := [.int (Int32.ofInt 0)]) aj_d113 rfl (Nat.le_succ _) (fun _ => rfl) ?_
      refine fx_s0 (j := 7) aj_d113 rfl (Nat.le_succ _) (by decide) (fun _ => rfl) ?_
      obtain ⟨lv8, elv8⟩ : ∃ l, l = aj_set1 lv1 7 (.int (Int32.ofInt 0)) := ⟨_, rfl⟩
      rw [← elv8]
      have hlv8_0 : aj_lv lv8 0 = some (.ref p0) := fx_e1 elv8 hlv1_0 (by decide) (Or.inl (by decide))
      have hlv8_1 : aj_lv lv8 1 = some (.ref p1) := fx_e1 elv8 hlv1_1 (by decide) (Or.inl (by decide))
      have hlv8_2 : aj_lv lv8 2 = some (.int p2) := fx_e1 elv8 hlv1_2 (by decide) (Or.inl (by decide))
      have hlv8_3 : aj_lv lv8 3 = some (.ref p3) := fx_e1 elv8 hlv1_3 (by decide) (Or.inl (by decide))
      have hlv8_4 : aj_lv lv8 4 = some (.int p4) := fx_e1 elv8 hlv1_4 (by decide) (Or.inl (by decide))
      have hlv8_5 : aj_lv lv8 5 = some (.int p5) := fx_e1 elv8 hlv1_5 (by decide) (Or.inl (by decide))
      have hlv8_6 : aj_lv lv8 6 = some (.int p6) := fx_e1 elv8 hlv1_6 (by decide) (Or.inr rfl)
      have hlv8_7 : aj_lv lv8 7 = some (.int (Int32.ofInt 0)) := by rw [elv8]; exact ak_set1_eq _ _ _
      show fx_W _ _ _ 26 lv8 [] _ _
      exact ((gxL_113 p0 p1 p2 p3 p4 p5 p6 N)) lv8 ((Int32.ofInt 0)) X5  hlv8_0 hlv8_1 hlv8_2 hlv8_3 hlv8_4 hlv8_5 hlv8_6 hlv8_7
    · skip
      refine fx_qi (c := (w6).toInt = 0) (fx_f_ne q7) ?_
      show fx_W _ _ _ 21 lv1 [] _ _
      refine fx_n (pc' := 22) (lv' := lv1) (st' := [.int (Int32.ofInt 0)]) aj_d113 rfl (Nat.le_succ _) (fun _ => rfl) ?_
      exact fx_ri aj_d113 rfl ⟨_, rfl, 0, rfl, rfl⟩
