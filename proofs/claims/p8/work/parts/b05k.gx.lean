/-! METHODS LIFTED (printed by wip/p7/gx.py, parts.py) -/
def gx_283 (X : fx_X) (v : Int32) (X' : fx_X) : Prop :=
  (0 ≤ ((X.1 117 0)).toInt ∧ ((X.1 117 0)).toInt < ((2 : Nat) : Int)) ∧ (if ((X.1 128 ((X.1 117 0)).toInt.toNat)).toInt = 0 then (v = (Int32.ofInt 0) ∧ X' = X) else ((0 ≤ ((X.1 117 0)).toInt ∧ ((X.1 117 0)).toInt < ((2 : Nat) : Int)) ∧ (0 ≤ ((X.1 117 0)).toInt ∧ ((X.1 117 0)).toInt < ((2 : Nat) : Int)) ∧ ∃ X8 : fx_X, X8 = (fx_wI X 128 ((X.1 117 0)).toInt.toNat ((X.1 128 ((X.1 117 0)).toInt.toNat) - (Int32.ofInt 1))) ∧ (0 ≤ ((X8.1 117 0)).toInt ∧ ((X8.1 117 0)).toInt < ((2 : Nat) : Int)) ∧ (0 ≤ ((X8.1 117 0)).toInt ∧ ((X8.1 117 0)).toInt < ((2 : Nat) : Int)) ∧ ∃ X12 : fx_X, X12 = (fx_wI X8 127 ((X8.1 117 0)).toInt.toNat ((X8.1 127 ((X8.1 117 0)).toInt.toNat) - (Int32.ofInt 1))) ∧ ∃ X13 : fx_X, X13 = (fx_wL X12 117 68 ((X12.2.1 117 68) + (Int64.ofNat 1))) ∧ v = (Int32.ofInt 1) ∧ X' = X13))
theorem gx_283_ok {tb : aj_T} {X : fx_X} : fx_K tb 283 [.ref 117] X (fx_Q fx_qI (fun v X' => gx_283 X v X')) := by
  refine fx_m aj_m283_at rfl (fun N => ?_)
  refine fx_mono (Q := fx_Q fx_qI (fun v X' => ∃ n : Nat, gx_283 X v X')) (fun r X' ⟨v, e, _, z⟩ => ⟨v, e, z⟩) ?_
  unfold gx_283
  show fx_W _ _ _ 0 [(0, .ref 117)] [] _ _
  obtain ⟨lv1, elv1⟩ : ∃ l : aj_V, l = [(0, .ref 117)] := ⟨_, rfl⟩
  rw [← elv1]
  have hlv1_0 : aj_lv lv1 0 = some (.ref 117) := by rw [elv1]; rfl
  refine fx_i2 aj_d283 rfl (Nat.le_succ _) (fun _ => rfl) hlv1_0 ?_
  refine fx_gF aj_d283 rfl (Nat.le_succ _) rfl rfl fx_in_11_11 (t := 128) rfl (fun hA2 => ?_)
  refine fx_i2 aj_d283 rfl (Nat.le_succ _) (fun _ => rfl) hlv1_0 ?_
  refine fx_gI aj_d283 rfl (Nat.le_succ _) rfl rfl (Or.inl rfl) ?_
  refine fx_ld aj_d283 (Or.inl rfl) rfl (Nat.le_succ _) (fun g30 g31 => ?_)
  show fx_W _ _ _ 9 lv1 [.int (X.1 128 ((X.1 117 0)).toInt.toNat)] _ _
  refine fx_qa (c := 0 ≤ ((X.1 117 0)).toInt ∧ ((X.1 117 0)).toInt < ((2 : Nat) : Int)) ⟨g30, fx_lnk g31 hA2⟩ ?_
  refine fx_b0 (tgt := 14) aj_d283 rfl (Nat.le_succ _) rfl (fun q4 => ?_) (fun q4 => ?_)
  · skip
    refine fx_qe (c := ((X.1 128 ((X.1 117 0)).toInt.toNat)).toInt = 0) (fx_t_ne q4) ?_
    show fx_W _ _ _ 14 lv1 [] _ _
    refine fx_i2 aj_d283 rfl (Nat.le_succ _) (fun _ => rfl) hlv1_0 ?_
    refine fx_gF aj_d283 rfl (Nat.le_succ _) rfl rfl fx_in_11_11 (t := 128) rfl (fun hA5 => ?_)
    refine fx_i2 aj_d283 rfl (Nat.le_succ _) (fun _ => rfl) hlv1_0 ?_
    refine fx_gI aj_d283 rfl (Nat.le_succ _) rfl rfl (Or.inl rfl) ?_
    refine fx_n (pc' := 23) (lv' := lv1) (st' := [.int (X.1 117 0), .ref 128, .int (X.1 117 0), .ref 128]) aj_d283 rfl (Nat.le_succ _) (fun _ => rfl) ?_
    refine fx_ld aj_d283 (Or.inl rfl) rfl (Nat.le_succ _) (fun g60 g61 => ?_)
    show fx_W _ _ _ 24 lv1 [.int (X.1 128 ((X.1 117 0)).toInt.toNat), .int (X.1 117 0), .ref 128] _ _
    refine fx_qa (c := 0 ≤ ((X.1 117 0)).toInt ∧ ((X.1 117 0)).toInt < ((2 : Nat) : Int)) ⟨g60, fx_lnk g61 hA5⟩ ?_
    refine fx_n (pc' := 25) (lv' := lv1) (st' := [.int (Int32.ofInt 1), .int (X.1 128 ((X.1 117 0)).toInt.toNat), .int (X.1 117 0), .ref 128]) aj_d283 rfl (Nat.le_succ _) (fun _ => rfl) ?_
    refine fx_n (pc' := 26) (lv' := lv1) (st' := [.int ((X.1 128 ((X.1 117 0)).toInt.toNat) - (Int32.ofInt 1)), .int (X.1 117 0), .ref 128]) aj_d283 rfl (Nat.le_succ _) (fun _ => rfl) ?_
    refine fx_st aj_d283 (Or.inl ⟨rfl, rfl⟩) rfl (Nat.le_succ _) (fun g70 g71 => ?_)
    show fx_W _ _ _ _ _ _ (fx_wI X 128 ((X.1 117 0)).toInt.toNat ((X.1 128 ((X.1 117 0)).toInt.toNat) - (Int32.ofInt 1))) _
    refine fx_qa (c := 0 ≤ ((X.1 117 0)).toInt ∧ ((X.1 117 0)).toInt < ((2 : Nat) : Int)) ⟨g70, fx_lnk g71 hA5⟩ ?_
    refine fx_qX (fun X8 eX8 => ?_)
    show fx_W _ _ _ 27 lv1 [] _ _
    refine fx_i2 aj_d283 rfl (Nat.le_succ _) (fun _ => rfl) hlv1_0 ?_
    refine fx_gF aj_d283 rfl (Nat.le_succ _) rfl rfl fx_in_11_10 (t := 127) rfl (fun hA9 => ?_)
    refine fx_i2 aj_d283 rfl (Nat.le_succ _) (fun _ => rfl) hlv1_0 ?_
    refine fx_gI aj_d283 rfl (Nat.le_succ _) rfl rfl (Or.inl rfl) ?_
    refine fx_n (pc' := 36) (lv' := lv1) (st' := [.int (X8.1 117 0), .ref 127, .int (X8.1 117 0), .ref 127]) aj_d283 rfl (Nat.le_succ _) (fun _ => rfl) ?_
    refine fx_ld aj_d283 (Or.inl rfl) rfl (Nat.le_succ _) (fun g100 g101 => ?_)
    show fx_W _ _ _ 37 lv1 [.int (X8.1 127 ((X8.1 117 0)).toInt.toNat), .int (X8.1 117 0), .ref 127] _ _
    refine fx_qa (c := 0 ≤ ((X8.1 117 0)).toInt ∧ ((X8.1 117 0)).toInt < ((2 : Nat) : Int)) ⟨g100, fx_lnk g101 hA9⟩ ?_
    refine fx_n (pc' := 38) (lv' := lv1) (st' := [.int (Int32.ofInt 1), .int (X8.1 127 ((X8.1 117 0)).toInt.toNat), .int (X8.1 117 0), .ref 127]) aj_d283 rfl (Nat.le_succ _) (fun _ => rfl) ?_
    refine fx_n (pc' := 39) (lv' := lv1) (st' := [.int ((X8.1 127 ((X8.1 117 0)).toInt.toNat) - (Int32.ofInt 1)), .int (X8.1 117 0), .ref 127]) aj_d283 rfl (Nat.le_succ _) (fun _ => rfl) ?_
    refine fx_st aj_d283 (Or.inl ⟨rfl, rfl⟩) rfl (Nat.le_succ _) (fun g110 g111 => ?_)
    show fx_W _ _ _ _ _ _ (fx_wI X8 127 ((X8.1 117 0)).toInt.toNat ((X8.1 127 ((X8.1 117 0)).toInt.toNat) - (Int32.ofInt 1))) _
    refine fx_qa (c := 0 ≤ ((X8.1 117 0)).toInt ∧ ((X8.1 117 0)).toInt < ((2 : Nat) : Int)) ⟨g110, fx_lnk g111 hA9⟩ ?_
    refine fx_qX (fun X12 eX12 => ?_)
    show fx_W _ _ _ 40 lv1 [] _ _
    refine fx_i2 aj_d283 rfl (Nat.le_succ _) (fun _ => rfl) hlv1_0 ?_
    refine fx_n (pc' := 42) (lv' := lv1) (st' := [.ref 117, .ref 117]) aj_d283 rfl (Nat.le_succ _) (fun _ => rfl) ?_
    refine fx_gL aj_d283 rfl (Nat.le_succ _) rfl rfl rfl ?_
    refine fx_n (pc' := 46) (lv' := lv1) (st' := [.long (Int64.ofNat 1), .long (X12.2.1 117 68), .ref 117]) aj_d283 rfl (Nat.le_succ _) (fun _ => rfl) ?_
    refine fx_n (pc' := 47) (lv' := lv1) (st' := [.long ((X12.2.1 117 68) + (Int64.ofNat 1)), .ref 117]) aj_d283 rfl (Nat.le_succ _) (fun _ => rfl) ?_
    refine fx_pL aj_d283 rfl (Nat.le_succ _) rfl rfl rfl fx_no_11_68 (by decide) ?_
    refine fx_qX (fun X13 eX13 => ?_)
    show fx_W _ _ _ 50 lv1 [] _ _
    refine fx_n (pc' := 51) (lv' := lv1) (st' := [.int (Int32.ofInt 1)]) aj_d283 rfl (Nat.le_succ _) (fun _ => rfl) ?_
    exact fx_ri aj_d283 rfl ⟨_, rfl, 0, rfl, rfl⟩
  · skip
    refine fx_qi (c := ((X.1 128 ((X.1 117 0)).toInt.toNat)).toInt = 0) (fx_f_ne q4) ?_
    show fx_W _ _ _ 12 lv1 [] _ _
    refine fx_n (pc' := 13) (lv' := lv1) (st' := [.int (Int32.ofInt 0)]) aj_d283 rfl (Nat.le_succ _) (fun _ => rfl) ?_
    exact fx_ri aj_d283 rfl ⟨_, rfl, 0, rfl, rfl⟩
def gxT_284_18 (P : Nat → List Int32 → List Int64 → List Nat → fx_X → Int32 → fx_X → Prop) (y1 : Int32) (y2 : Int32) (X : fx_X) (v : Int32) (X' : fx_X) : Prop :=
  (if (y2).toInt < 32 then ((0 ≤ (y2).toInt ∧ (y2).toInt < ((1024 : Nat) : Int)) ∧ (0 ≤ (y2).toInt ∧ (y2).toInt < ((32 : Nat) : Int)) ∧ ∃ X14 : fx_X, X14 = (fx_wI X 130 (y2).toInt.toNat (X.1 137 (y2).toInt.toNat)) ∧ ∃ x15 : Int32, x15 = y2 + Int32.ofInt 1 ∧ P 18 [y1, x15] [] [] X14 v X') else (P 44 [y1, (Int32.ofInt 0)] [] [] X v X'))
def gxT_284_44 (P : Nat → List Int32 → List Int64 → List Nat → fx_X → Int32 → fx_X → Prop) (y1 : Int32) (y2 : Int32) (X : fx_X) (v : Int32) (X' : fx_X) : Prop :=
  (0 ≤ ((X.1 117 0)).toInt ∧ ((X.1 117 0)).toInt < ((2 : Nat) : Int)) ∧ (if (y2).toInt < ((X.1 122 ((X.1 117 0)).toInt.toNat)).toInt then (∃ (w21 : Int32) (X20 : fx_X), gx_247 (X.1 117 0) y2 X w21 X20 ∧ (if (w21).toInt = 0 then (∃ x24 : Int32, x24 = y2 + Int32.ofInt 1 ∧ P 44 [y1, x24] [] [] X20 v X') else (∃ (w28 : Int32) (X27 : fx_X), gx_227 130 (Int32.ofInt 0) y2 X20 w28 X27 ∧ (if (w28).toInt = 0 then (∃ x31 : Int32, x31 = y2 + Int32.ofInt 1 ∧ P 44 [y1, x31] [] [] X27 v X') else (∃ x33 : Int32, x33 = (y1 + (Int32.ofInt 1)) ∧ ∃ x35 : Int32, x35 = y2 + Int32.ofInt 1 ∧ P 44 [x33, x35] [] [] X27 v X'))))) else (v = y1 ∧ X' = X))
def gxE_284 (P : Nat → List Int32 → List Int64 → List Nat → fx_X → Int32 → fx_X → Prop) (X : fx_X) (v : Int32) (X' : fx_X) : Prop :=
  ∃ (w3 : Int32) (X2 : fx_X), gx_282 X w3 X2 ∧ (if (w3).toInt = 0 then (v = (Int32.ofInt (-1)) ∧ X' = X2) else (∃ X5 : fx_X, X5 = (fx_wI X2 117 13 (Int32.ofInt 1)) ∧ P 18 [(Int32.ofInt 0), (Int32.ofInt 0)] [] [] X5 v X'))
noncomputable def gxF_284 (n : Nat) : Nat → List Int32 → List Int64 → List Nat → fx_X → Int32 → fx_X → Prop := Nat.rec (motive := fun _ => Nat → List Int32 → List Int64 → List Nat → fx_X → Int32 → fx_X → Prop) (fun _ _ _ _ _ _ _ => False) (fun _ P l is ls rs X v X' => (l = 18 ∧ ∃ (y1 : Int32) (y2 : Int32), is = [y1, y2] ∧ ls = [] ∧ rs = [] ∧ gxT_284_18 P y1 y2 X v X') ∨ (l = 44 ∧ ∃ (y1 : Int32) (y2 : Int32), is = [y1, y2] ∧ ls = [] ∧ rs = [] ∧ gxT_284_44 P y1 y2 X v X')) n
theorem gxI_284_18 {n : Nat} {y1 : Int32} {y2 : Int32} {X : fx_X} {v : Int32} {X' : fx_X} (h : gxT_284_18 (gxF_284 n) y1 y2 X v X') : gxF_284 (n + 1) 18 [y1, y2] [] [] X v X' := Or.inl ⟨rfl, y1, y2, rfl, rfl, rfl, h⟩
theorem gxO_284_18 {n : Nat} {y1 : Int32} {y2 : Int32} {X : fx_X} {v : Int32} {X' : fx_X} (h : gxF_284 (n + 1) 18 [y1, y2] [] [] X v X') : gxT_284_18 (gxF_284 n) y1 y2 X v X' := by
  rcases h with ⟨-, _, _, e1, e2, e3, h⟩ | ⟨e, -⟩
  · cases e1; cases e2; cases e3; exact h
  · exact absurd e (by decide)
theorem gxI_284_44 {n : Nat} {y1 : Int32} {y2 : Int32} {X : fx_X} {v : Int32} {X' : fx_X} (h : gxT_284_44 (gxF_284 n) y1 y2 X v X') : gxF_284 (n + 1) 44 [y1, y2] [] [] X v X' := Or.inr (⟨rfl, y1, y2, rfl, rfl, rfl, h⟩)
theorem gxO_284_44 {n : Nat} {y1 : Int32} {y2 : Int32} {X : fx_X} {v : Int32} {X' : fx_X} (h : gxF_284 (n + 1) 44 [y1, y2] [] [] X v X') : gxT_284_44 (gxF_284 n) y1 y2 X v X' := by
  rcases h with ⟨e, -⟩ | ⟨-, _, _, e1, e2, e3, h⟩
  · exact absurd e (by decide)
  · cases e1; cases e2; cases e3; exact h
def gx_284 (X : fx_X) (v : Int32) (X' : fx_X) : Prop := ∃ n : Nat, gxE_284 (gxF_284 n) X v X'
theorem gxL_284 {tb : aj_T} : ∀ N : Nat, (∀ (lv : aj_V) (y1 : Int32) (y2 : Int32) (X : fx_X), aj_lv lv 0 = some (.ref 117) → aj_lv lv 1 = some (.int y1) → aj_lv lv 2 = some (.int y2) → fx_W tb aj_m284 N 18 lv [] X (fx_Q fx_qI (fun v X' => ∃ n : Nat, gxF_284 n 18 [y1, y2] [] [] X v X'))) ∧ (∀ (lv : aj_V) (y1 : Int32) (y2 : Int32) (X : fx_X), aj_lv lv 0 = some (.ref 117) → aj_lv lv 1 = some (.int y1) → aj_lv lv 2 = some (.int y2) → fx_W tb aj_m284 N 44 lv [] X (fx_Q fx_qI (fun v X' => ∃ n : Nat, gxF_284 n 44 [y1, y2] [] [] X v X'))) := by
  intro N
  induction N with
  | zero => exact ⟨(by intros; exact fx_z), (by intros; exact fx_z)⟩
  | succ N ih =>
    refine ⟨?_, ?_⟩
    · intro lv y1 y2 X hlv_0 hlv_1 hlv_2
      refine fx_mono (Q := fx_Q fx_qI (fun v X' => ∃ n : Nat, gxT_284_18 (gxF_284 n) y1 y2 X v X')) (fun r X' ⟨v, e, n, z⟩ => ⟨v, e, n + 1, gxI_284_18 z⟩) ?_
      unfold gxT_284_18
      refine fx_i0 aj_d284 rfl (Nat.le_refl _) (fun _ => rfl) hlv_2 ?_
      refine fx_n (pc' := 21) (lv' := lv) (st' := [.int ((Int8.ofInt 32).toInt32), .int y2]) aj_d284 rfl (Nat.le_succ _) (fun _ => rfl) ?_
      refine fx_b (tgt := 42) aj_d284 rfl (Nat.le_succ _) rfl (fun q8 => ?_) (fun q8 => ?_)
      · skip
        refine fx_qe (c := (y2).toInt < 32) (fx_t_ge q8) ?_
        show fx_W _ _ _ 42 lv [] _ _
        refine fx_n (pc' := 43) (lv' := lv) (st' := [.int (Int32.ofInt 0)]) aj_d284 rfl (Nat.le_succ _) (fun _ => rfl) ?_
        refine fx_s0 (j := 2) aj_d284 rfl (Nat.le_succ _) (by decide) (fun _ => rfl) ?_
        obtain ⟨lv9, elv9⟩ : ∃ l, l = aj_set1 lv 2 (.int (Int32.ofInt 0)) := ⟨_, rfl⟩
        rw [← elv9]
        have hlv9_0 : aj_lv lv9 0 = some (.ref 117) := fx_e1 elv9 hlv_0 (by decide) (Or.inl (by decide))
        have hlv9_1 : aj_lv lv9 1 = some (.int y1) := fx_e1 elv9 hlv_1 (by decide) (Or.inr rfl)
        have hlv9_2 : aj_lv lv9 2 = some (.int (Int32.ofInt 0)) := by rw [elv9]; exact ak_set1_eq _ _ _
        show fx_W _ _ _ 44 lv9 [] _ _
        exact (ih.2) lv9 (y1) ((Int32.ofInt 0)) X  hlv9_0 hlv9_1 hlv9_2
      · skip
        refine fx_qi (c := (y2).toInt < 32) (fx_f_ge q8) ?_
        show fx_W _ _ _ 24 lv [] _ _
        refine fx_i2 aj_d284 rfl (Nat.le_succ _) (fun _ => rfl) hlv_0 ?_
        refine fx_gF aj_d284 rfl (Nat.le_succ _) rfl rfl fx_in_11_14 (t := 130) rfl (fun hA10 => ?_)
        refine fx_i0 aj_d284 rfl (Nat.le_succ _) (fun _ => rfl) hlv_2 ?_
        refine fx_i2 aj_d284 rfl (Nat.le_succ _) (fun _ => rfl) hlv_0 ?_
        refine fx_gF aj_d284 rfl (Nat.le_succ _) rfl rfl fx_in_11_21 (t := 137) rfl (fun hA11 => ?_)
        refine fx_i0 aj_d284 rfl (Nat.le_succ _) (fun _ => rfl) hlv_2 ?_
        refine fx_ld aj_d284 (Or.inl rfl) rfl (Nat.le_succ _) (fun g120 g121 => ?_)
        show fx_W _ _ _ 35 lv [.int (X.1 137 (y2).toInt.toNat), .int y2, .ref 130] _ _
        refine fx_qa (c := 0 ≤ (y2).toInt ∧ (y2).toInt < ((1024 : Nat) : Int)) ⟨g120, fx_lnk g121 hA11⟩ ?_
        refine fx_st aj_d284 (Or.inl ⟨rfl, rfl⟩) rfl (Nat.le_succ _) (fun g130 g131 => ?_)
        show fx_W _ _ _ _ _ _ (fx_wI X 130 (y2).toInt.toNat (X.1 137 (y2).toInt.toNat)) _
        refine fx_qa (c := 0 ≤ (y2).toInt ∧ (y2).toInt < ((32 : Nat) : Int)) ⟨g130, fx_lnk g131 hA10⟩ ?_
        refine fx_qX (fun X14 eX14 => ?_)
        show fx_W _ _ _ 36 lv [] _ _
        refine fx_incq aj_d284 rfl (Nat.le_succ _) hlv_2 (by decide) (fun x15 ex15 => ?_)
        obtain ⟨lv16, elv16⟩ : ∃ l, l = aj_set1 lv 2 (.int x15) := ⟨_, rfl⟩
        rw [← elv16]
        have hlv16_0 : aj_lv lv16 0 = some (.ref 117) := fx_e1 elv16 hlv_0 (by decide) (Or.inl (by decide))
        have hlv16_1 : aj_lv lv16 1 = some (.int y1) := fx_e1 elv16 hlv_1 (by decide) (Or.inr rfl)
        have hlv16_2 : aj_lv lv16 2 = some (.int x15) := by rw [elv16]; exact ak_set1_eq _ _ _
        show fx_W _ _ _ 39 lv16 [] _ _
        refine fx_n (pc' := 18) (lv' := lv16) (st' := []) aj_d284 rfl (Nat.le_succ _) (fun _ => rfl) ?_
        exact (ih.1) lv16 (y1) (x15) X14  hlv16_0 hlv16_1 hlv16_2
    · intro lv y1 y2 X hlv_0 hlv_1 hlv_2
      refine fx_mono (Q := fx_Q fx_qI (fun v X' => ∃ n : Nat, gxT_284_44 (gxF_284 n) y1 y2 X v X')) (fun r X' ⟨v, e, n, z⟩ => ⟨v, e, n + 1, gxI_284_44 z⟩) ?_
      unfold gxT_284_44
      refine fx_i0 aj_d284 rfl (Nat.le_refl _) (fun _ => rfl) hlv_2 ?_
      refine fx_i2 aj_d284 rfl (Nat.le_succ _) (fun _ => rfl) hlv_0 ?_
      refine fx_gF aj_d284 rfl (Nat.le_succ _) rfl rfl fx_in_11_5 (t := 122) rfl (fun hA17 => ?_)
      refine fx_i2 aj_d284 rfl (Nat.le_succ _) (fun _ => rfl) hlv_0 ?_
      refine fx_gI aj_d284 rfl (Nat.le_succ _) rfl rfl (Or.inl rfl) ?_
      refine fx_ld aj_d284 (Or.inl rfl) rfl (Nat.le_succ _) (fun g180 g181 => ?_)
      show fx_W _ _ _ 54 lv [.int (X.1 122 ((X.1 117 0)).toInt.toNat), .int y2] _ _
      refine fx_qa (c := 0 ≤ ((X.1 117 0)).toInt ∧ ((X.1 117 0)).toInt < ((2 : Nat) : Int)) ⟨g180, fx_lnk g181 hA17⟩ ?_
      refine fx_b (tgt := 95) aj_d284 rfl (Nat.le_succ _) rfl (fun q19 => ?_) (fun q19 => ?_)
      · skip
        refine fx_qe (c := (y2).toInt < ((X.1 122 ((X.1 117 0)).toInt.toNat)).toInt) (fx_t_ge q19) ?_
        show fx_W _ _ _ 95 lv [] _ _
        refine fx_i0 aj_d284 rfl (Nat.le_succ _) (fun _ => rfl) hlv_1 ?_
        exact fx_ri aj_d284 rfl ⟨_, rfl, 0, rfl, rfl⟩
      · skip
        refine fx_qi (c := (y2).toInt < ((X.1 122 ((X.1 117 0)).toInt.toNat)).toInt) (fx_f_ge q19) ?_
        show fx_W _ _ _ 57 lv [] _ _
        refine fx_i2 aj_d284 rfl (Nat.le_succ _) (fun _ => rfl) hlv_0 ?_
        refine fx_i2 aj_d284 rfl (Nat.le_succ _) (fun _ => rfl) hlv_0 ?_
        refine fx_gI aj_d284 rfl (Nat.le_succ _) rfl rfl (Or.inl rfl) ?_
        refine fx_i0 aj_d284 rfl (Nat.le_succ _) (fun _ => rfl) hlv_2 ?_
        refine fx_cv aj_d284 rfl (Nat.le_succ _) rfl [_, _] rfl rfl (gx_247_ok (X.1 117 0) y2) ?_
        rintro _ X20 ⟨w21, rfl, hR20⟩ hok20 hle20
        refine fx_qc hR20 ?_
        show fx_W _ _ _ 66 lv [.int w21] _ _
        refine fx_b0 (tgt := 87) aj_d284 rfl (Nat.le_succ _) rfl (fun q22 => ?_) (fun q22 => ?_)
        · skip
          refine fx_qi (c := (w21).toInt = 0) (fx_t_eq q22) ?_
          show fx_W _ _ _ 87 lv [] _ _
          refine fx_i0 aj_d284 rfl (Nat.le_succ _) (fun _ => rfl) hlv_1 ?_
          refine fx_s0 (j := 1) aj_d284 rfl (Nat.le_succ _) (by decide) (fun _ => rfl) ?_
          obtain ⟨lv23, elv23⟩ : ∃ l, l = aj_set1 lv 1 (.int y1) := ⟨_, rfl⟩
          rw [← elv23]
          have hlv23_0 : aj_lv lv23 0 = some (.ref 117) := fx_e1 elv23 hlv_0 (by decide) (Or.inr rfl)
          have hlv23_2 : aj_lv lv23 2 = some (.int y2) := fx_e1 elv23 hlv_2 (by decide) (Or.inl (by decide))
          have hlv23_1 : aj_lv lv23 1 = some (.int y1) := by rw [elv23]; exact ak_set1_eq _ _ _
          show fx_W _ _ _ 89 lv23 [] _ _
          refine fx_incq aj_d284 rfl (Nat.le_succ _) hlv23_2 (by decide) (fun x24 ex24 => ?_)
          obtain ⟨lv25, elv25⟩ : ∃ l, l = aj_set1 lv23 2 (.int x24) := ⟨_, rfl⟩
          rw [← elv25]
          have hlv25_0 : aj_lv lv25 0 = some (.ref 117) := fx_e1 elv25 hlv23_0 (by decide) (Or.inl (by decide))
          have hlv25_1 : aj_lv lv25 1 = some (.int y1) := fx_e1 elv25 hlv23_1 (by decide) (Or.inr rfl)
          have hlv25_2 : aj_lv lv25 2 = some (.int x24) := by rw [elv25]; exact ak_set1_eq _ _ _
          show fx_W _ _ _ 92 lv25 [] _ _
          refine fx_n (pc' := 44) (lv' := lv25) (st' := []) aj_d284 rfl (Nat.le_succ _) (fun _ => rfl) ?_
          exact (ih.2) lv25 (y1) (x24) X20  hlv25_0 hlv25_1 hlv25_2
        · skip
          refine fx_qe (c := (w21).toInt = 0) (fx_f_eq q22) ?_
          show fx_W _ _ _ 69 lv [] _ _
          refine fx_i2 aj_d284 rfl (Nat.le_succ _) (fun _ => rfl) hlv_0 ?_
          refine fx_gF aj_d284 rfl (Nat.le_succ _) rfl rfl fx_in_11_14 (t := 130) rfl (fun hA26 => ?_)
          refine fx_n (pc' := 74) (lv' := lv) (st' := [.int (Int32.ofInt 0), .ref 130]) aj_d284 rfl (Nat.le_succ _) (fun _ => rfl) ?_
          refine fx_i0 aj_d284 rfl (Nat.le_succ _) (fun _ => rfl) hlv_2 ?_
          refine fx_cs aj_d284 rfl (Nat.le_succ _) rfl rfl [_, _, _] rfl rfl (gx_227_ok 130 (Int32.ofInt 0) y2) ?_
          rintro _ X27 ⟨w28, rfl, hR27⟩ hok27 hle27
          refine fx_qc hR27 ?_
          show fx_W _ _ _ 78 lv [.int w28] _ _
          refine fx_b0 (tgt := 87) aj_d284 rfl (Nat.le_succ _) rfl (fun q29 => ?_) (fun q29 => ?_)
          · skip
            refine fx_qi (c := (w28).toInt = 0) (fx_t_eq q29) ?_
            show fx_W _ _ _ 87 lv [] _ _
            refine fx_i0 aj_d284 rfl (Nat.le_succ _) (fun _ => rfl) hlv_1 ?_
            refine fx_s0 (j := 1) aj_d284 rfl (Nat.le_succ _) (by decide) (fun _ => rfl) ?_
            obtain ⟨lv30, elv30⟩ : ∃ l, l = aj_set1 lv 1 (.int y1) := ⟨_, rfl⟩
            rw [← elv30]
            have hlv30_0 : aj_lv lv30 0 = some (.ref 117) := fx_e1 elv30 hlv_0 (by decide) (Or.inr rfl)
            have hlv30_2 : aj_lv lv30 2 = some (.int y2) := fx_e1 elv30 hlv_2 (by decide) (Or.inl (by decide))
            have hlv30_1 : aj_lv lv30 1 = some (.int y1) := by rw [elv30]; exact ak_set1_eq _ _ _
            show fx_W _ _ _ 89 lv30 [] _ _
            refine fx_incq aj_d284 rfl (Nat.le_succ _) hlv30_2 (by decide) (fun x31 ex31 => ?_)
            obtain ⟨lv32, elv32⟩ : ∃ l, l = aj_set1 lv30 2 (.int x31) := ⟨_, rfl⟩
            rw [← elv32]
            have hlv32_0 : aj_lv lv32 0 = some (.ref 117) := fx_e1 elv32 hlv30_0 (by decide) (Or.inl (by decide))
            have hlv32_1 : aj_lv lv32 1 = some (.int y1) := fx_e1 elv32 hlv30_1 (by decide) (Or.inr rfl)
            have hlv32_2 : aj_lv lv32 2 = some (.int x31) := by rw [elv32]; exact ak_set1_eq _ _ _
            show fx_W _ _ _ 92 lv32 [] _ _
            refine fx_n (pc' := 44) (lv' := lv32) (st' := []) aj_d284 rfl (Nat.le_succ _) (fun _ => rfl) ?_
            exact (ih.2) lv32 (y1) (x31) X27  hlv32_0 hlv32_1 hlv32_2
          · skip
            refine fx_qe (c := (w28).toInt = 0) (fx_f_eq q29) ?_
            show fx_W _ _ _ 81 lv [] _ _
            refine fx_i0 aj_d284 rfl (Nat.le_succ _) (fun _ => rfl) hlv_1 ?_
            refine fx_n (pc' := 83) (lv' := lv) (st' := [.int (Int32.ofInt 1), .int y1]) aj_d284 rfl (Nat.le_succ _) (fun _ => rfl) ?_
            refine fx_n (pc' := 84) (lv' := lv) (st' := [.int (y1 + (Int32.ofInt 1))]) aj_d284 rfl (Nat.le_succ _) (fun _ => rfl) ?_
            refine fx_n (pc' := 88) (lv' := lv) (st' := [.int (y1 + (Int32.ofInt 1))]) aj_d284 rfl (Nat.le_succ _) (fun _ => rfl) ?_
            refine fx_qxI (fun x33 ex33 => ?_)
            refine fx_s0 (j := 1) aj_d284 rfl (Nat.le_succ _) (by decide) (fun _ => rfl) ?_
            obtain ⟨lv34, elv34⟩ : ∃ l, l = aj_set1 lv 1 (.int x33) := ⟨_, rfl⟩
            rw [← elv34]
            have hlv34_0 : aj_lv lv34 0 = some (.ref 117) := fx_e1 elv34 hlv_0 (by decide) (Or.inr rfl)
            have hlv34_2 : aj_lv lv34 2 = some (.int y2) := fx_e1 elv34 hlv_2 (by decide) (Or.inl (by decide))
            have hlv34_1 : aj_lv lv34 1 = some (.int x33) := by rw [elv34]; exact ak_set1_eq _ _ _
            show fx_W _ _ _ 89 lv34 [] _ _
            refine fx_incq aj_d284 rfl (Nat.le_succ _) hlv34_2 (by decide) (fun x35 ex35 => ?_)
            obtain ⟨lv36, elv36⟩ : ∃ l, l = aj_set1 lv34 2 (.int x35) := ⟨_, rfl⟩
            rw [← elv36]
            have hlv36_0 : aj_lv lv36 0 = some (.ref 117) := fx_e1 elv36 hlv34_0 (by decide) (Or.inl (by decide))
            have hlv36_1 : aj_lv lv36 1 = some (.int x33) := fx_e1 elv36 hlv34_1 (by decide) (Or.inr rfl)
            have hlv36_2 : aj_lv lv36 2 = some (.int x35) := by rw [elv36]; exact ak_set1_eq _ _ _
            show fx_W _ _ _ 92 lv36 [] _ _
            refine fx_n (pc' := 44) (lv' := lv36) (st' := []) aj_d284 rfl (Nat.le_succ _) (fun _ => rfl) ?_
            exact (ih.2) lv36 (x33) (x35) X27  hlv36_0 hlv36_1 hlv36_2
theorem gx_284_ok {tb : aj_T} {X : fx_X} : fx_K tb 284 [.ref 117] X (fx_Q fx_qI (fun v X' => gx_284 X v X')) := by
  refine fx_m aj_m284_at rfl (fun N => ?_)
  refine fx_mono (Q := fx_Q fx_qI (fun v X' => ∃ n : Nat, gxE_284 (gxF_284 n) X v X')) (fun r X' h => h) ?_
  unfold gxE_284
  show fx_W _ _ _ 0 [(0, .ref 117)] [] _ _
  obtain ⟨lv1, elv1⟩ : ∃ l : aj_V, l = [(0, .ref 117)] := ⟨_, rfl⟩
  rw [← elv1]
  have hlv1_0 : aj_lv lv1 0 = some (.ref 117) := by rw [elv1]; rfl
  refine fx_i2 aj_d284 rfl (Nat.le_succ _) (fun _ => rfl) hlv1_0 ?_
  refine fx_cv aj_d284 rfl (Nat.le_succ _) rfl [] rfl rfl (gx_282_ok) ?_
  rintro _ X2 ⟨w3, rfl, hR2⟩ hok2 hle2
  refine fx_qc hR2 ?_
  show fx_W _ _ _ 4 lv1 [.int w3] _ _
  refine fx_b0 (tgt := 9) aj_d284 rfl (Nat.le_succ _) rfl (fun q4 => ?_) (fun q4 => ?_)
  · skip
    refine fx_qe (c := (w3).toInt = 0) (fx_t_ne q4) ?_
    show fx_W _ _ _ 9 lv1 [] _ _
    refine fx_i2 aj_d284 rfl (Nat.le_succ _) (fun _ => rfl) hlv1_0 ?_
    refine fx_n (pc' := 11) (lv' := lv1) (st' := [.int (Int32.ofInt 1), .ref 117]) aj_d284 rfl (Nat.le_succ _) (fun _ => rfl) ?_
    refine fx_pI aj_d284 rfl (Nat.le_succ _) rfl rfl (Or.inr (Or.inl rfl)) fx_no_11_13 (by decide) ?_
    refine fx_qX (fun X5 eX5 => ?_)
    show fx_W _ _ _ 14 lv1 [] _ _
    refine fx_n (pc' := 15) (lv' := lv1) (st' := [.int (Int32.ofInt 0)]) aj_d284 rfl (Nat.le_succ _) (fun _ => rfl) ?_
    refine fx_s0 (j := 1) aj_d284 rfl (Nat.le_succ _) (by decide) (fun _ => rfl) ?_
    obtain ⟨lv6, elv6⟩ : ∃ l, l = aj_set1 lv1 1 (.int (Int32.ofInt 0)) := ⟨_, rfl⟩
    rw [← elv6]
    have hlv6_0 : aj_lv lv6 0 = some (.ref 117) := fx_e1 elv6 hlv1_0 (by decide) (Or.inr rfl)
    have hlv6_1 : aj_lv lv6 1 = some (.int (Int32.ofInt 0)) := by rw [elv6]; exact ak_set1_eq _ _ _
    show fx_W _ _ _ 16 lv6 [] _ _
    refine fx_n (pc' := 17) (lv' := lv6) (st' := [.int (Int32.ofInt 0)]) aj_d284 rfl (Nat.le_succ _) (fun _ => rfl) ?_
    refine fx_s0 (j := 2) aj_d284 rfl (Nat.le_succ _) (by decide) (fun _ => rfl) ?_
    obtain ⟨lv7, elv7⟩ : ∃ l, l = aj_set1 lv6 2 (.int (Int32.ofInt 0)) := ⟨_, rfl⟩
    rw [← elv7]
    have hlv7_0 : aj_lv lv7 0 = some (.ref 117) := fx_e1 elv7 hlv6_0 (by decide) (Or.inl (by decide))
    have hlv7_1 : aj_lv lv7 1 = some (.int (Int32.ofInt 0)) := fx_e1 elv7 hlv6_1 (by decide) (Or.inr rfl)
    have hlv7_2 : aj_lv lv7 2 = some (.int (Int32.ofInt 0)) := by rw [elv7]; exact ak_set1_eq _ _ _
    show fx_W _ _ _ 18 lv7 [] _ _
    exact ((gxL_284 N).1) lv7 ((Int32.ofInt 0)) ((Int32.ofInt 0)) X5  hlv7_0 hlv7_1 hlv7_2
  · skip
    refine fx_qi (c := (w3).toInt = 0) (fx_f_ne q4) ?_
    show fx_W _ _ _ 7 lv1 [] _ _
    refine fx_n (pc' := 8) (lv' := lv1) (st' := [.int (Int32.ofInt (-1))]) aj_d284 rfl (Nat.le_succ _) (fun _ => rfl) ?_
    exact fx_ri aj_d284 rfl ⟨_, rfl, 0, rfl, rfl⟩
def gxT_287_4 (p1 : Int32) (P : Nat → List Int32 → List Int64 → List Nat → fx_X → Int32 → fx_X → Prop) (y2 : Int32) (y3 : Int32) (X : fx_X) (v : Int32) (X' : fx_X) : Prop :=
  (if (y3).toInt < (p1).toInt then ((0 ≤ (y3).toInt ∧ (y3).toInt < ((20 : Nat) : Int)) ∧ ∃ x8 : Int32, x8 = (y2 ||| ((Int32.ofInt 1) <<< ((X.1 146 (y3).toInt.toNat) &&& 31))) ∧ ∃ x10 : Int32, x10 = y3 + Int32.ofInt 1 ∧ P 4 [x8, x10] [] [] X v X') else (P 28 [y2, (Int32.ofInt 0)] [] [] X v X'))
def gxT_287_28 (p1 : Int32) (P : Nat → List Int32 → List Int64 → List Nat → fx_X → Int32 → fx_X → Prop) (y2 : Int32) (y3 : Int32) (X : fx_X) (v : Int32) (X' : fx_X) : Prop :=
  (if (y3).toInt < ((X.1 117 61)).toInt then ((0 ≤ (y3).toInt ∧ (y3).toInt < ((1024 : Nat) : Int)) ∧ (if (((X.1 145 (y3).toInt.toNat) &&& y2)).toInt = 0 then (v = (Int32.ofInt 0) ∧ X' = X) else (∃ x16 : Int32, x16 = y3 + Int32.ofInt 1 ∧ P 28 [y2, x16] [] [] X v X'))) else (v = (Int32.ofInt 1) ∧ X' = X))
def gxE_287 (p1 : Int32) (P : Nat → List Int32 → List Int64 → List Nat → fx_X → Int32 → fx_X → Prop) (X : fx_X) (v : Int32) (X' : fx_X) : Prop :=
  P 4 [(Int32.ofInt 0), (Int32.ofInt 0)] [] [] X v X'
noncomputable def gxF_287 (p1 : Int32) (n : Nat) : Nat → List Int32 → List Int64 → List Nat → fx_X → Int32 → fx_X → Prop := Nat.rec (motive := fun _ => Nat → List Int32 → List Int64 → List Nat → fx_X → Int32 → fx_X → Prop) (fun _ _ _ _ _ _ _ => False) (fun _ P l is ls rs X v X' => (l = 4 ∧ ∃ (y2 : Int32) (y3 : Int32), is = [y2, y3] ∧ ls = [] ∧ rs = [] ∧ gxT_287_4 p1 P y2 y3 X v X') ∨ (l = 28 ∧ ∃ (y2 : Int32) (y3 : Int32), is = [y2, y3] ∧ ls = [] ∧ rs = [] ∧ gxT_287_28 p1 P y2 y3 X v X')) n
theorem gxI_287_4 {p1 : Int32} {n : Nat} {y2 : Int32} {y3 : Int32} {X : fx_X} {v : Int32} {X' : fx_X} (h : gxT_287_4 p1 (gxF_287 p1 n) y2 y3 X v X') : gxF_287 p1 (n + 1) 4 [y2, y3] [] [] X v X' := Or.inl ⟨rfl, y2, y3, rfl, rfl, rfl, h⟩
theorem gxO_287_4 {p1 : Int32} {n : Nat} {y2 : Int32} {y3 : Int32} {X : fx_X} {v : Int32} {X' : fx_X} (h : gxF_287 p1 (n + 1) 4 [y2, y3] [] [] X v X') : gxT_287_4 p1 (gxF_287 p1 n) y2 y3 X v X' := by
  rcases h with ⟨-, _, _, e1, e2, e3, h⟩ | ⟨e, -⟩
  · cases e1; cases e2; cases e3; exact h
  · exact absurd e (by decide)
theorem gxI_287_28 {p1 : Int32} {n : Nat} {y2 : Int32} {y3 : Int32} {X : fx_X} {v : Int32} {X' : fx_X} (h : gxT_287_28 p1 (gxF_287 p1 n) y2 y3 X v X') : gxF_287 p1 (n + 1) 28 [y2, y3] [] [] X v X' := Or.inr (⟨rfl, y2, y3, rfl, rfl, rfl, h⟩)
theorem gxO_287_28 {p1 : Int32} {n : Nat} {y2 : Int32} {y3 : Int32} {X : fx_X} {v : Int32} {X' : fx_X} (h : gxF_287 p1 (n + 1) 28 [y2, y3] [] [] X v X') : gxT_287_28 p1 (gxF_287 p1 n) y2 y3 X v X' := by
  rcases h with ⟨e, -⟩ | ⟨-, _, _, e1, e2, e3, h⟩
  · exact absurd e (by decide)
  · cases e1; cases e2; cases e3; exact h
def gx_287 (p1 : Int32) (X : fx_X) (v : Int32) (X' : fx_X) : Prop := ∃ n : Nat, gxE_287 p1 (gxF_287 p1 n) X v X'
theorem gxL_287 {tb : aj_T} (p1 : Int32) : ∀ N : Nat, (∀ (lv : aj_V) (y2 : Int32) (y3 : Int32) (X : fx_X), aj_lv lv 0 = some (.ref 117) → aj_lv lv 1 = some (.int p1) → aj_lv lv 2 = some (.int y2) → aj_lv lv 3 = some (.int y3) → fx_W tb aj_m287 N 4 lv [] X (fx_Q fx_qI (fun v X' => ∃ n : Nat, gxF_287 p1 n 4 [y2, y3] [] [] X v X'))) ∧ (∀ (lv : aj_V) (y2 : Int32) (y3 : Int32) (X : fx_X), aj_lv lv 0 = some (.ref 117) → aj_lv lv 2 = some (.int y2) → aj_lv lv 3 = some (.int y3) → fx_W tb aj_m287 N 28 lv [] X (fx_Q fx_qI (fun v X' => ∃ n : Nat, gxF_287 p1 n 28 [y2, y3] [] [] X v X'))) := by
  intro N
  induction N with
  | zero => exact ⟨(by intros; exact fx_z), (by intros; exact fx_z)⟩
  | succ N ih =>
    refine ⟨?_, ?_⟩
    · intro lv y2 y3 X hlv_0 hlv_1 hlv_2 hlv_3
      refine fx_mono (Q := fx_Q fx_qI (fun v X' => ∃ n : Nat, gxT_287_4 p1 (gxF_287 p1 n) y2 y3 X v X')) (fun r X' ⟨v, e, n, z⟩ => ⟨v, e, n + 1, gxI_287_4 z⟩) ?_
      unfold gxT_287_4
      refine fx_i0 aj_d287 rfl (Nat.le_refl _) (fun _ => rfl) hlv_3 ?_
      refine fx_i0 aj_d287 rfl (Nat.le_succ _) (fun _ => rfl) hlv_1 ?_
      refine fx_b (tgt := 26) aj_d287 rfl (Nat.le_succ _) rfl (fun q4 => ?_) (fun q4 => ?_)
      · skip
        refine fx_qe (c := (y3).toInt < (p1).toInt) (fx_t_ge q4) ?_
        show fx_W _ _ _ 26 lv [] _ _
        refine fx_n (pc' := 27) (lv' := lv) (st' := [.int (Int32.ofInt 0)]) aj_d287 rfl (Nat.le_succ _) (fun _ => rfl) ?_
        refine fx_s0 (j := 3) aj_d287 rfl (Nat.le_succ _) (by decide) (fun _ => rfl) ?_
        obtain ⟨lv5, elv5⟩ : ∃ l, l = aj_set1 lv 3 (.int (Int32.ofInt 0)) := ⟨_, rfl⟩
        rw [← elv5]
        have hlv5_0 : aj_lv lv5 0 = some (.ref 117) := fx_e1 elv5 hlv_0 (by decide) (Or.inl (by decide))
        have hlv5_2 : aj_lv lv5 2 = some (.int y2) := fx_e1 elv5 hlv_2 (by decide) (Or.inr rfl)
        have hlv5_3 : aj_lv lv5 3 = some (.int (Int32.ofInt 0)) := by rw [elv5]; exact ak_set1_eq _ _ _
        show fx_W _ _ _ 28 lv5 [] _ _
        exact (ih.2) lv5 (y2) ((Int32.ofInt 0)) X  hlv5_0 hlv5_2 hlv5_3
      · skip
        refine fx_qi (c := (y3).toInt < (p1).toInt) (fx_f_ge q4) ?_
        show fx_W _ _ _ 9 lv [] _ _
        refine fx_i0 aj_d287 rfl (Nat.le_succ _) (fun _ => rfl) hlv_2 ?_
        refine fx_n (pc' := 11) (lv' := lv) (st' := [.int (Int32.ofInt 1), .int y2]) aj_d287 rfl (Nat.le_succ _) (fun _ => rfl) ?_
        refine fx_i2 aj_d287 rfl (Nat.le_succ _) (fun _ => rfl) hlv_0 ?_
        refine fx_gF aj_d287 rfl (Nat.le_succ _) rfl rfl fx_in_11_62 (t := 146) rfl (fun hA6 => ?_)
        refine fx_i0 aj_d287 rfl (Nat.le_succ _) (fun _ => rfl) hlv_3 ?_
        refine fx_ld aj_d287 (Or.inl rfl) rfl (Nat.le_succ _) (fun g70 g71 => ?_)
        show fx_W _ _ _ 17 lv [.int (X.1 146 (y3).toInt.toNat), .int (Int32.ofInt 1), .int y2] _ _
        refine fx_qa (c := 0 ≤ (y3).toInt ∧ (y3).toInt < ((20 : Nat) : Int)) ⟨g70, fx_lnk g71 hA6⟩ ?_
        refine fx_n (pc' := 18) (lv' := lv) (st' := [.int ((Int32.ofInt 1) <<< ((X.1 146 (y3).toInt.toNat) &&& 31)), .int y2]) aj_d287 rfl (Nat.le_succ _) (fun _ => rfl) ?_
        refine fx_n (pc' := 19) (lv' := lv) (st' := [.int (y2 ||| ((Int32.ofInt 1) <<< ((X.1 146 (y3).toInt.toNat) &&& 31)))]) aj_d287 rfl (Nat.le_succ _) (fun _ => rfl) ?_
        refine fx_qxI (fun x8 ex8 => ?_)
        refine fx_s0 (j := 2) aj_d287 rfl (Nat.le_succ _) (by decide) (fun _ => rfl) ?_
        obtain ⟨lv9, elv9⟩ : ∃ l, l = aj_set1 lv 2 (.int x8) := ⟨_, rfl⟩
        rw [← elv9]
        have hlv9_0 : aj_lv lv9 0 = some (.ref 117) := fx_e1 elv9 hlv_0 (by decide) (Or.inl (by decide))
        have hlv9_1 : aj_lv lv9 1 = some (.int p1) := fx_e1 elv9 hlv_1 (by decide) (Or.inr rfl)
        have hlv9_3 : aj_lv lv9 3 = some (.int y3) := fx_e1 elv9 hlv_3 (by decide) (Or.inl (by decide))
        have hlv9_2 : aj_lv lv9 2 = some (.int x8) := by rw [elv9]; exact ak_set1_eq _ _ _
        show fx_W _ _ _ 20 lv9 [] _ _
        refine fx_incq aj_d287 rfl (Nat.le_succ _) hlv9_3 (by decide) (fun x10 ex10 => ?_)
        obtain ⟨lv11, elv11⟩ : ∃ l, l = aj_set1 lv9 3 (.int x10) := ⟨_, rfl⟩
        rw [← elv11]
        have hlv11_0 : aj_lv lv11 0 = some (.ref 117) := fx_e1 elv11 hlv9_0 (by decide) (Or.inl (by decide))
        have hlv11_1 : aj_lv lv11 1 = some (.int p1) := fx_e1 elv11 hlv9_1 (by decide) (Or.inl (by decide))
        have hlv11_2 : aj_lv lv11 2 = some (.int x8) := fx_e1 elv11 hlv9_2 (by decide) (Or.inr rfl)
        have hlv11_3 : aj_lv lv11 3 = some (.int x10) := by rw [elv11]; exact ak_set1_eq _ _ _
        show fx_W _ _ _ 23 lv11 [] _ _
        refine fx_n (pc' := 4) (lv' := lv11) (st' := []) aj_d287 rfl (Nat.le_succ _) (fun _ => rfl) ?_
        exact (ih.1) lv11 (x8) (x10) X  hlv11_0 hlv11_1 hlv11_2 hlv11_3
    · intro lv y2 y3 X hlv_0 hlv_2 hlv_3
      refine fx_mono (Q := fx_Q fx_qI (fun v X' => ∃ n : Nat, gxT_287_28 p1 (gxF_287 p1 n) y2 y3 X v X')) (fun r X' ⟨v, e, n, z⟩ => ⟨v, e, n + 1, gxI_287_28 z⟩) ?_
      unfold gxT_287_28
      refine fx_i0 aj_d287 rfl (Nat.le_refl _) (fun _ => rfl) hlv_3 ?_
      refine fx_i2 aj_d287 rfl (Nat.le_succ _) (fun _ => rfl) hlv_0 ?_
      refine fx_gI aj_d287 rfl (Nat.le_succ _) rfl rfl (Or.inl rfl) ?_
      refine fx_b (tgt := 55) aj_d287 rfl (Nat.le_succ _) rfl (fun q12 => ?_) (fun q12 => ?_)
      · skip
        refine fx_qe (c := (y3).toInt < ((X.1 117 61)).toInt) (fx_t_ge q12) ?_
        show fx_W _ _ _ 55 lv [] _ _
        refine fx_n (pc' := 56) (lv' := lv) (st' := [.int (Int32.ofInt 1)]) aj_d287 rfl (Nat.le_succ _) (fun _ => rfl) ?_
        exact fx_ri aj_d287 rfl ⟨_, rfl, 0, rfl, rfl⟩
      · skip
        refine fx_qi (c := (y3).toInt < ((X.1 117 61)).toInt) (fx_f_ge q12) ?_
        show fx_W _ _ _ 36 lv [] _ _
        refine fx_i2 aj_d287 rfl (Nat.le_succ _) (fun _ => rfl) hlv_0 ?_
        refine fx_gF aj_d287 rfl (Nat.le_succ _) rfl rfl fx_in_11_60 (t := 145) rfl (fun hA13 => ?_)
        refine fx_i0 aj_d287 rfl (Nat.le_succ _) (fun _ => rfl) hlv_3 ?_
        refine fx_ld aj_d287 (Or.inl rfl) rfl (Nat.le_succ _) (fun g140 g141 => ?_)
        show fx_W _ _ _ 42 lv [.int (X.1 145 (y3).toInt.toNat)] _ _
        refine fx_qa (c := 0 ≤ (y3).toInt ∧ (y3).toInt < ((1024 : Nat) : Int)) ⟨g140, fx_lnk g141 hA13⟩ ?_
        refine fx_i0 aj_d287 rfl (Nat.le_succ _) (fun _ => rfl) hlv_2 ?_
        refine fx_n (pc' := 44) (lv' := lv) (st' := [.int ((X.1 145 (y3).toInt.toNat) &&& y2)]) aj_d287 rfl (Nat.le_succ _) (fun _ => rfl) ?_
        refine fx_b0 (tgt := 49) aj_d287 rfl (Nat.le_succ _) rfl (fun q15 => ?_) (fun q15 => ?_)
        · skip
          refine fx_qe (c := (((X.1 145 (y3).toInt.toNat) &&& y2)).toInt = 0) (fx_t_ne q15) ?_
          show fx_W _ _ _ 49 lv [] _ _
          refine fx_incq aj_d287 rfl (Nat.le_succ _) hlv_3 (by decide) (fun x16 ex16 => ?_)
          obtain ⟨lv17, elv17⟩ : ∃ l, l = aj_set1 lv 3 (.int x16) := ⟨_, rfl⟩
          rw [← elv17]
          have hlv17_0 : aj_lv lv17 0 = some (.ref 117) := fx_e1 elv17 hlv_0 (by decide) (Or.inl (by decide))
          have hlv17_2 : aj_lv lv17 2 = some (.int y2) := fx_e1 elv17 hlv_2 (by decide) (Or.inr rfl)
          have hlv17_3 : aj_lv lv17 3 = some (.int x16) := by rw [elv17]; exact ak_set1_eq _ _ _
          show fx_W _ _ _ 52 lv17 [] _ _
          refine fx_n (pc' := 28) (lv' := lv17) (st' := []) aj_d287 rfl (Nat.le_succ _) (fun _ => rfl) ?_
          exact (ih.2) lv17 (y2) (x16) X  hlv17_0 hlv17_2 hlv17_3
        · skip
          refine fx_qi (c := (((X.1 145 (y3).toInt.toNat) &&& y2)).toInt = 0) (fx_f_ne q15) ?_
          show fx_W _ _ _ 47 lv [] _ _
          refine fx_n (pc' := 48) (lv' := lv) (st' := [.int (Int32.ofInt 0)]) aj_d287 rfl (Nat.le_succ _) (fun _ => rfl) ?_
          exact fx_ri aj_d287 rfl ⟨_, rfl, 0, rfl, rfl⟩
theorem gx_287_ok {tb : aj_T} (p1 : Int32) {X : fx_X} : fx_K tb 287 [.ref 117, .int p1] X (fx_Q fx_qI (fun v X' => gx_287 p1 X v X')) := by
  refine fx_m aj_m287_at rfl (fun N => ?_)
  refine fx_mono (Q := fx_Q fx_qI (fun v X' => ∃ n : Nat, gxE_287 p1 (gxF_287 p1 n) X v X')) (fun r X' h => h) ?_
  unfold gxE_287
  show fx_W _ _ _ 0 [(0, .ref 117), (1, .int p1)] [] _ _
  obtain ⟨lv1, elv1⟩ : ∃ l : aj_V, l = [(0, .ref 117), (1, .int p1)] := ⟨_, rfl⟩
  rw [← elv1]
  have hlv1_0 : aj_lv lv1 0 = some (.ref 117) := by rw [elv1]; rfl
  have hlv1_1 : aj_lv lv1 1 = some (.int p1) := by rw [elv1]; rfl
  refine fx_n (pc' := 1) (lv' := lv1) (st' := [.int (Int32.ofInt 0)]) aj_d287 rfl (Nat.le_succ _) (fun _ => rfl) ?_
  refine fx_s0 (j := 2) aj_d287 rfl (Nat.le_succ _) (by decide) (fun _ => rfl) ?_
  obtain ⟨lv2, elv2⟩ : ∃ l, l = aj_set1 lv1 2 (.int (Int32.ofInt 0)) := ⟨_, rfl⟩
  rw [← elv2]
  have hlv2_0 : aj_lv lv2 0 = some (.ref 117) := fx_e1 elv2 hlv1_0 (by decide) (Or.inl (by decide))
  have hlv2_1 : aj_lv lv2 1 = some (.int p1) := fx_e1 elv2 hlv1_1 (by decide) (Or.inr rfl)
  have hlv2_2 : aj_lv lv2 2 = some (.int (Int32.ofInt 0)) := by rw [elv2]; exact ak_set1_eq _ _ _
  show fx_W _ _ _ 2 lv2 [] _ _
  refine fx_n (pc' := 3) (lv' := lv2) (st' := [.int (Int32.ofInt 0)]) aj_d287 rfl (Nat.le_succ _) (fun _ => rfl) ?_
  refine fx_s0 (j := 3) aj_d287 rfl (Nat.le_succ _) (by decide) (fun _ => rfl) ?_
  obtain ⟨lv3, elv3⟩ : ∃ l, l = aj_set1 lv2 3 (.int (Int32.ofInt 0)) := ⟨_, rfl⟩
  rw [← elv3]
  have hlv3_0 : aj_lv lv3 0 = some (.ref 117) := fx_e1 elv3 hlv2_0 (by decide) (Or.inl (by decide))
  have hlv3_1 : aj_lv lv3 1 = some (.int p1) := fx_e1 elv3 hlv2_1 (by decide) (Or.inl (by decide))
  have hlv3_2 : aj_lv lv3 2 = some (.int (Int32.ofInt 0)) := fx_e1 elv3 hlv2_2 (by decide) (Or.inr rfl)
  have hlv3_3 : aj_lv lv3 3 = some (.int (Int32.ofInt 0)) := by rw [elv3]; exact ak_set1_eq _ _ _
  show fx_W _ _ _ 4 lv3 [] _ _
  exact ((gxL_287 p1 N).1) lv3 ((Int32.ofInt 0)) ((Int32.ofInt 0)) X  hlv3_0 hlv3_1 hlv3_2 hlv3_3
def gxT_286_19 (p1 : Int32) (P : Nat → List Int32 → List Int64 → List Nat → fx_X → Int32 → fx_X → Prop) (y2 : Int32) (y3 : Int32) (X : fx_X) (v : Int32) (X' : fx_X) : Prop :=
  (if (y3).toInt < (p1).toInt then ((0 ≤ (y3).toInt ∧ (y3).toInt < ((20 : Nat) : Int)) ∧ ∃ X12 : fx_X, X12 = (fx_wI X 146 (y3).toInt.toNat y3) ∧ ∃ x13 : Int32, x13 = y3 + Int32.ofInt 1 ∧ P 19 [y2, x13] [] [] X12 v X') else (P 39 [y2, (Int32.ofInt 1)] [] [] X v X'))
def gxT_286_39 (p1 : Int32) (P : Nat → List Int32 → List Int64 → List Nat → fx_X → Int32 → fx_X → Prop) (y2 : Int32) (y3 : Int32) (X : fx_X) (v : Int32) (X' : fx_X) : Prop :=
  (if (y3).toInt = 0 then (v = (Int32.ofInt 0) ∧ X' = X) else (∃ (w17 : Int32) (X16 : fx_X), gx_287 p1 X w17 X16 ∧ (if (w17).toInt = 0 then (∃ x19 : Int32, x19 = (p1 - (Int32.ofInt 1)) ∧ P 58 [y2, x19] [] [] X16 v X') else (v = (Int32.ofInt 1) ∧ X' = X16))))
def gxT_286_58 (p1 : Int32) (P : Nat → List Int32 → List Int64 → List Nat → fx_X → Int32 → fx_X → Prop) (y2 : Int32) (y4 : Int32) (X : fx_X) (v : Int32) (X' : fx_X) : Prop :=
  (if (y4).toInt < 0 then ((if (y4).toInt < 0 then (P 39 [y2, (Int32.ofInt 0)] [] [] X v X') else ((0 ≤ (y4).toInt ∧ (y4).toInt < ((20 : Nat) : Int)) ∧ (0 ≤ (y4).toInt ∧ (y4).toInt < ((20 : Nat) : Int)) ∧ ∃ X30 : fx_X, X30 = (fx_wI X 146 (y4).toInt.toNat ((X.1 146 (y4).toInt.toNat) + (Int32.ofInt 1))) ∧ ∃ x31 : Int32, x31 = (y4 + (Int32.ofInt 1)) ∧ P 117 [y2, (Int32.ofInt 1), x31] [] [] X30 v X'))) else ((0 ≤ (y4).toInt ∧ (y4).toInt < ((20 : Nat) : Int)) ∧ (if ((X.1 146 (y4).toInt.toNat)).toInt = (((y2 - p1) + y4)).toInt then (∃ x47 : Int32, x47 = y4 + Int32.ofInt (-1) ∧ P 58 [y2, x47] [] [] X v X') else ((if (y4).toInt < 0 then (P 39 [y2, (Int32.ofInt 0)] [] [] X v X') else ((0 ≤ (y4).toInt ∧ (y4).toInt < ((20 : Nat) : Int)) ∧ (0 ≤ (y4).toInt ∧ (y4).toInt < ((20 : Nat) : Int)) ∧ ∃ X44 : fx_X, X44 = (fx_wI X 146 (y4).toInt.toNat ((X.1 146 (y4).toInt.toNat) + (Int32.ofInt 1))) ∧ ∃ x45 : Int32, x45 = (y4 + (Int32.ofInt 1)) ∧ P 117 [y2, (Int32.ofInt 1), x45] [] [] X44 v X'))))))
def gxT_286_117 (p1 : Int32) (P : Nat → List Int32 → List Int64 → List Nat → fx_X → Int32 → fx_X → Prop) (y2 : Int32) (y3 : Int32) (y5 : Int32) (X : fx_X) (v : Int32) (X' : fx_X) : Prop :=
  (if (y5).toInt < (p1).toInt then ((0 ≤ ((y5 - (Int32.ofInt 1))).toInt ∧ ((y5 - (Int32.ofInt 1))).toInt < ((20 : Nat) : Int)) ∧ (0 ≤ (y5).toInt ∧ (y5).toInt < ((20 : Nat) : Int)) ∧ ∃ X54 : fx_X, X54 = (fx_wI X 146 (y5).toInt.toNat ((X.1 146 ((y5 - (Int32.ofInt 1))).toInt.toNat) + (Int32.ofInt 1))) ∧ ∃ x55 : Int32, x55 = y5 + Int32.ofInt 1 ∧ P 117 [y2, y3, x55] [] [] X54 v X') else (P 39 [y2, y3] [] [] X v X'))
def gxE_286 (p1 : Int32) (P : Nat → List Int32 → List Int64 → List Nat → fx_X → Int32 → fx_X → Prop) (X : fx_X) (v : Int32) (X' : fx_X) : Prop :=
  (0 ≤ ((X.1 117 0)).toInt ∧ ((X.1 117 0)).toInt < ((2 : Nat) : Int)) ∧ ∃ x4 : Int32, x4 = (X.1 127 ((X.1 117 0)).toInt.toNat) ∧ (if (x4).toInt < (p1).toInt then (v = (Int32.ofInt 1) ∧ X' = X) else (P 19 [x4, (Int32.ofInt 0)] [] [] X v X'))
noncomputable def gxF_286 (p1 : Int32) (n : Nat) : Nat → List Int32 → List Int64 → List Nat → fx_X → Int32 → fx_X → Prop := Nat.rec (motive := fun _ => Nat → List Int32 → List Int64 → List Nat → fx_X → Int32 → fx_X → Prop) (fun _ _ _ _ _ _ _ => False) (fun _ P l is ls rs X v X' => (l = 19 ∧ ∃ (y2 : Int32) (y3 : Int32), is = [y2, y3] ∧ ls = [] ∧ rs = [] ∧ gxT_286_19 p1 P y2 y3 X v X') ∨ (l = 39 ∧ ∃ (y2 : Int32) (y3 : Int32), is = [y2, y3] ∧ ls = [] ∧ rs = [] ∧ gxT_286_39 p1 P y2 y3 X v X') ∨ (l = 58 ∧ ∃ (y2 : Int32) (y4 : Int32), is = [y2, y4] ∧ ls = [] ∧ rs = [] ∧ gxT_286_58 p1 P y2 y4 X v X') ∨ (l = 117 ∧ ∃ (y2 : Int32) (y3 : Int32) (y5 : Int32), is = [y2, y3, y5] ∧ ls = [] ∧ rs = [] ∧ gxT_286_117 p1 P y2 y3 y5 X v X')) n
theorem gxI_286_19 {p1 : Int32} {n : Nat} {y2 : Int32} {y3 : Int32} {X : fx_X} {v : Int32} {X' : fx_X} (h : gxT_286_19 p1 (gxF_286 p1 n) y2 y3 X v X') : gxF_286 p1 (n + 1) 19 [y2, y3] [] [] X v X' := Or.inl ⟨rfl, y2, y3, rfl, rfl, rfl, h⟩
theorem gxO_286_19 {p1 : Int32} {n : Nat} {y2 : Int32} {y3 : Int32} {X : fx_X} {v : Int32} {X' : fx_X} (h : gxF_286 p1 (n + 1) 19 [y2, y3] [] [] X v X') : gxT_286_19 p1 (gxF_286 p1 n) y2 y3 X v X' := by
  rcases h with ⟨-, _, _, e1, e2, e3, h⟩ | ⟨e, -⟩ | ⟨e, -⟩ | ⟨e, -⟩
  · cases e1; cases e2; cases e3; exact h
  · exact absurd e (by decide)
  · exact absurd e (by decide)
  · exact absurd e (by decide)
theorem gxI_286_39 {p1 : Int32} {n : Nat} {y2 : Int32} {y3 : Int32} {X : fx_X} {v : Int32} {X' : fx_X} (h : gxT_286_39 p1 (gxF_286 p1 n) y2 y3 X v X') : gxF_286 p1 (n + 1) 39 [y2, y3] [] [] X v X' := Or.inr (Or.inl ⟨rfl, y2, y3, rfl, rfl, rfl, h⟩)
theorem gxO_286_39 {p1 : Int32} {n : Nat} {y2 : Int32} {y3 : Int32} {X : fx_X} {v : Int32} {X' : fx_X} (h : gxF_286 p1 (n + 1) 39 [y2, y3] [] [] X v X') : gxT_286_39 p1 (gxF_286 p1 n) y2 y3 X v X' := by
  rcases h with ⟨e, -⟩ | ⟨-, _, _, e1, e2, e3, h⟩ | ⟨e, -⟩ | ⟨e, -⟩
  · exact absurd e (by decide)
  · cases e1; cases e2; cases e3; exact h
  · exact absurd e (by decide)
  · exact absurd e (by decide)
theorem gxI_286_58 {p1 : Int32} {n : Nat} {y2 : Int32} {y4 : Int32} {X : fx_X} {v : Int32} {X' : fx_X} (h : gxT_286_58 p1 (gxF_286 p1 n) y2 y4 X v X') : gxF_286 p1 (n + 1) 58 [y2, y4] [] [] X v X' := Or.inr (Or.inr (Or.inl ⟨rfl, y2, y4, rfl, rfl, rfl, h⟩))
theorem gxO_286_58 {p1 : Int32} {n : Nat} {y2 : Int32} {y4 : Int32} {X : fx_X} {v : Int32} {X' : fx_X} (h : gxF_286 p1 (n + 1) 58 [y2, y4] [] [] X v X') : gxT_286_58 p1 (gxF_286 p1 n) y2 y4 X v X' := by
  rcases h with ⟨e, -⟩ | ⟨e, -⟩ | ⟨-, _, _, e1, e2, e3, h⟩ | ⟨e, -⟩
  · exact absurd e (by decide)
  · exact absurd e (by decide)
  · cases e1; cases e2; cases e3; exact h
  · exact absurd e (by decide)
theorem gxI_286_117 {p1 : Int32} {n : Nat} {y2 : Int32} {y3 : Int32} {y5 : Int32} {X : fx_X} {v : Int32} {X' : fx_X} (h : gxT_286_117 p1 (gxF_286 p1 n) y2 y3 y5 X v X') : gxF_286 p1 (n + 1) 117 [y2, y3, y5] [] [] X v X' := Or.inr (Or.inr (Or.inr (⟨rfl, y2, y3, y5, rfl, rfl, rfl, h⟩)))
theorem gxO_286_117 {p1 : Int32} {n : Nat} {y2 : Int32} {y3 : Int32} {y5 : Int32} {X : fx_X} {v : Int32} {X' : fx_X} (h : gxF_286 p1 (n + 1) 117 [y2, y3, y5] [] [] X v X') : gxT_286_117 p1 (gxF_286 p1 n) y2 y3 y5 X v X' := by
  rcases h with ⟨e, -⟩ | ⟨e, -⟩ | ⟨e, -⟩ | ⟨-, _, _, _, e1, e2, e3, h⟩
  · exact absurd e (by decide)
  · exact absurd e (by decide)
  · exact absurd e (by decide)
  · cases e1; cases e2; cases e3; exact h
def gx_286 (p1 : Int32) (X : fx_X) (v : Int32) (X' : fx_X) : Prop := ∃ n : Nat, gxE_286 p1 (gxF_286 p1 n) X v X'
theorem gxL_286 {tb : aj_T} (p1 : Int32) : ∀ N : Nat, (∀ (lv : aj_V) (y2 : Int32) (y3 : Int32) (X : fx_X), aj_lv lv 0 = some (.ref 117) → aj_lv lv 1 = some (.int p1) → aj_lv lv 2 = some (.int y2) → aj_lv lv 3 = some (.int y3) → fx_W tb aj_m286 N 19 lv [] X (fx_Q fx_qI (fun v X' => ∃ n : Nat, gxF_286 p1 n 19 [y2, y3] [] [] X v X'))) ∧ (∀ (lv : aj_V) (y2 : Int32) (y3 : Int32) (X : fx_X), aj_lv lv 0 = some (.ref 117) → aj_lv lv 1 = some (.int p1) → aj_lv lv 2 = some (.int y2) → aj_lv lv 3 = some (.int y3) → fx_W tb aj_m286 N 39 lv [] X (fx_Q fx_qI (fun v X' => ∃ n : Nat, gxF_286 p1 n 39 [y2, y3] [] [] X v X'))) ∧ (∀ (lv : aj_V) (y2 : Int32) (y4 : Int32) (X : fx_X), aj_lv lv 0 = some (.ref 117) → aj_lv lv 1 = some (.int p1) → aj_lv lv 2 = some (.int y2) → aj_lv lv 4 = some (.int y4) → fx_W tb aj_m286 N 58 lv [] X (fx_Q fx_qI (fun v X' => ∃ n : Nat, gxF_286 p1 n 58 [y2, y4] [] [] X v X'))) ∧ (∀ (lv : aj_V) (y2 : Int32) (y3 : Int32) (y5 : Int32) (X : fx_X), aj_lv lv 0 = some (.ref 117) → aj_lv lv 1 = some (.int p1) → aj_lv lv 2 = some (.int y2) → aj_lv lv 3 = some (.int y3) → aj_lv lv 5 = some (.int y5) → fx_W tb aj_m286 N 117 lv [] X (fx_Q fx_qI (fun v X' => ∃ n : Nat, gxF_286 p1 n 117 [y2, y3, y5] [] [] X v X'))) := by
  intro N
  induction N with
  | zero => exact ⟨(by intros; exact fx_z), (by intros; exact fx_z), (by intros; exact fx_z), (by intros; exact fx_z)⟩
  | succ N ih =>
    refine ⟨?_, ?_, ?_, ?_⟩
    · intro lv y2 y3 X hlv_0 hlv_1 hlv_2 hlv_3
      refine fx_mono (Q := fx_Q fx_qI (fun v X' => ∃ n : Nat, gxT_286_19 p1 (gxF_286 p1 n) y2 y3 X v X')) (fun r X' ⟨v, e, n, z⟩ => ⟨v, e, n + 1, gxI_286_19 z⟩) ?_
      unfold gxT_286_19
      refine fx_i0 aj_d286 rfl (Nat.le_refl _) (fun _ => rfl) hlv_3 ?_
      refine fx_i0 aj_d286 rfl (Nat.le_succ _) (fun _ => rfl) hlv_1 ?_
      refine fx_b (tgt := 37) aj_d286 rfl (Nat.le_succ _) rfl (fun q8 => ?_) (fun q8 => ?_)
      · skip
        refine fx_qe (c := (y3).toInt < (p1).toInt) (fx_t_ge q8) ?_
        show fx_W _ _ _ 37 lv [] _ _
        refine fx_n (pc' := 38) (lv' := lv) (st' := [.int (Int32.ofInt 1)]) aj_d286 rfl (Nat.le_succ _) (fun _ => rfl) ?_
        refine fx_s0 (j := 3) aj_d286 rfl (Nat.le_succ _) (by decide) (fun _ => rfl) ?_
        obtain ⟨lv9, elv9⟩ : ∃ l, l = aj_set1 lv 3 (.int (Int32.ofInt 1)) := ⟨_, rfl⟩
        rw [← elv9]
        have hlv9_0 : aj_lv lv9 0 = some (.ref 117) := fx_e1 elv9 hlv_0 (by decide) (Or.inl (by decide))
        have hlv9_1 : aj_lv lv9 1 = some (.int p1) := fx_e1 elv9 hlv_1 (by decide) (Or.inl (by decide))
        have hlv9_2 : aj_lv lv9 2 = some (.int y2) := fx_e1 elv9 hlv_2 (by decide) (Or.inr rfl)
        have hlv9_3 : aj_lv lv9 3 = some (.int (Int32.ofInt 1)) := by rw [elv9]; exact ak_set1_eq _ _ _
        show fx_W _ _ _ 39 lv9 [] _ _
        exact (ih.2.1) lv9 (y2) ((Int32.ofInt 1)) X  hlv9_0 hlv9_1 hlv9_2 hlv9_3
      · skip
        refine fx_qi (c := (y3).toInt < (p1).toInt) (fx_f_ge q8) ?_
        show fx_W _ _ _ 24 lv [] _ _
        refine fx_i2 aj_d286 rfl (Nat.le_succ _) (fun _ => rfl) hlv_0 ?_
        refine fx_gF aj_d286 rfl (Nat.le_succ _) rfl rfl fx_in_11_62 (t := 146) rfl (fun hA10 => ?_)
        refine fx_i0 aj_d286 rfl (Nat.le_succ _) (fun _ => rfl) hlv_3 ?_
        refine fx_i0 aj_d286 rfl (Nat.le_succ _) (fun _ => rfl) hlv_3 ?_
        refine fx_st aj_d286 (Or.inl ⟨rfl, rfl⟩) rfl (Nat.le_succ _) (fun g110 g111 => ?_)
        show fx_W _ _ _ _ _ _ (fx_wI X 146 (y3).toInt.toNat y3) _
        refine fx_qa (c := 0 ≤ (y3).toInt ∧ (y3).toInt < ((20 : Nat) : Int)) ⟨g110, fx_lnk g111 hA10⟩ ?_
        refine fx_qX (fun X12 eX12 => ?_)
        show fx_W _ _ _ 31 lv [] _ _
        refine fx_incq aj_d286 rfl (Nat.le_succ _) hlv_3 (by decide) (fun x13 ex13 => ?_)
        obtain ⟨lv14, elv14⟩ : ∃ l, l = aj_set1 lv 3 (.int x13) := ⟨_, rfl⟩
        rw [← elv14]
        have hlv14_0 : aj_lv lv14 0 = some (.ref 117) := fx_e1 elv14 hlv_0 (by decide) (Or.inl (by decide))
        have hlv14_1 : aj_lv lv14 1 = some (.int p1) := fx_e1 elv14 hlv_1 (by decide) (Or.inl (by decide))
        have hlv14_2 : aj_lv lv14 2 = some (.int y2) := fx_e1 elv14 hlv_2 (by decide) (Or.inr rfl)
        have hlv14_3 : aj_lv lv14 3 = some (.int x13) := by rw [elv14]; exact ak_set1_eq _ _ _
        show fx_W _ _ _ 34 lv14 [] _ _
        refine fx_n (pc' := 19) (lv' := lv14) (st' := []) aj_d286 rfl (Nat.le_succ _) (fun _ => rfl) ?_
        exact (ih.1) lv14 (y2) (x13) X12  hlv14_0 hlv14_1 hlv14_2 hlv14_3
    · intro lv y2 y3 X hlv_0 hlv_1 hlv_2 hlv_3
      refine fx_mono (Q := fx_Q fx_qI (fun v X' => ∃ n : Nat, gxT_286_39 p1 (gxF_286 p1 n) y2 y3 X v X')) (fun r X' ⟨v, e, n, z⟩ => ⟨v, e, n + 1, gxI_286_39 z⟩) ?_
      unfold gxT_286_39
      refine fx_i0 aj_d286 rfl (Nat.le_refl _) (fun _ => rfl) hlv_3 ?_
      refine fx_b0 (tgt := 150) aj_d286 rfl (Nat.le_succ _) rfl (fun q15 => ?_) (fun q15 => ?_)
      · skip
        refine fx_qi (c := (y3).toInt = 0) (fx_t_eq q15) ?_
        show fx_W _ _ _ 150 lv [] _ _
        refine fx_n (pc' := 151) (lv' := lv) (st' := [.int (Int32.ofInt 0)]) aj_d286 rfl (Nat.le_succ _) (fun _ => rfl) ?_
        exact fx_ri aj_d286 rfl ⟨_, rfl, 0, rfl, rfl⟩
      · skip
        refine fx_qe (c := (y3).toInt = 0) (fx_f_eq q15) ?_
        show fx_W _ _ _ 43 lv [] _ _
        refine fx_i2 aj_d286 rfl (Nat.le_succ _) (fun _ => rfl) hlv_0 ?_
        refine fx_i0 aj_d286 rfl (Nat.le_succ _) (fun _ => rfl) hlv_1 ?_
        refine fx_cv aj_d286 rfl (Nat.le_succ _) rfl [_] rfl rfl (gx_287_ok p1) ?_
        rintro _ X16 ⟨w17, rfl, hR16⟩ hok16 hle16
        refine fx_qc hR16 ?_
        show fx_W _ _ _ 48 lv [.int w17] _ _
        refine fx_b0 (tgt := 53) aj_d286 rfl (Nat.le_succ _) rfl (fun q18 => ?_) (fun q18 => ?_)
        · skip
          refine fx_qi (c := (w17).toInt = 0) (fx_t_eq q18) ?_
          show fx_W _ _ _ 53 lv [] _ _
          refine fx_i0 aj_d286 rfl (Nat.le_succ _) (fun _ => rfl) hlv_1 ?_
          refine fx_n (pc' := 55) (lv' := lv) (st' := [.int (Int32.ofInt 1), .int p1]) aj_d286 rfl (Nat.le_succ _) (fun _ => rfl) ?_
          refine fx_n (pc' := 56) (lv' := lv) (st' := [.int (p1 - (Int32.ofInt 1))]) aj_d286 rfl (Nat.le_succ _) (fun _ => rfl) ?_
          refine fx_qxI (fun x19 ex19 => ?_)
          refine fx_s0 (j := 4) aj_d286 rfl (Nat.le_succ _) (by decide) (fun _ => rfl) ?_
          obtain ⟨lv20, elv20⟩ : ∃ l, l = aj_set1 lv 4 (.int x19) := ⟨_, rfl⟩
          rw [← elv20]
          have hlv20_0 : aj_lv lv20 0 = some (.ref 117) := fx_e1 elv20 hlv_0 (by decide) (Or.inl (by decide))
          have hlv20_1 : aj_lv lv20 1 = some (.int p1) := fx_e1 elv20 hlv_1 (by decide) (Or.inl (by decide))
          have hlv20_2 : aj_lv lv20 2 = some (.int y2) := fx_e1 elv20 hlv_2 (by decide) (Or.inl (by decide))
          have hlv20_4 : aj_lv lv20 4 = some (.int x19) := by rw [elv20]; exact ak_set1_eq _ _ _
          show fx_W _ _ _ 58 lv20 [] _ _
          exact (ih.2.2.1) lv20 (y2) (x19) X16  hlv20_0 hlv20_1 hlv20_2 hlv20_4
        · skip
          refine fx_qe (c := (w17).toInt = 0) (fx_f_eq q18) ?_
          show fx_W _ _ _ 51 lv [] _ _
          refine fx_n (pc' := 52) (lv' := lv) (st' := [.int (Int32.ofInt 1)]) aj_d286 rfl (Nat.le_succ _) (fun _ => rfl) ?_
          exact fx_ri aj_d286 rfl ⟨_, rfl, 0, rfl, rfl⟩
    · intro lv y2 y4 X hlv_0 hlv_1 hlv_2 hlv_4
      refine fx_mono (Q := fx_Q fx_qI (fun v X' => ∃ n : Nat, gxT_286_58 p1 (gxF_286 p1 n) y2 y4 X v X')) (fun r X' ⟨v, e, n, z⟩ => ⟨v, e, n + 1, gxI_286_58 z⟩) ?_
      unfold gxT_286_58
      refine fx_i0 aj_d286 rfl (Nat.le_refl _) (fun _ => rfl) hlv_4 ?_
      refine fx_b0 (tgt := 85) aj_d286 rfl (Nat.le_succ _) rfl (fun q21 => ?_) (fun q21 => ?_)
      · skip
        refine fx_qi (c := (y4).toInt < 0) (fx_t_lt q21) ?_
        show fx_W _ _ _ 85 lv [] _ _
        refine fx_i0 aj_d286 rfl (Nat.le_succ _) (fun _ => rfl) hlv_4 ?_
        refine fx_b0 (tgt := 94) aj_d286 rfl (Nat.le_succ _) rfl (fun q22 => ?_) (fun q22 => ?_)
        · skip
          refine fx_qi (c := (y4).toInt < 0) (fx_t_lt q22) ?_
          show fx_W _ _ _ 94 lv [] _ _
          refine fx_n (pc' := 95) (lv' := lv) (st' := [.int (Int32.ofInt 0)]) aj_d286 rfl (Nat.le_succ _) (fun _ => rfl) ?_
          refine fx_s0 (j := 3) aj_d286 rfl (Nat.le_succ _) (by decide) (fun _ => rfl) ?_
          obtain ⟨lv23, elv23⟩ : ∃ l, l = aj_set1 lv 3 (.int (Int32.ofInt 0)) := ⟨_, rfl⟩
          rw [← elv23]
          have hlv23_0 : aj_lv lv23 0 = some (.ref 117) := fx_e1 elv23 hlv_0 (by decide) (Or.inl (by decide))
          have hlv23_1 : aj_lv lv23 1 = some (.int p1) := fx_e1 elv23 hlv_1 (by decide) (Or.inl (by decide))
          have hlv23_2 : aj_lv lv23 2 = some (.int y2) := fx_e1 elv23 hlv_2 (by decide) (Or.inr rfl)
          have hlv23_4 : aj_lv lv23 4 = some (.int y4) := fx_e1 elv23 hlv_4 (by decide) (Or.inl (by decide))
          have hlv23_3 : aj_lv lv23 3 = some (.int (Int32.ofInt 0)) := by rw [elv23]; exact ak_set1_eq _ _ _
          show fx_W _ _ _ 96 lv23 [] _ _
          refine fx_i0 aj_d286 rfl (Nat.le_succ _) (fun _ => rfl) hlv23_3 ?_
          refine fx_b0 (tgt := 147) aj_d286 rfl (Nat.le_succ _) rfl (fun q24 => ?_) (fun q24 => ?_)
          · skip
            show fx_W _ _ _ 147 lv23 [] _ _
            refine fx_n (pc' := 39) (lv' := lv23) (st' := []) aj_d286 rfl (Nat.le_succ _) (fun _ => rfl) ?_
            exact (ih.2.1) lv23 (y2) ((Int32.ofInt 0)) X  hlv23_0 hlv23_1 hlv23_2 hlv23_3
          · exact absurd q24 (by decide)
        · skip
          refine fx_qe (c := (y4).toInt < 0) (fx_f_lt q22) ?_
          show fx_W _ _ _ 90 lv [] _ _
          refine fx_n (pc' := 91) (lv' := lv) (st' := [.int (Int32.ofInt 1)]) aj_d286 rfl (Nat.le_succ _) (fun _ => rfl) ?_
          refine fx_n (pc' := 95) (lv' := lv) (st' := [.int (Int32.ofInt 1)]) aj_d286 rfl (Nat.le_succ _) (fun _ => rfl) ?_
          refine fx_s0 (j := 3) aj_d286 rfl (Nat.le_succ _) (by decide) (fun _ => rfl) ?_
          obtain ⟨lv25, elv25⟩ : ∃ l, l = aj_set1 lv 3 (.int (Int32.ofInt 1)) := ⟨_, rfl⟩
          rw [← elv25]
          have hlv25_0 : aj_lv lv25 0 = some (.ref 117) := fx_e1 elv25 hlv_0 (by decide) (Or.inl (by decide))
          have hlv25_1 : aj_lv lv25 1 = some (.int p1) := fx_e1 elv25 hlv_1 (by decide) (Or.inl (by decide))
          have hlv25_2 : aj_lv lv25 2 = some (.int y2) := fx_e1 elv25 hlv_2 (by decide) (Or.inr rfl)
          have hlv25_4 : aj_lv lv25 4 = some (.int y4) := fx_e1 elv25 hlv_4 (by decide) (Or.inl (by decide))
          have hlv25_3 : aj_lv lv25 3 = some (.int (Int32.ofInt 1)) := by rw [elv25]; exact ak_set1_eq _ _ _
          show fx_W _ _ _ 96 lv25 [] _ _
          refine fx_i0 aj_d286 rfl (Nat.le_succ _) (fun _ => rfl) hlv25_3 ?_
          refine fx_b0 (tgt := 147) aj_d286 rfl (Nat.le_succ _) rfl (fun q26 => ?_) (fun q26 => ?_)
          · exact absurd q26 (by decide)
          · skip
            show fx_W _ _ _ 100 lv25 [] _ _
            refine fx_i2 aj_d286 rfl (Nat.le_succ _) (fun _ => rfl) hlv25_0 ?_
            refine fx_gF aj_d286 rfl (Nat.le_succ _) rfl rfl fx_in_11_62 (t := 146) rfl (fun hA27 => ?_)
            refine fx_i0 aj_d286 rfl (Nat.le_succ _) (fun _ => rfl) hlv25_4 ?_
            refine fx_n (pc' := 107) (lv' := lv25) (st' := [.int y4, .ref 146, .int y4, .ref 146]) aj_d286 rfl (Nat.le_succ _) (fun _ => rfl) ?_
            refine fx_ld aj_d286 (Or.inl rfl) rfl (Nat.le_succ _) (fun g280 g281 => ?_)
            show fx_W _ _ _ 108 lv25 [.int (X.1 146 (y4).toInt.toNat), .int y4, .ref 146] _ _
            refine fx_qa (c := 0 ≤ (y4).toInt ∧ (y4).toInt < ((20 : Nat) : Int)) ⟨g280, fx_lnk g281 hA27⟩ ?_
            refine fx_n (pc' := 109) (lv' := lv25) (st' := [.int (Int32.ofInt 1), .int (X.1 146 (y4).toInt.toNat), .int y4, .ref 146]) aj_d286 rfl (Nat.le_succ _) (fun _ => rfl) ?_
            refine fx_n (pc' := 110) (lv' := lv25) (st' := [.int ((X.1 146 (y4).toInt.toNat) + (Int32.ofInt 1)), .int y4, .ref 146]) aj_d286 rfl (Nat.le_succ _) (fun _ => rfl) ?_
            refine fx_st aj_d286 (Or.inl ⟨rfl, rfl⟩) rfl (Nat.le_succ _) (fun g290 g291 => ?_)
            show fx_W _ _ _ _ _ _ (fx_wI X 146 (y4).toInt.toNat ((X.1 146 (y4).toInt.toNat) + (Int32.ofInt 1))) _
            refine fx_qa (c := 0 ≤ (y4).toInt ∧ (y4).toInt < ((20 : Nat) : Int)) ⟨g290, fx_lnk g291 hA27⟩ ?_
            refine fx_qX (fun X30 eX30 => ?_)
            show fx_W _ _ _ 111 lv25 [] _ _
            refine fx_i0 aj_d286 rfl (Nat.le_succ _) (fun _ => rfl) hlv25_4 ?_
            refine fx_n (pc' := 114) (lv' := lv25) (st' := [.int (Int32.ofInt 1), .int y4]) aj_d286 rfl (Nat.le_succ _) (fun _ => rfl) ?_
            refine fx_n (pc' := 115) (lv' := lv25) (st' := [.int (y4 + (Int32.ofInt 1))]) aj_d286 rfl (Nat.le_succ _) (fun _ => rfl) ?_
            refine fx_qxI (fun x31 ex31 => ?_)
            refine fx_s0 (j := 5) aj_d286 rfl (Nat.le_succ _) (by decide) (fun _ => rfl) ?_
            obtain ⟨lv32, elv32⟩ : ∃ l, l = aj_set1 lv25 5 (.int x31) := ⟨_, rfl⟩
            rw [← elv32]
            have hlv32_0 : aj_lv lv32 0 = some (.ref 117) := fx_e1 elv32 hlv25_0 (by decide) (Or.inl (by decide))
            have hlv32_1 : aj_lv lv32 1 = some (.int p1) := fx_e1 elv32 hlv25_1 (by decide) (Or.inl (by decide))
            have hlv32_2 : aj_lv lv32 2 = some (.int y2) := fx_e1 elv32 hlv25_2 (by decide) (Or.inl (by decide))
            have hlv32_3 : aj_lv lv32 3 = some (.int (Int32.ofInt 1)) := fx_e1 elv32 hlv25_3 (by decide) (Or.inl (by decide))
            have hlv32_5 : aj_lv lv32 5 = some (.int x31) := by rw [elv32]; exact ak_set1_eq _ _ _
            show fx_W _ _ _ 117 lv32 [] _ _
            exact (ih.2.2.2) lv32 (y2) ((Int32.ofInt 1)) (x31) X30  hlv32_0 hlv32_1 hlv32_2 hlv32_3 hlv32_5
      · skip
        refine fx_qe (c := (y4).toInt < 0) (fx_f_lt q21) ?_
        show fx_W _ _ _ 63 lv [] _ _
        refine fx_i2 aj_d286 rfl (Nat.le_succ _) (fun _ => rfl) hlv_0 ?_
        refine fx_gF aj_d286 rfl (Nat.le_succ _) rfl rfl fx_in_11_62 (t := 146) rfl (fun hA33 => ?_)
        refine fx_i0 aj_d286 rfl (Nat.le_succ _) (fun _ => rfl) hlv_4 ?_
        refine fx_ld aj_d286 (Or.inl rfl) rfl (Nat.le_succ _) (fun g340 g341 => ?_)
        show fx_W _ _ _ 70 lv [.int (X.1 146 (y4).toInt.toNat)] _ _
        refine fx_qa (c := 0 ≤ (y4).toInt ∧ (y4).toInt < ((20 : Nat) : Int)) ⟨g340, fx_lnk g341 hA33⟩ ?_
        refine fx_i0 aj_d286 rfl (Nat.le_succ _) (fun _ => rfl) hlv_2 ?_
        refine fx_i0 aj_d286 rfl (Nat.le_succ _) (fun _ => rfl) hlv_1 ?_
        refine fx_n (pc' := 73) (lv' := lv) (st' := [.int (y2 - p1), .int (X.1 146 (y4).toInt.toNat)]) aj_d286 rfl (Nat.le_succ _) (fun _ => rfl) ?_
        refine fx_i0 aj_d286 rfl (Nat.le_succ _) (fun _ => rfl) hlv_4 ?_
        refine fx_n (pc' := 76) (lv' := lv) (st' := [.int ((y2 - p1) + y4), .int (X.1 146 (y4).toInt.toNat)]) aj_d286 rfl (Nat.le_succ _) (fun _ => rfl) ?_
        refine fx_b (tgt := 85) aj_d286 rfl (Nat.le_succ _) rfl (fun q35 => ?_) (fun q35 => ?_)
        · skip
          refine fx_qe (c := ((X.1 146 (y4).toInt.toNat)).toInt = (((y2 - p1) + y4)).toInt) (fx_t_ne q35) ?_
          show fx_W _ _ _ 85 lv [] _ _
          refine fx_i0 aj_d286 rfl (Nat.le_succ _) (fun _ => rfl) hlv_4 ?_
          refine fx_b0 (tgt := 94) aj_d286 rfl (Nat.le_succ _) rfl (fun q36 => ?_) (fun q36 => ?_)
          · skip
            refine fx_qi (c := (y4).toInt < 0) (fx_t_lt q36) ?_
            show fx_W _ _ _ 94 lv [] _ _
            refine fx_n (pc' := 95) (lv' := lv) (st' := [.int (Int32.ofInt 0)]) aj_d286 rfl (Nat.le_succ _) (fun _ => rfl) ?_
            refine fx_s0 (j := 3) aj_d286 rfl (Nat.le_succ _) (by decide) (fun _ => rfl) ?_
            obtain ⟨lv37, elv37⟩ : ∃ l, l = aj_set1 lv 3 (.int (Int32.ofInt 0)) := ⟨_, rfl⟩
            rw [← elv37]
            have hlv37_0 : aj_lv lv37 0 = some (.ref 117) := fx_e1 elv37 hlv_0 (by decide) (Or.inl (by decide))
            have hlv37_1 : aj_lv lv37 1 = some (.int p1) := fx_e1 elv37 hlv_1 (by decide) (Or.inl (by decide))
            have hlv37_2 : aj_lv lv37 2 = some (.int y2) := fx_e1 elv37 hlv_2 (by decide) (Or.inr rfl)
            have hlv37_4 : aj_lv lv37 4 = some (.int y4) := fx_e1 elv37 hlv_4 (by decide) (Or.inl (by decide))
            have hlv37_3 : aj_lv lv37 3 = some (.int (Int32.ofInt 0)) := by rw [elv37]; exact ak_set1_eq _ _ _
            show fx_W _ _ _ 96 lv37 [] _ _
            refine fx_i0 aj_d286 rfl (Nat.le_succ _) (fun _ => rfl) hlv37_3 ?_
            refine fx_b0 (tgt := 147) aj_d286 rfl (Nat.le_succ _) rfl (fun q38 => ?_) (fun q38 => ?_)
            · skip
              show fx_W _ _ _ 147 lv37 [] _ _
              refine fx_n (pc' := 39) (lv' := lv37) (st' := []) aj_d286 rfl (Nat.le_succ _) (fun _ => rfl) ?_
              exact (ih.2.1) lv37 (y2) ((Int32.ofInt 0)) X  hlv37_0 hlv37_1 hlv37_2 hlv37_3
            · exact absurd q38 (by decide)
          · skip
            refine fx_qe (c := (y4).toInt < 0) (fx_f_lt q36) ?_
            show fx_W _ _ _ 90 lv [] _ _
            refine fx_n (pc' := 91) (lv' := lv) (st' := [.int (Int32.ofInt 1)]) aj_d286 rfl (Nat.le_succ _) (fun _ => rfl) ?_
            refine fx_n (pc' := 95) (lv' := lv) (st' := [.int (Int32.ofInt 1)]) aj_d286 rfl (Nat.le_succ _) (fun _ => rfl) ?_
            refine fx_s0 (j := 3) aj_d286 rfl (Nat.le_succ _) (by decide) (fun _ => rfl) ?_
            obtain ⟨lv39, elv39⟩ : ∃ l, l = aj_set1 lv 3 (.int (Int32.ofInt 1)) := ⟨_, rfl⟩
            rw [← elv39]
            have hlv39_0 : aj_lv lv39 0 = some (.ref 117) := fx_e1 elv39 hlv_0 (by decide) (Or.inl (by decide))
            have hlv39_1 : aj_lv lv39 1 = some (.int p1) := fx_e1 elv39 hlv_1 (by decide) (Or.inl (by decide))
            have hlv39_2 : aj_lv lv39 2 = some (.int y2) := fx_e1 elv39 hlv_2 (by decide) (Or.inr rfl)
            have hlv39_4 : aj_lv lv39 4 = some (.int y4) := fx_e1 elv39 hlv_4 (by decide) (Or.inl (by decide))
            have hlv39_3 : aj_lv lv39 3 = some (.int (Int32.ofInt 1)) := by rw [elv39]; exact ak_set1_eq _ _ _
            show fx_W _ _ _ 96 lv39 [] _ _
            refine fx_i0 aj_d286 rfl (Nat.le_succ _) (fun _ => rfl) hlv39_3 ?_
            refine fx_b0 (tgt := 147) aj_d286 rfl (Nat.le_succ _) rfl (fun q40 => ?_) (fun q40 => ?_)
            · exact absurd q40 (by decide)
            · skip
              show fx_W _ _ _ 100 lv39 [] _ _
              refine fx_i2 aj_d286 rfl (Nat.le_succ _) (fun _ => rfl) hlv39_0 ?_
              refine fx_gF aj_d286 rfl (Nat.le_succ _) rfl rfl fx_in_11_62 (t := 146) rfl (fun hA41 => ?_)
              refine fx_i0 aj_d286 rfl (Nat.le_succ _) (fun _ => rfl) hlv39_4 ?_
              refine fx_n (pc' := 107) (lv' := lv39) (st' := [.int y4, .ref 146, .int y4, .ref 146]) aj_d286 rfl (Nat.le_succ _) (fun _ => rfl) ?_
              refine fx_ld aj_d286 (Or.inl rfl) rfl (Nat.le_succ _) (fun g420 g421 => ?_)
              show fx_W _ _ _ 108 lv39 [.int (X.1 146 (y4).toInt.toNat), .int y4, .ref 146] _ _
              refine fx_qa (c := 0 ≤ (y4).toInt ∧ (y4).toInt < ((20 : Nat) : Int)) ⟨g420, fx_lnk g421 hA41⟩ ?_
              refine fx_n (pc' := 109) (lv' := lv39) (st' := [.int (Int32.ofInt 1), .int (X.1 146 (y4).toInt.toNat), .int y4, .ref 146]) aj_d286 rfl (Nat.le_succ _) (fun _ => rfl) ?_
              refine fx_n (pc' := 110) (lv' := lv39) (st' := [.int ((X.1 146 (y4).toInt.toNat) + (Int32.ofInt 1)), .int y4, .ref 146]) aj_d286 rfl (Nat.le_succ _) (fun _ => rfl) ?_
              refine fx_st aj_d286 (Or.inl ⟨rfl, rfl⟩) rfl (Nat.le_succ _) (fun g430 g431 => ?_)
              show fx_W _ _ _ _ _ _ (fx_wI X 146 (y4).toInt.toNat ((X.1 146 (y4).toInt.toNat) + (Int32.ofInt 1))) _
              refine fx_qa (c := 0 ≤ (y4).toInt ∧ (y4).toInt < ((20 : Nat) : Int)) ⟨g430, fx_lnk g431 hA41⟩ ?_
              refine fx_qX (fun X44 eX44 => ?_)
              show fx_W _ _ _ 111 lv39 [] _ _
              refine fx_i0 aj_d286 rfl (Nat.le_succ _) (fun _ => rfl) hlv39_4 ?_
              refine fx_n (pc' := 114) (lv' := lv39) (st' := [.int (Int32.ofInt 1), .int y4]) aj_d286 rfl (Nat.le_succ _) (fun _ => rfl) ?_
              refine fx_n (pc' := 115) (lv' := lv39) (st' := [.int (y4 + (Int32.ofInt 1))]) aj_d286 rfl (Nat.le_succ _) (fun _ => rfl) ?_
              refine fx_qxI (fun x45 ex45 => ?_)
              refine fx_s0 (j := 5) aj_d286 rfl (Nat.le_succ _) (by decide) (fun _ => rfl) ?_
              obtain ⟨lv46, elv46⟩ : ∃ l, l = aj_set1 lv39 5 (.int x45) := ⟨_, rfl⟩
              rw [← elv46]
              have hlv46_0 : aj_lv lv46 0 = some (.ref 117) := fx_e1 elv46 hlv39_0 (by decide) (Or.inl (by decide))
              have hlv46_1 : aj_lv lv46 1 = some (.int p1) := fx_e1 elv46 hlv39_1 (by decide) (Or.inl (by decide))
              have hlv46_2 : aj_lv lv46 2 = some (.int y2) := fx_e1 elv46 hlv39_2 (by decide) (Or.inl (by decide))
              have hlv46_3 : aj_lv lv46 3 = some (.int (Int32.ofInt 1)) := fx_e1 elv46 hlv39_3 (by decide) (Or.inl (by decide))
              have hlv46_5 : aj_lv lv46 5 = some (.int x45) := by rw [elv46]; exact ak_set1_eq _ _ _
              show fx_W _ _ _ 117 lv46 [] _ _
              exact (ih.2.2.2) lv46 (y2) ((Int32.ofInt 1)) (x45) X44  hlv46_0 hlv46_1 hlv46_2 hlv46_3 hlv46_5
        · skip
          refine fx_qi (c := ((X.1 146 (y4).toInt.toNat)).toInt = (((y2 - p1) + y4)).toInt) (fx_f_ne q35) ?_
          show fx_W _ _ _ 79 lv [] _ _
          refine fx_incq aj_d286 rfl (Nat.le_succ _) hlv_4 (by decide) (fun x47 ex47 => ?_)
          obtain ⟨lv48, elv48⟩ : ∃ l, l = aj_set1 lv 4 (.int x47) := ⟨_, rfl⟩
          rw [← elv48]
          have hlv48_0 : aj_lv lv48 0 = some (.ref 117) := fx_e1 elv48 hlv_0 (by decide) (Or.inl (by decide))
          have hlv48_1 : aj_lv lv48 1 = some (.int p1) := fx_e1 elv48 hlv_1 (by decide) (Or.inl (by decide))
          have hlv48_2 : aj_lv lv48 2 = some (.int y2) := fx_e1 elv48 hlv_2 (by decide) (Or.inl (by decide))
          have hlv48_4 : aj_lv lv48 4 = some (.int x47) := by rw [elv48]; exact ak_set1_eq _ _ _
          show fx_W _ _ _ 82 lv48 [] _ _
          refine fx_n (pc' := 58) (lv' := lv48) (st' := []) aj_d286 rfl (Nat.le_succ _) (fun _ => rfl) ?_
          exact (ih.2.2.1) lv48 (y2) (x47) X  hlv48_0 hlv48_1 hlv48_2 hlv48_4
    · intro lv y2 y3 y5 X hlv_0 hlv_1 hlv_2 hlv_3 hlv_5
      refine fx_mono (Q := fx_Q fx_qI (fun v X' => ∃ n : Nat, gxT_286_117 p1 (gxF_286 p1 n) y2 y3 y5 X v X')) (fun r X' ⟨v, e, n, z⟩ => ⟨v, e, n + 1, gxI_286_117 z⟩) ?_
      unfold gxT_286_117
      refine fx_i0 aj_d286 rfl (Nat.le_refl _) (fun _ => rfl) hlv_5 ?_
      refine fx_i0 aj_d286 rfl (Nat.le_succ _) (fun _ => rfl) hlv_1 ?_
      refine fx_b (tgt := 147) aj_d286 rfl (Nat.le_succ _) rfl (fun q49 => ?_) (fun q49 => ?_)
      · skip
        refine fx_qe (c := (y5).toInt < (p1).toInt) (fx_t_ge q49) ?_
        show fx_W _ _ _ 147 lv [] _ _
        refine fx_n (pc' := 39) (lv' := lv) (st' := []) aj_d286 rfl (Nat.le_succ _) (fun _ => rfl) ?_
        exact (ih.2.1) lv (y2) (y3) X  hlv_0 hlv_1 hlv_2 hlv_3
      · skip
        refine fx_qi (c := (y5).toInt < (p1).toInt) (fx_f_ge q49) ?_
        show fx_W _ _ _ 123 lv [] _ _
        refine fx_i2 aj_d286 rfl (Nat.le_succ _) (fun _ => rfl) hlv_0 ?_
        refine fx_gF aj_d286 rfl (Nat.le_succ _) rfl rfl fx_in_11_62 (t := 146) rfl (fun hA50 => ?_)
        refine fx_i0 aj_d286 rfl (Nat.le_succ _) (fun _ => rfl) hlv_5 ?_
        refine fx_i2 aj_d286 rfl (Nat.le_succ _) (fun _ => rfl) hlv_0 ?_
        refine fx_gF aj_d286 rfl (Nat.le_succ _) rfl rfl fx_in_11_62 (t := 146) rfl (fun hA51 => ?_)
        refine fx_i0 aj_d286 rfl (Nat.le_succ _) (fun _ => rfl) hlv_5 ?_
        refine fx_n (pc' := 136) (lv' := lv) (st' := [.int (Int32.ofInt 1), .int y5, .ref 146, .int y5, .ref 146]) aj_d286 rfl (Nat.le_succ _) (fun _ => rfl) ?_
        refine fx_n (pc' := 137) (lv' := lv) (st' := [.int (y5 - (Int32.ofInt 1)), .ref 146, .int y5, .ref 146]) aj_d286 rfl (Nat.le_succ _) (fun _ => rfl) ?_
        refine fx_ld aj_d286 (Or.inl rfl) rfl (Nat.le_succ _) (fun g520 g521 => ?_)
        show fx_W _ _ _ 138 lv [.int (X.1 146 ((y5 - (Int32.ofInt 1))).toInt.toNat), .int y5, .ref 146] _ _
        refine fx_qa (c := 0 ≤ ((y5 - (Int32.ofInt 1))).toInt ∧ ((y5 - (Int32.ofInt 1))).toInt < ((20 : Nat) : Int)) ⟨g520, fx_lnk g521 hA51⟩ ?_
        refine fx_n (pc' := 139) (lv' := lv) (st' := [.int (Int32.ofInt 1), .int (X.1 146 ((y5 - (Int32.ofInt 1))).toInt.toNat), .int y5, .ref 146]) aj_d286 rfl (Nat.le_succ _) (fun _ => rfl) ?_
        refine fx_n (pc' := 140) (lv' := lv) (st' := [.int ((X.1 146 ((y5 - (Int32.ofInt 1))).toInt.toNat) + (Int32.ofInt 1)), .int y5, .ref 146]) aj_d286 rfl (Nat.le_succ _) (fun _ => rfl) ?_
        refine fx_st aj_d286 (Or.inl ⟨rfl, rfl⟩) rfl (Nat.le_succ _) (fun g530 g531 => ?_)
        show fx_W _ _ _ _ _ _ (fx_wI X 146 (y5).toInt.toNat ((X.1 146 ((y5 - (Int32.ofInt 1))).toInt.toNat) + (Int32.ofInt 1))) _
        refine fx_qa (c := 0 ≤ (y5).toInt ∧ (y5).toInt < ((20 : Nat) : Int)) ⟨g530, fx_lnk g531 hA50⟩ ?_
        refine fx_qX (fun X54 eX54 => ?_)
        show fx_W _ _ _ 141 lv [] _ _
        refine fx_incq aj_d286 rfl (Nat.le_succ _) hlv_5 (by decide) (fun x55 ex55 => ?_)
        obtain ⟨lv56, elv56⟩ : ∃ l, l = aj_set1 lv 5 (.int x55) := ⟨_, rfl⟩
        rw [← elv56]
        have hlv56_0 : aj_lv lv56 0 = some (.ref 117) := fx_e1 elv56 hlv_0 (by decide) (Or.inl (by decide))
        have hlv56_1 : aj_lv lv56 1 = some (.int p1) := fx_e1 elv56 hlv_1 (by decide) (Or.inl (by decide))
        have hlv56_2 : aj_lv lv56 2 = some (.int y2) := fx_e1 elv56 hlv_2 (by decide) (Or.inl (by decide))
        have hlv56_3 : aj_lv lv56 3 = some (.int y3) := fx_e1 elv56 hlv_3 (by decide) (Or.inl (by decide))
        have hlv56_5 : aj_lv lv56 5 = some (.int x55) := by rw [elv56]; exact ak_set1_eq _ _ _
        show fx_W _ _ _ 144 lv56 [] _ _
        refine fx_n (pc' := 117) (lv' := lv56) (st' := []) aj_d286 rfl (Nat.le_succ _) (fun _ => rfl) ?_
        exact (ih.2.2.2) lv56 (y2) (y3) (x55) X54  hlv56_0 hlv56_1 hlv56_2 hlv56_3 hlv56_5
theorem gx_286_ok {tb : aj_T} (p1 : Int32) {X : fx_X} : fx_K tb 286 [.ref 117, .int p1] X (fx_Q fx_qI (fun v X' => gx_286 p1 X v X')) := by
  refine fx_m aj_m286_at rfl (fun N => ?_)
  refine fx_mono (Q := fx_Q fx_qI (fun v X' => ∃ n : Nat, gxE_286 p1 (gxF_286 p1 n) X v X')) (fun r X' h => h) ?_
  unfold gxE_286
  show fx_W _ _ _ 0 [(0, .ref 117), (1, .int p1)] [] _ _
  obtain ⟨lv1, elv1⟩ : ∃ l : aj_V, l = [(0, .ref 117), (1, .int p1)] := ⟨_, rfl⟩
  rw [← elv1]
  have hlv1_0 : aj_lv lv1 0 = some (.ref 117) := by rw [elv1]; rfl
  have hlv1_1 : aj_lv lv1 1 = some (.int p1) := by rw [elv1]; rfl
  refine fx_i2 aj_d286 rfl (Nat.le_succ _) (fun _ => rfl) hlv1_0 ?_
  refine fx_gF aj_d286 rfl (Nat.le_succ _) rfl rfl fx_in_11_10 (t := 127) rfl (fun hA2 => ?_)
  refine fx_i2 aj_d286 rfl (Nat.le_succ _) (fun _ => rfl) hlv1_0 ?_
  refine fx_gI aj_d286 rfl (Nat.le_succ _) rfl rfl (Or.inl rfl) ?_
  refine fx_ld aj_d286 (Or.inl rfl) rfl (Nat.le_succ _) (fun g30 g31 => ?_)
  show fx_W _ _ _ 9 lv1 [.int (X.1 127 ((X.1 117 0)).toInt.toNat)] _ _
  refine fx_qa (c := 0 ≤ ((X.1 117 0)).toInt ∧ ((X.1 117 0)).toInt < ((2 : Nat) : Int)) ⟨g30, fx_lnk g31 hA2⟩ ?_
  refine fx_qxI (fun x4 ex4 => ?_)
  refine fx_s0 (j := 2) aj_d286 rfl (Nat.le_succ _) (by decide) (fun _ => rfl) ?_
  obtain ⟨lv5, elv5⟩ : ∃ l, l = aj_set1 lv1 2 (.int x4) := ⟨_, rfl⟩
  rw [← elv5]
  have hlv5_0 : aj_lv lv5 0 = some (.ref 117) := fx_e1 elv5 hlv1_0 (by decide) (Or.inl (by decide))
  have hlv5_1 : aj_lv lv5 1 = some (.int p1) := fx_e1 elv5 hlv1_1 (by decide) (Or.inr rfl)
  have hlv5_2 : aj_lv lv5 2 = some (.int x4) := by rw [elv5]; exact ak_set1_eq _ _ _
  show fx_W _ _ _ 10 lv5 [] _ _
  refine fx_i0 aj_d286 rfl (Nat.le_succ _) (fun _ => rfl) hlv5_1 ?_
  refine fx_i0 aj_d286 rfl (Nat.le_succ _) (fun _ => rfl) hlv5_2 ?_
  refine fx_b (tgt := 17) aj_d286 rfl (Nat.le_succ _) rfl (fun q6 => ?_) (fun q6 => ?_)
  · skip
    refine fx_qe (c := (x4).toInt < (p1).toInt) (fx_t_le q6) ?_
    show fx_W _ _ _ 17 lv5 [] _ _
    refine fx_n (pc' := 18) (lv' := lv5) (st' := [.int (Int32.ofInt 0)]) aj_d286 rfl (Nat.le_succ _) (fun _ => rfl) ?_
    refine fx_s0 (j := 3) aj_d286 rfl (Nat.le_succ _) (by decide) (fun _ => rfl) ?_
    obtain ⟨lv7, elv7⟩ : ∃ l, l = aj_set1 lv5 3 (.int (Int32.ofInt 0)) := ⟨_, rfl⟩
    rw [← elv7]
    have hlv7_0 : aj_lv lv7 0 = some (.ref 117) := fx_e1 elv7 hlv5_0 (by decide) (Or.inl (by decide))
    have hlv7_1 : aj_lv lv7 1 = some (.int p1) := fx_e1 elv7 hlv5_1 (by decide) (Or.inl (by decide))
    have hlv7_2 : aj_lv lv7 2 = some (.int x4) := fx_e1 elv7 hlv5_2 (by decide) (Or.inr rfl)
    have hlv7_3 : aj_lv lv7 3 = some (.int (Int32.ofInt 0)) := by rw [elv7]; exact ak_set1_eq _ _ _
    show fx_W _ _ _ 19 lv7 [] _ _
    exact ((gxL_286 p1 N).1) lv7 (x4) ((Int32.ofInt 0)) X  hlv7_0 hlv7_1 hlv7_2 hlv7_3
  · skip
    refine fx_qi (c := (x4).toInt < (p1).toInt) (fx_f_le q6) ?_
    show fx_W _ _ _ 15 lv5 [] _ _
    refine fx_n (pc' := 16) (lv' := lv5) (st' := [.int (Int32.ofInt 1)]) aj_d286 rfl (Nat.le_succ _) (fun _ => rfl) ?_
    exact fx_ri aj_d286 rfl ⟨_, rfl, 0, rfl, rfl⟩
def gxT_285_20 (p1 : Int32) (P : Nat → List Int32 → List Int64 → List Nat → fx_X → Int32 → fx_X → Prop) (y2 : Int32) (X : fx_X) (v : Int32) (X' : fx_X) : Prop :=
  (0 ≤ ((X.1 117 0)).toInt ∧ ((X.1 117 0)).toInt < ((2 : Nat) : Int)) ∧ (if (y2).toInt < ((X.1 122 ((X.1 117 0)).toInt.toNat)).toInt then (∃ (w12 : Int32) (X11 : fx_X), gx_227 130 (Int32.ofInt 0) y2 X w12 X11 ∧ (if (w12).toInt = 0 then (∃ x14 : Int32, x14 = y2 + Int32.ofInt 1 ∧ P 20 [x14] [] [] X11 v X') else (P 50 [y2, (Int32.ofInt 0), (Int32.ofInt 0)] [] [] X11 v X'))) else (P 175 [(Int32.ofInt 0)] [] [] X v X'))
def gxT_285_50 (p1 : Int32) (P : Nat → List Int32 → List Int64 → List Nat → fx_X → Int32 → fx_X → Prop) (y2 : Int32) (y3 : Int32) (y4 : Int32) (X : fx_X) (v : Int32) (X' : fx_X) : Prop :=
  (0 ≤ ((X.1 117 0)).toInt ∧ ((X.1 117 0)).toInt < ((2 : Nat) : Int)) ∧ (if (y4).toInt < ((X.1 127 ((X.1 117 0)).toInt.toNat)).toInt then (∃ (w33 : Int32) (X32 : fx_X), gx_227 129 ((((X.1 117 0) * ((Int8.ofInt 20).toInt32)) + y4) * ((Int8.ofInt 32).toInt32)) y2 X w33 X32 ∧ (if (w33).toInt = 0 then (∃ x35 : Int32, x35 = (y3 ||| ((Int32.ofInt 1) <<< (y4 &&& 31))) ∧ ∃ x37 : Int32, x37 = y4 + Int32.ofInt 1 ∧ P 50 [y2, x35, x37] [] [] X32 v X') else (∃ x40 : Int32, x40 = y4 + Int32.ofInt 1 ∧ P 50 [y2, y3, x40] [] [] X32 v X'))) else ((if (y3).toInt = 0 then (v = (Int32.ofInt (-1)) ∧ X' = X) else (P 114 [y2, y3, (Int32.ofInt 0)] [] [] X v X'))))
def gxT_285_114 (p1 : Int32) (P : Nat → List Int32 → List Int64 → List Nat → fx_X → Int32 → fx_X → Prop) (y2 : Int32) (y3 : Int32) (y4 : Int32) (X : fx_X) (v : Int32) (X' : fx_X) : Prop :=
  (if (y4).toInt < ((X.1 117 61)).toInt then ((0 ≤ (y4).toInt ∧ (y4).toInt < ((1024 : Nat) : Int)) ∧ (if ((X.1 145 (y4).toInt.toNat)).toInt = (y3).toInt then ((if (y4).toInt = ((X.1 117 61)).toInt then ((0 ≤ (y4).toInt ∧ (y4).toInt < ((1024 : Nat) : Int)) ∧ ∃ X60 : fx_X, X60 = (fx_wI X 145 (y4).toInt.toNat y3) ∧ ∃ X61 : fx_X, X61 = (fx_wI X60 117 61 ((X60.1 117 61) + (Int32.ofInt 1))) ∧ ∃ x62 : Int32, x62 = y2 + Int32.ofInt 1 ∧ P 20 [x62] [] [] X61 v X') else (∃ x56 : Int32, x56 = y2 + Int32.ofInt 1 ∧ P 20 [x56] [] [] X v X'))) else (∃ x64 : Int32, x64 = y4 + Int32.ofInt 1 ∧ P 114 [y2, y3, x64] [] [] X v X'))) else ((if (y4).toInt = ((X.1 117 61)).toInt then ((0 ≤ (y4).toInt ∧ (y4).toInt < ((1024 : Nat) : Int)) ∧ ∃ X48 : fx_X, X48 = (fx_wI X 145 (y4).toInt.toNat y3) ∧ ∃ X49 : fx_X, X49 = (fx_wI X48 117 61 ((X48.1 117 61) + (Int32.ofInt 1))) ∧ ∃ x50 : Int32, x50 = y2 + Int32.ofInt 1 ∧ P 20 [x50] [] [] X49 v X') else (∃ x44 : Int32, x44 = y2 + Int32.ofInt 1 ∧ P 20 [x44] [] [] X v X'))))
def gxT_285_175 (p1 : Int32) (P : Nat → List Int32 → List Int64 → List Nat → fx_X → Int32 → fx_X → Prop) (y2 : Int32) (X : fx_X) (v : Int32) (X' : fx_X) : Prop :=
  ∃ (w19 : Int32) (X18 : fx_X), gx_286 y2 X w19 X18 ∧ (if (w19).toInt = 0 then (∃ x24 : Int32, x24 = y2 + Int32.ofInt 1 ∧ P 175 [x24] [] [] X18 v X') else ((if (p1).toInt < (y2).toInt then ((0 ≤ (p1).toInt ∧ (p1).toInt < ((20 : Nat) : Int)) ∧ v = (X18.1 146 (p1).toInt.toNat) ∧ X' = X18) else (v = (Int32.ofInt (-1)) ∧ X' = X18))))
def gxE_285 (p1 : Int32) (P : Nat → List Int32 → List Int64 → List Nat → fx_X → Int32 → fx_X → Prop) (X : fx_X) (v : Int32) (X' : fx_X) : Prop :=
  (if ((X.1 117 13)).toInt = 0 then (v = (Int32.ofInt (-1)) ∧ X' = X) else ((if (p1).toInt < 0 then (v = (Int32.ofInt (-1)) ∧ X' = X) else (∃ X4 : fx_X, X4 = (fx_wI X 117 61 (Int32.ofInt 0)) ∧ P 20 [(Int32.ofInt 0)] [] [] X4 v X'))))
noncomputable def gxF_285 (p1 : Int32) (n : Nat) : Nat → List Int32 → List Int64 → List Nat → fx_X → Int32 → fx_X → Prop := Nat.rec (motive := fun _ => Nat → List Int32 → List Int64 → List Nat → fx_X → Int32 → fx_X → Prop) (fun _ _ _ _ _ _ _ => False) (fun _ P l is ls rs X v X' => (l = 20 ∧ ∃ (y2 : Int32), is = [y2] ∧ ls = [] ∧ rs = [] ∧ gxT_285_20 p1 P y2 X v X') ∨ (l = 50 ∧ ∃ (y2 : Int32) (y3 : Int32) (y4 : Int32), is = [y2, y3, y4] ∧ ls = [] ∧ rs = [] ∧ gxT_285_50 p1 P y2 y3 y4 X v X') ∨ (l = 114 ∧ ∃ (y2 : Int32) (y3 : Int32) (y4 : Int32), is = [y2, y3, y4] ∧ ls = [] ∧ rs = [] ∧ gxT_285_114 p1 P y2 y3 y4 X v X') ∨ (l = 175 ∧ ∃ (y2 : Int32), is = [y2] ∧ ls = [] ∧ rs = [] ∧ gxT_285_175 p1 P y2 X v X')) n
theorem gxI_285_20 {p1 : Int32} {n : Nat} {y2 : Int32} {X : fx_X} {v : Int32} {X' : fx_X} (h : gxT_285_20 p1 (gxF_285 p1 n) y2 X v X') : gxF_285 p1 (n + 1) 20 [y2] [] [] X v X' := Or.inl ⟨rfl, y2, rfl, rfl, rfl, h⟩
theorem gxO_285_20 {p1 : Int32} {n : Nat} {y2 : Int32} {X : fx_X} {v : Int32} {X' : fx_X} (h : gxF_285 p1 (n + 1) 20 [y2] [] [] X v X') : gxT_285_20 p1 (gxF_285 p1 n) y2 X v X' := by
  rcases h with ⟨-, _, e1, e2, e3, h⟩ | ⟨e, -⟩ | ⟨e, -⟩ | ⟨e, -⟩
  · cases e1; cases e2; cases e3; exact h
  · exact absurd e (by decide)
  · exact absurd e (by decide)
  · exact absurd e (by decide)
theorem gxI_285_50 {p1 : Int32} {n : Nat} {y2 : Int32} {y3 : Int32} {y4 : Int32} {X : fx_X} {v : Int32} {X' : fx_X} (h : gxT_285_50 p1 (gxF_285 p1 n) y2 y3 y4 X v X') : gxF_285 p1 (n + 1) 50 [y2, y3, y4] [] [] X v X' := Or.inr (Or.inl ⟨rfl, y2, y3, y4, rfl, rfl, rfl, h⟩)
theorem gxO_285_50 {p1 : Int32} {n : Nat} {y2 : Int32} {y3 : Int32} {y4 : Int32} {X : fx_X} {v : Int32} {X' : fx_X} (h : gxF_285 p1 (n + 1) 50 [y2, y3, y4] [] [] X v X') : gxT_285_50 p1 (gxF_285 p1 n) y2 y3 y4 X v X' := by
  rcases h with ⟨e, -⟩ | ⟨-, _, _, _, e1, e2, e3, h⟩ | ⟨e, -⟩ | ⟨e, -⟩
  · exact absurd e (by decide)
  · cases e1; cases e2; cases e3; exact h
  · exact absurd e (by decide)
  · exact absurd e (by decide)
theorem gxI_285_114 {p1 : Int32} {n : Nat} {y2 : Int32} {y3 : Int32} {y4 : Int32} {X : fx_X} {v : Int32} {X' : fx_X} (h : gxT_285_114 p1 (gxF_285 p1 n) y2 y3 y4 X v X') : gxF_285 p1 (n + 1) 114 [y2, y3, y4] [] [] X v X' := Or.inr (Or.inr (Or.inl ⟨rfl, y2, y3, y4, rfl, rfl, rfl, h⟩))
theorem gxO_285_114 {p1 : Int32} {n : Nat} {y2 : Int32} {y3 : Int32} {y4 : Int32} {X : fx_X} {v : Int32} {X' : fx_X} (h : gxF_285 p1 (n + 1) 114 [y2, y3, y4] [] [] X v X') : gxT_285_114 p1 (gxF_285 p1 n) y2 y3 y4 X v X' := by
  rcases h with ⟨e, -⟩ | ⟨e, -⟩ | ⟨-, _, _, _, e1, e2, e3, h⟩ | ⟨e, -⟩
  · exact absurd e (by decide)
  · exact absurd e (by decide)
  · cases e1; cases e2; cases e3; exact h
  · exact absurd e (by decide)
theorem gxI_285_175 {p1 : Int32} {n : Nat} {y2 : Int32} {X : fx_X} {v : Int32} {X' : fx_X} (h : gxT_285_175 p1 (gxF_285 p1 n) y2 X v X') : gxF_285 p1 (n + 1) 175 [y2] [] [] X v X' := Or.inr (Or.inr (Or.inr (⟨rfl, y2, rfl, rfl, rfl, h⟩)))
theorem gxO_285_175 {p1 : Int32} {n : Nat} {y2 : Int32} {X : fx_X} {v : Int32} {X' : fx_X} (h : gxF_285 p1 (n + 1) 175 [y2] [] [] X v X') : gxT_285_175 p1 (gxF_285 p1 n) y2 X v X' := by
  rcases h with ⟨e, -⟩ | ⟨e, -⟩ | ⟨e, -⟩ | ⟨-, _, e1, e2, e3, h⟩
  · exact absurd e (by decide)
  · exact absurd e (by decide)
  · exact absurd e (by decide)
  · cases e1; cases e2; cases e3; exact h
def gx_285 (p1 : Int32) (X : fx_X) (v : Int32) (X' : fx_X) : Prop := ∃ n : Nat, gxE_285 p1 (gxF_285 p1 n) X v X'
theorem gxL_285 {tb : aj_T} (p1 : Int32) : ∀ N : Nat, (∀ (lv : aj_V) (y2 : Int32) (X : fx_X), aj_lv lv 0 = some (.ref 117) → aj_lv lv 1 = some (.int p1) → aj_lv lv 2 = some (.int y2) → fx_W tb aj_m285 N 20 lv [] X (fx_Q fx_qI (fun v X' => ∃ n : Nat, gxF_285 p1 n 20 [y2] [] [] X v X'))) ∧ (∀ (lv : aj_V) (y2 : Int32) (y3 : Int32) (y4 : Int32) (X : fx_X), aj_lv lv 0 = some (.ref 117) → aj_lv lv 1 = some (.int p1) → aj_lv lv 2 = some (.int y2) → aj_lv lv 3 = some (.int y3) → aj_lv lv 4 = some (.int y4) → fx_W tb aj_m285 N 50 lv [] X (fx_Q fx_qI (fun v X' => ∃ n : Nat, gxF_285 p1 n 50 [y2, y3, y4] [] [] X v X'))) ∧ (∀ (lv : aj_V) (y2 : Int32) (y3 : Int32) (y4 : Int32) (X : fx_X), aj_lv lv 0 = some (.ref 117) → aj_lv lv 1 = some (.int p1) → aj_lv lv 2 = some (.int y2) → aj_lv lv 3 = some (.int y3) → aj_lv lv 4 = some (.int y4) → fx_W tb aj_m285 N 114 lv [] X (fx_Q fx_qI (fun v X' => ∃ n : Nat, gxF_285 p1 n 114 [y2, y3, y4] [] [] X v X'))) ∧ (∀ (lv : aj_V) (y2 : Int32) (X : fx_X), aj_lv lv 0 = some (.ref 117) → aj_lv lv 1 = some (.int p1) → aj_lv lv 2 = some (.int y2) → fx_W tb aj_m285 N 175 lv [] X (fx_Q fx_qI (fun v X' => ∃ n : Nat, gxF_285 p1 n 175 [y2] [] [] X v X'))) := by
  intro N
  induction N with
  | zero => exact ⟨(by intros; exact fx_z), (by intros; exact fx_z), (by intros; exact fx_z), (by intros; exact fx_z)⟩
  | succ N ih =>
    refine ⟨?_, ?_, ?_, ?_⟩
    · intro lv y2 X hlv_0 hlv_1 hlv_2
      refine fx_mono (Q := fx_Q fx_qI (fun v X' => ∃ n : Nat, gxT_285_20 p1 (gxF_285 p1 n) y2 X v X')) (fun r X' ⟨v, e, n, z⟩ => ⟨v, e, n + 1, gxI_285_20 z⟩) ?_
      unfold gxT_285_20
      refine fx_i0 aj_d285 rfl (Nat.le_refl _) (fun _ => rfl) hlv_2 ?_
      refine fx_i2 aj_d285 rfl (Nat.le_succ _) (fun _ => rfl) hlv_0 ?_
      refine fx_gF aj_d285 rfl (Nat.le_succ _) rfl rfl fx_in_11_5 (t := 122) rfl (fun hA6 => ?_)
      refine fx_i2 aj_d285 rfl (Nat.le_succ _) (fun _ => rfl) hlv_0 ?_
      refine fx_gI aj_d285 rfl (Nat.le_succ _) rfl rfl (Or.inl rfl) ?_
      refine fx_ld aj_d285 (Or.inl rfl) rfl (Nat.le_succ _) (fun g70 g71 => ?_)
      show fx_W _ _ _ 30 lv [.int (X.1 122 ((X.1 117 0)).toInt.toNat), .int y2] _ _
      refine fx_qa (c := 0 ≤ ((X.1 117 0)).toInt ∧ ((X.1 117 0)).toInt < ((2 : Nat) : Int)) ⟨g70, fx_lnk g71 hA6⟩ ?_
      refine fx_b (tgt := 173) aj_d285 rfl (Nat.le_succ _) rfl (fun q8 => ?_) (fun q8 => ?_)
      · skip
        refine fx_qe (c := (y2).toInt < ((X.1 122 ((X.1 117 0)).toInt.toNat)).toInt) (fx_t_ge q8) ?_
        show fx_W _ _ _ 173 lv [] _ _
        refine fx_n (pc' := 174) (lv' := lv) (st' := [.int (Int32.ofInt 0)]) aj_d285 rfl (Nat.le_succ _) (fun _ => rfl) ?_
        refine fx_s0 (j := 2) aj_d285 rfl (Nat.le_succ _) (by decide) (fun _ => rfl) ?_
        obtain ⟨lv9, elv9⟩ : ∃ l, l = aj_set1 lv 2 (.int (Int32.ofInt 0)) := ⟨_, rfl⟩
        rw [← elv9]
        have hlv9_0 : aj_lv lv9 0 = some (.ref 117) := fx_e1 elv9 hlv_0 (by decide) (Or.inl (by decide))
        have hlv9_1 : aj_lv lv9 1 = some (.int p1) := fx_e1 elv9 hlv_1 (by decide) (Or.inr rfl)
        have hlv9_2 : aj_lv lv9 2 = some (.int (Int32.ofInt 0)) := by rw [elv9]; exact ak_set1_eq _ _ _
        show fx_W _ _ _ 175 lv9 [] _ _
        exact (ih.2.2.2) lv9 ((Int32.ofInt 0)) X  hlv9_0 hlv9_1 hlv9_2
      · skip
        refine fx_qi (c := (y2).toInt < ((X.1 122 ((X.1 117 0)).toInt.toNat)).toInt) (fx_f_ge q8) ?_
        show fx_W _ _ _ 33 lv [] _ _
        refine fx_i2 aj_d285 rfl (Nat.le_succ _) (fun _ => rfl) hlv_0 ?_
        refine fx_gF aj_d285 rfl (Nat.le_succ _) rfl rfl fx_in_11_14 (t := 130) rfl (fun hA10 => ?_)
        refine fx_n (pc' := 38) (lv' := lv) (st' := [.int (Int32.ofInt 0), .ref 130]) aj_d285 rfl (Nat.le_succ _) (fun _ => rfl) ?_
        refine fx_i0 aj_d285 rfl (Nat.le_succ _) (fun _ => rfl) hlv_2 ?_
        refine fx_cs aj_d285 rfl (Nat.le_succ _) rfl rfl [_, _, _] rfl rfl (gx_227_ok 130 (Int32.ofInt 0) y2) ?_
        rintro _ X11 ⟨w12, rfl, hR11⟩ hok11 hle11
        refine fx_qc hR11 ?_
        show fx_W _ _ _ 42 lv [.int w12] _ _
        refine fx_b0 (tgt := 167) aj_d285 rfl (Nat.le_succ _) rfl (fun q13 => ?_) (fun q13 => ?_)
        · skip
          refine fx_qi (c := (w12).toInt = 0) (fx_t_eq q13) ?_
          show fx_W _ _ _ 167 lv [] _ _
          refine fx_incq aj_d285 rfl (Nat.le_succ _) hlv_2 (by decide) (fun x14 ex14 => ?_)
          obtain ⟨lv15, elv15⟩ : ∃ l, l = aj_set1 lv 2 (.int x14) := ⟨_, rfl⟩
          rw [← elv15]
          have hlv15_0 : aj_lv lv15 0 = some (.ref 117) := fx_e1 elv15 hlv_0 (by decide) (Or.inl (by decide))
          have hlv15_1 : aj_lv lv15 1 = some (.int p1) := fx_e1 elv15 hlv_1 (by decide) (Or.inr rfl)
          have hlv15_2 : aj_lv lv15 2 = some (.int x14) := by rw [elv15]; exact ak_set1_eq _ _ _
          show fx_W _ _ _ 170 lv15 [] _ _
          refine fx_n (pc' := 20) (lv' := lv15) (st' := []) aj_d285 rfl (Nat.le_succ _) (fun _ => rfl) ?_
          exact (ih.1) lv15 (x14) X11  hlv15_0 hlv15_1 hlv15_2
        · skip
          refine fx_qe (c := (w12).toInt = 0) (fx_f_eq q13) ?_
          show fx_W _ _ _ 45 lv [] _ _
          refine fx_n (pc' := 46) (lv' := lv) (st' := [.int (Int32.ofInt 0)]) aj_d285 rfl (Nat.le_succ _) (fun _ => rfl) ?_
          refine fx_s0 (j := 3) aj_d285 rfl (Nat.le_succ _) (by decide) (fun _ => rfl) ?_
          obtain ⟨lv16, elv16⟩ : ∃ l, l = aj_set1 lv 3 (.int (Int32.ofInt 0)) := ⟨_, rfl⟩
          rw [← elv16]
          have hlv16_0 : aj_lv lv16 0 = some (.ref 117) := fx_e1 elv16 hlv_0 (by decide) (Or.inl (by decide))
          have hlv16_1 : aj_lv lv16 1 = some (.int p1) := fx_e1 elv16 hlv_1 (by decide) (Or.inl (by decide))
          have hlv16_2 : aj_lv lv16 2 = some (.int y2) := fx_e1 elv16 hlv_2 (by decide) (Or.inr rfl)
          have hlv16_3 : aj_lv lv16 3 = some (.int (Int32.ofInt 0)) := by rw [elv16]; exact ak_set1_eq _ _ _
          show fx_W _ _ _ 47 lv16 [] _ _
          refine fx_n (pc' := 48) (lv' := lv16) (st' := [.int (Int32.ofInt 0)]) aj_d285 rfl (Nat.le_succ _) (fun _ => rfl) ?_
          refine fx_s0 (j := 4) aj_d285 rfl (Nat.le_succ _) (by decide) (fun _ => rfl) ?_
          obtain ⟨lv17, elv17⟩ : ∃ l, l = aj_set1 lv16 4 (.int (Int32.ofInt 0)) := ⟨_, rfl⟩
          rw [← elv17]
          have hlv17_0 : aj_lv lv17 0 = some (.ref 117) := fx_e1 elv17 hlv16_0 (by decide) (Or.inl (by decide))
          have hlv17_1 : aj_lv lv17 1 = some (.int p1) := fx_e1 elv17 hlv16_1 (by decide) (Or.inl (by decide))
          have hlv17_2 : aj_lv lv17 2 = some (.int y2) := fx_e1 elv17 hlv16_2 (by decide) (Or.inl (by decide))
          have hlv17_3 : aj_lv lv17 3 = some (.int (Int32.ofInt 0)) := fx_e1 elv17 hlv16_3 (by decide) (Or.inr rfl)
          have hlv17_4 : aj_lv lv17 4 = some (.int (Int32.ofInt 0)) := by rw [elv17]; exact ak_set1_eq _ _ _
          show fx_W _ _ _ 50 lv17 [] _ _
          exact (ih.2.1) lv17 (y2) ((Int32.ofInt 0)) ((Int32.ofInt 0)) X11  hlv17_0 hlv17_1 hlv17_2 hlv17_3 hlv17_4
    · intro lv y2 y3 y4 X hlv_0 hlv_1 hlv_2 hlv_3 hlv_4
      refine fx_mono (Q := fx_Q fx_qI (fun v X' => ∃ n : Nat, gxT_285_50 p1 (gxF_285 p1 n) y2 y3 y4 X v X')) (fun r X' ⟨v, e, n, z⟩ => ⟨v, e, n + 1, gxI_285_50 z⟩) ?_
      unfold gxT_285_50
      refine fx_i0 aj_d285 rfl (Nat.le_refl _) (fun _ => rfl) hlv_4 ?_
      refine fx_i2 aj_d285 rfl (Nat.le_succ _) (fun _ => rfl) hlv_0 ?_
      refine fx_gF aj_d285 rfl (Nat.le_succ _) rfl rfl fx_in_11_10 (t := 127) rfl (fun hA26 => ?_)
      refine fx_i2 aj_d285 rfl (Nat.le_succ _) (fun _ => rfl) hlv_0 ?_
      refine fx_gI aj_d285 rfl (Nat.le_succ _) rfl rfl (Or.inl rfl) ?_
      refine fx_ld aj_d285 (Or.inl rfl) rfl (Nat.le_succ _) (fun g270 g271 => ?_)
      show fx_W _ _ _ 61 lv [.int (X.1 127 ((X.1 117 0)).toInt.toNat), .int y4] _ _
      refine fx_qa (c := 0 ≤ ((X.1 117 0)).toInt ∧ ((X.1 117 0)).toInt < ((2 : Nat) : Int)) ⟨g270, fx_lnk g271 hA26⟩ ?_
      refine fx_b (tgt := 105) aj_d285 rfl (Nat.le_succ _) rfl (fun q28 => ?_) (fun q28 => ?_)
      · skip
        refine fx_qe (c := (y4).toInt < ((X.1 127 ((X.1 117 0)).toInt.toNat)).toInt) (fx_t_ge q28) ?_
        show fx_W _ _ _ 105 lv [] _ _
        refine fx_i0 aj_d285 rfl (Nat.le_succ _) (fun _ => rfl) hlv_3 ?_
        refine fx_b0 (tgt := 111) aj_d285 rfl (Nat.le_succ _) rfl (fun q29 => ?_) (fun q29 => ?_)
        · skip
          refine fx_qe (c := (y3).toInt = 0) (fx_t_ne q29) ?_
          show fx_W _ _ _ 111 lv [] _ _
          refine fx_n (pc' := 112) (lv' := lv) (st' := [.int (Int32.ofInt 0)]) aj_d285 rfl (Nat.le_succ _) (fun _ => rfl) ?_
          refine fx_s0 (j := 4) aj_d285 rfl (Nat.le_succ _) (by decide) (fun _ => rfl) ?_
          obtain ⟨lv30, elv30⟩ : ∃ l, l = aj_set1 lv 4 (.int (Int32.ofInt 0)) := ⟨_, rfl⟩
          rw [← elv30]
          have hlv30_0 : aj_lv lv30 0 = some (.ref 117) := fx_e1 elv30 hlv_0 (by decide) (Or.inl (by decide))
          have hlv30_1 : aj_lv lv30 1 = some (.int p1) := fx_e1 elv30 hlv_1 (by decide) (Or.inl (by decide))
          have hlv30_2 : aj_lv lv30 2 = some (.int y2) := fx_e1 elv30 hlv_2 (by decide) (Or.inl (by decide))
          have hlv30_3 : aj_lv lv30 3 = some (.int y3) := fx_e1 elv30 hlv_3 (by decide) (Or.inr rfl)
          have hlv30_4 : aj_lv lv30 4 = some (.int (Int32.ofInt 0)) := by rw [elv30]; exact ak_set1_eq _ _ _
          show fx_W _ _ _ 114 lv30 [] _ _
          exact (ih.2.2.1) lv30 (y2) (y3) ((Int32.ofInt 0)) X  hlv30_0 hlv30_1 hlv30_2 hlv30_3 hlv30_4
        · skip
          refine fx_qi (c := (y3).toInt = 0) (fx_f_ne q29) ?_
          show fx_W _ _ _ 109 lv [] _ _
          refine fx_n (pc' := 110) (lv' := lv) (st' := [.int (Int32.ofInt (-1))]) aj_d285 rfl (Nat.le_succ _) (fun _ => rfl) ?_
          exact fx_ri aj_d285 rfl ⟨_, rfl, 0, rfl, rfl⟩
      · skip
        refine fx_qi (c := (y4).toInt < ((X.1 127 ((X.1 117 0)).toInt.toNat)).toInt) (fx_f_ge q28) ?_
        show fx_W _ _ _ 64 lv [] _ _
        refine fx_i2 aj_d285 rfl (Nat.le_succ _) (fun _ => rfl) hlv_0 ?_
        refine fx_gF aj_d285 rfl (Nat.le_succ _) rfl rfl fx_in_11_12 (t := 129) rfl (fun hA31 => ?_)
        refine fx_i2 aj_d285 rfl (Nat.le_succ _) (fun _ => rfl) hlv_0 ?_
        refine fx_gI aj_d285 rfl (Nat.le_succ _) rfl rfl (Or.inl rfl) ?_
        refine fx_n (pc' := 74) (lv' := lv) (st' := [.int ((Int8.ofInt 20).toInt32), .int (X.1 117 0), .ref 129]) aj_d285 rfl (Nat.le_succ _) (fun _ => rfl) ?_
        refine fx_n (pc' := 75) (lv' := lv) (st' := [.int ((X.1 117 0) * ((Int8.ofInt 20).toInt32)), .ref 129]) aj_d285 rfl (Nat.le_succ _) (fun _ => rfl) ?_
        refine fx_i0 aj_d285 rfl (Nat.le_succ _) (fun _ => rfl) hlv_4 ?_
        refine fx_n (pc' := 78) (lv' := lv) (st' := [.int (((X.1 117 0) * ((Int8.ofInt 20).toInt32)) + y4), .ref 129]) aj_d285 rfl (Nat.le_succ _) (fun _ => rfl) ?_
        refine fx_n (pc' := 80) (lv' := lv) (st' := [.int ((Int8.ofInt 32).toInt32), .int (((X.1 117 0) * ((Int8.ofInt 20).toInt32)) + y4), .ref 129]) aj_d285 rfl (Nat.le_succ _) (fun _ => rfl) ?_
        refine fx_n (pc' := 81) (lv' := lv) (st' := [.int ((((X.1 117 0) * ((Int8.ofInt 20).toInt32)) + y4) * ((Int8.ofInt 32).toInt32)), .ref 129]) aj_d285 rfl (Nat.le_succ _) (fun _ => rfl) ?_
        refine fx_i0 aj_d285 rfl (Nat.le_succ _) (fun _ => rfl) hlv_2 ?_
        refine fx_cs aj_d285 rfl (Nat.le_succ _) rfl rfl [_, _, _] rfl rfl (gx_227_ok 129 ((((X.1 117 0) * ((Int8.ofInt 20).toInt32)) + y4) * ((Int8.ofInt 32).toInt32)) y2) ?_
        rintro _ X32 ⟨w33, rfl, hR32⟩ hok32 hle32
        refine fx_qc hR32 ?_
        show fx_W _ _ _ 85 lv [.int w33] _ _
        refine fx_b0 (tgt := 92) aj_d285 rfl (Nat.le_succ _) rfl (fun q34 => ?_) (fun q34 => ?_)
        · skip
          refine fx_qi (c := (w33).toInt = 0) (fx_t_eq q34) ?_
          show fx_W _ _ _ 92 lv [] _ _
          refine fx_i0 aj_d285 rfl (Nat.le_succ _) (fun _ => rfl) hlv_3 ?_
          refine fx_n (pc' := 94) (lv' := lv) (st' := [.int (Int32.ofInt 1), .int y3]) aj_d285 rfl (Nat.le_succ _) (fun _ => rfl) ?_
          refine fx_i0 aj_d285 rfl (Nat.le_succ _) (fun _ => rfl) hlv_4 ?_
          refine fx_n (pc' := 97) (lv' := lv) (st' := [.int ((Int32.ofInt 1) <<< (y4 &&& 31)), .int y3]) aj_d285 rfl (Nat.le_succ _) (fun _ => rfl) ?_
          refine fx_n (pc' := 98) (lv' := lv) (st' := [.int (y3 ||| ((Int32.ofInt 1) <<< (y4 &&& 31)))]) aj_d285 rfl (Nat.le_succ _) (fun _ => rfl) ?_
          refine fx_qxI (fun x35 ex35 => ?_)
          refine fx_s0 (j := 3) aj_d285 rfl (Nat.le_succ _) (by decide) (fun _ => rfl) ?_
          obtain ⟨lv36, elv36⟩ : ∃ l, l = aj_set1 lv 3 (.int x35) := ⟨_, rfl⟩
          rw [← elv36]
          have hlv36_0 : aj_lv lv36 0 = some (.ref 117) := fx_e1 elv36 hlv_0 (by decide) (Or.inl (by decide))
          have hlv36_1 : aj_lv lv36 1 = some (.int p1) := fx_e1 elv36 hlv_1 (by decide) (Or.inl (by decide))
          have hlv36_2 : aj_lv lv36 2 = some (.int y2) := fx_e1 elv36 hlv_2 (by decide) (Or.inr rfl)
          have hlv36_4 : aj_lv lv36 4 = some (.int y4) := fx_e1 elv36 hlv_4 (by decide) (Or.inl (by decide))
          have hlv36_3 : aj_lv lv36 3 = some (.int x35) := by rw [elv36]; exact ak_set1_eq _ _ _
          show fx_W _ _ _ 99 lv36 [] _ _
          refine fx_incq aj_d285 rfl (Nat.le_succ _) hlv36_4 (by decide) (fun x37 ex37 => ?_)
          obtain ⟨lv38, elv38⟩ : ∃ l, l = aj_set1 lv36 4 (.int x37) := ⟨_, rfl⟩
          rw [← elv38]
          have hlv38_0 : aj_lv lv38 0 = some (.ref 117) := fx_e1 elv38 hlv36_0 (by decide) (Or.inl (by decide))
          have hlv38_1 : aj_lv lv38 1 = some (.int p1) := fx_e1 elv38 hlv36_1 (by decide) (Or.inl (by decide))
          have hlv38_2 : aj_lv lv38 2 = some (.int y2) := fx_e1 elv38 hlv36_2 (by decide) (Or.inl (by decide))
          have hlv38_3 : aj_lv lv38 3 = some (.int x35) := fx_e1 elv38 hlv36_3 (by decide) (Or.inr rfl)
          have hlv38_4 : aj_lv lv38 4 = some (.int x37) := by rw [elv38]; exact ak_set1_eq _ _ _
          show fx_W _ _ _ 102 lv38 [] _ _
          refine fx_n (pc' := 50) (lv' := lv38) (st' := []) aj_d285 rfl (Nat.le_succ _) (fun _ => rfl) ?_
          exact (ih.2.1) lv38 (y2) (x35) (x37) X32  hlv38_0 hlv38_1 hlv38_2 hlv38_3 hlv38_4
        · skip
          refine fx_qe (c := (w33).toInt = 0) (fx_f_eq q34) ?_
          show fx_W _ _ _ 88 lv [] _ _
          refine fx_i0 aj_d285 rfl (Nat.le_succ _) (fun _ => rfl) hlv_3 ?_
          refine fx_n (pc' := 98) (lv' := lv) (st' := [.int y3]) aj_d285 rfl (Nat.le_succ _) (fun _ => rfl) ?_
          refine fx_s0 (j := 3) aj_d285 rfl (Nat.le_succ _) (by decide) (fun _ => rfl) ?_
          obtain ⟨lv39, elv39⟩ : ∃ l, l = aj_set1 lv 3 (.int y3) := ⟨_, rfl⟩
          rw [← elv39]
          have hlv39_0 : aj_lv lv39 0 = some (.ref 117) := fx_e1 elv39 hlv_0 (by decide) (Or.inl (by decide))
          have hlv39_1 : aj_lv lv39 1 = some (.int p1) := fx_e1 elv39 hlv_1 (by decide) (Or.inl (by decide))
          have hlv39_2 : aj_lv lv39 2 = some (.int y2) := fx_e1 elv39 hlv_2 (by decide) (Or.inr rfl)
          have hlv39_4 : aj_lv lv39 4 = some (.int y4) := fx_e1 elv39 hlv_4 (by decide) (Or.inl (by decide))
          have hlv39_3 : aj_lv lv39 3 = some (.int y3) := by rw [elv39]; exact ak_set1_eq _ _ _
          show fx_W _ _ _ 99 lv39 [] _ _
          refine fx_incq aj_d285 rfl (Nat.le_succ _) hlv39_4 (by decide) (fun x40 ex40 => ?_)
          obtain ⟨lv41, elv41⟩ : ∃ l, l = aj_set1 lv39 4 (.int x40) := ⟨_, rfl⟩
          rw [← elv41]
          have hlv41_0 : aj_lv lv41 0 = some (.ref 117) := fx_e1 elv41 hlv39_0 (by decide) (Or.inl (by decide))
          have hlv41_1 : aj_lv lv41 1 = some (.int p1) := fx_e1 elv41 hlv39_1 (by decide) (Or.inl (by decide))
          have hlv41_2 : aj_lv lv41 2 = some (.int y2) := fx_e1 elv41 hlv39_2 (by decide) (Or.inl (by decide))
          have hlv41_3 : aj_lv lv41 3 = some (.int y3) := fx_e1 elv41 hlv39_3 (by decide) (Or.inr rfl)
          have hlv41_4 : aj_lv lv41 4 = some (.int x40) := by rw [elv41]; exact ak_set1_eq _ _ _
          show fx_W _ _ _ 102 lv41 [] _ _
          refine fx_n (pc' := 50) (lv' := lv41) (st' := []) aj_d285 rfl (Nat.le_succ _) (fun _ => rfl) ?_
          exact (ih.2.1) lv41 (y2) (y3) (x40) X32  hlv41_0 hlv41_1 hlv41_2 hlv41_3 hlv41_4
    · intro lv y2 y3 y4 X hlv_0 hlv_1 hlv_2 hlv_3 hlv_4
      refine fx_mono (Q := fx_Q fx_qI (fun v X' => ∃ n : Nat, gxT_285_114 p1 (gxF_285 p1 n) y2 y3 y4 X v X')) (fun r X' ⟨v, e, n, z⟩ => ⟨v, e, n + 1, gxI_285_114 z⟩) ?_
      unfold gxT_285_114
      refine fx_i0 aj_d285 rfl (Nat.le_refl _) (fun _ => rfl) hlv_4 ?_
      refine fx_i2 aj_d285 rfl (Nat.le_succ _) (fun _ => rfl) hlv_0 ?_
      refine fx_gI aj_d285 rfl (Nat.le_succ _) rfl rfl (Or.inl rfl) ?_
      refine fx_b (tgt := 140) aj_d285 rfl (Nat.le_succ _) rfl (fun q42 => ?_) (fun q42 => ?_)
      · skip
        refine fx_qe (c := (y4).toInt < ((X.1 117 61)).toInt) (fx_t_ge q42) ?_
        show fx_W _ _ _ 140 lv [] _ _
        refine fx_i0 aj_d285 rfl (Nat.le_succ _) (fun _ => rfl) hlv_4 ?_
        refine fx_i2 aj_d285 rfl (Nat.le_succ _) (fun _ => rfl) hlv_0 ?_
        refine fx_gI aj_d285 rfl (Nat.le_succ _) rfl rfl (Or.inl rfl) ?_
        refine fx_b (tgt := 167) aj_d285 rfl (Nat.le_succ _) rfl (fun q43 => ?_) (fun q43 => ?_)
        · skip
          refine fx_qe (c := (y4).toInt = ((X.1 117 61)).toInt) (fx_t_ne q43) ?_
          show fx_W _ _ _ 167 lv [] _ _
          refine fx_incq aj_d285 rfl (Nat.le_succ _) hlv_2 (by decide) (fun x44 ex44 => ?_)
          obtain ⟨lv45, elv45⟩ : ∃ l, l = aj_set1 lv 2 (.int x44) := ⟨_, rfl⟩
          rw [← elv45]
          have hlv45_0 : aj_lv lv45 0 = some (.ref 117) := fx_e1 elv45 hlv_0 (by decide) (Or.inl (by decide))
          have hlv45_1 : aj_lv lv45 1 = some (.int p1) := fx_e1 elv45 hlv_1 (by decide) (Or.inr rfl)
          have hlv45_2 : aj_lv lv45 2 = some (.int x44) := by rw [elv45]; exact ak_set1_eq _ _ _
          show fx_W _ _ _ 170 lv45 [] _ _
          refine fx_n (pc' := 20) (lv' := lv45) (st' := []) aj_d285 rfl (Nat.le_succ _) (fun _ => rfl) ?_
          exact (ih.1) lv45 (x44) X  hlv45_0 hlv45_1 hlv45_2
        · skip
          refine fx_qi (c := (y4).toInt = ((X.1 117 61)).toInt) (fx_f_ne q43) ?_
          show fx_W _ _ _ 149 lv [] _ _
          refine fx_i2 aj_d285 rfl (Nat.le_succ _) (fun _ => rfl) hlv_0 ?_
          refine fx_gF aj_d285 rfl (Nat.le_succ _) rfl rfl fx_in_11_60 (t := 145) rfl (fun hA46 => ?_)
          refine fx_i0 aj_d285 rfl (Nat.le_succ _) (fun _ => rfl) hlv_4 ?_
          refine fx_i0 aj_d285 rfl (Nat.le_succ _) (fun _ => rfl) hlv_3 ?_
          refine fx_st aj_d285 (Or.inl ⟨rfl, rfl⟩) rfl (Nat.le_succ _) (fun g470 g471 => ?_)
          show fx_W _ _ _ _ _ _ (fx_wI X 145 (y4).toInt.toNat y3) _
          refine fx_qa (c := 0 ≤ (y4).toInt ∧ (y4).toInt < ((1024 : Nat) : Int)) ⟨g470, fx_lnk g471 hA46⟩ ?_
          refine fx_qX (fun X48 eX48 => ?_)
          show fx_W _ _ _ 157 lv [] _ _
          refine fx_i2 aj_d285 rfl (Nat.le_succ _) (fun _ => rfl) hlv_0 ?_
          refine fx_n (pc' := 159) (lv' := lv) (st' := [.ref 117, .ref 117]) aj_d285 rfl (Nat.le_succ _) (fun _ => rfl) ?_
          refine fx_gI aj_d285 rfl (Nat.le_succ _) rfl rfl (Or.inl rfl) ?_
          refine fx_n (pc' := 163) (lv' := lv) (st' := [.int (Int32.ofInt 1), .int (X48.1 117 61), .ref 117]) aj_d285 rfl (Nat.le_succ _) (fun _ => rfl) ?_
          refine fx_n (pc' := 164) (lv' := lv) (st' := [.int ((X48.1 117 61) + (Int32.ofInt 1)), .ref 117]) aj_d285 rfl (Nat.le_succ _) (fun _ => rfl) ?_
          refine fx_pI aj_d285 rfl (Nat.le_succ _) rfl rfl (Or.inl rfl) fx_no_11_61 (by decide) ?_
          refine fx_qX (fun X49 eX49 => ?_)
          show fx_W _ _ _ 167 lv [] _ _
          refine fx_incq aj_d285 rfl (Nat.le_succ _) hlv_2 (by decide) (fun x50 ex50 => ?_)
          obtain ⟨lv51, elv51⟩ : ∃ l, l = aj_set1 lv 2 (.int x50) := ⟨_, rfl⟩
          rw [← elv51]
          have hlv51_0 : aj_lv lv51 0 = some (.ref 117) := fx_e1 elv51 hlv_0 (by decide) (Or.inl (by decide))
          have hlv51_1 : aj_lv lv51 1 = some (.int p1) := fx_e1 elv51 hlv_1 (by decide) (Or.inr rfl)
          have hlv51_2 : aj_lv lv51 2 = some (.int x50) := by rw [elv51]; exact ak_set1_eq _ _ _
          show fx_W _ _ _ 170 lv51 [] _ _
          refine fx_n (pc' := 20) (lv' := lv51) (st' := []) aj_d285 rfl (Nat.le_succ _) (fun _ => rfl) ?_
          exact (ih.1) lv51 (x50) X49  hlv51_0 hlv51_1 hlv51_2
      · skip
        refine fx_qi (c := (y4).toInt < ((X.1 117 61)).toInt) (fx_f_ge q42) ?_
        show fx_W _ _ _ 123 lv [] _ _
        refine fx_i2 aj_d285 rfl (Nat.le_succ _) (fun _ => rfl) hlv_0 ?_
        refine fx_gF aj_d285 rfl (Nat.le_succ _) rfl rfl fx_in_11_60 (t := 145) rfl (fun hA52 => ?_)
        refine fx_i0 aj_d285 rfl (Nat.le_succ _) (fun _ => rfl) hlv_4 ?_
        refine fx_ld aj_d285 (Or.inl rfl) rfl (Nat.le_succ _) (fun g530 g531 => ?_)
        show fx_W _ _ _ 130 lv [.int (X.1 145 (y4).toInt.toNat)] _ _
        refine fx_qa (c := 0 ≤ (y4).toInt ∧ (y4).toInt < ((1024 : Nat) : Int)) ⟨g530, fx_lnk g531 hA52⟩ ?_
        refine fx_i0 aj_d285 rfl (Nat.le_succ _) (fun _ => rfl) hlv_3 ?_
        refine fx_b (tgt := 140) aj_d285 rfl (Nat.le_succ _) rfl (fun q54 => ?_) (fun q54 => ?_)
        · skip
          refine fx_qi (c := ((X.1 145 (y4).toInt.toNat)).toInt = (y3).toInt) (fx_t_eq q54) ?_
          show fx_W _ _ _ 140 lv [] _ _
          refine fx_i0 aj_d285 rfl (Nat.le_succ _) (fun _ => rfl) hlv_4 ?_
          refine fx_i2 aj_d285 rfl (Nat.le_succ _) (fun _ => rfl) hlv_0 ?_
          refine fx_gI aj_d285 rfl (Nat.le_succ _) rfl rfl (Or.inl rfl) ?_
          refine fx_b (tgt := 167) aj_d285 rfl (Nat.le_succ _) rfl (fun q55 => ?_) (fun q55 => ?_)
          · skip
            refine fx_qe (c := (y4).toInt = ((X.1 117 61)).toInt) (fx_t_ne q55) ?_
            show fx_W _ _ _ 167 lv [] _ _
            refine fx_incq aj_d285 rfl (Nat.le_succ _) hlv_2 (by decide) (fun x56 ex56 => ?_)
            obtain ⟨lv57, elv57⟩ : ∃ l, l = aj_set1 lv 2 (.int x56) := ⟨_, rfl⟩
            rw [← elv57]
            have hlv57_0 : aj_lv lv57 0 = some (.ref 117) := fx_e1 elv57 hlv_0 (by decide) (Or.inl (by decide))
            have hlv57_1 : aj_lv lv57 1 = some (.int p1) := fx_e1 elv57 hlv_1 (by decide) (Or.inr rfl)
            have hlv57_2 : aj_lv lv57 2 = some (.int x56) := by rw [elv57]; exact ak_set1_eq _ _ _
            show fx_W _ _ _ 170 lv57 [] _ _
            refine fx_n (pc' := 20) (lv' := lv57) (st' := []) aj_d285 rfl (Nat.le_succ _) (fun _ => rfl) ?_
            exact (ih.1) lv57 (x56) X  hlv57_0 hlv57_1 hlv57_2
          · skip
            refine fx_qi (c := (y4).toInt = ((X.1 117 61)).toInt) (fx_f_ne q55) ?_
            show fx_W _ _ _ 149 lv [] _ _
            refine fx_i2 aj_d285 rfl (Nat.le_succ _) (fun _ => rfl) hlv_0 ?_
            refine fx_gF aj_d285 rfl (Nat.le_succ _) rfl rfl fx_in_11_60 (t := 145) rfl (fun hA58 => ?_)
            refine fx_i0 aj_d285 rfl (Nat.le_succ _) (fun _ => rfl) hlv_4 ?_
            refine fx_i0 aj_d285 rfl (Nat.le_succ _) (fun _ => rfl) hlv_3 ?_
            refine fx_st aj_d285 (Or.inl ⟨rfl, rfl⟩) rfl (Nat.le_succ _) (fun g590 g591 => ?_)
            show fx_W _ _ _ _ _ _ (fx_wI X 145 (y4).toInt.toNat y3) _
            refine fx_qa (c := 0 ≤ (y4).toInt ∧ (y4).toInt < ((1024 : Nat) : Int)) ⟨g590, fx_lnk g591 hA58⟩ ?_
            refine fx_qX (fun X60 eX60 => ?_)
            show fx_W _ _ _ 157 lv [] _ _
            refine fx_i2 aj_d285 rfl (Nat.le_succ _) (fun _ => rfl) hlv_0 ?_
            refine fx_n (pc' := 159) (lv' := lv) (st' := [.ref 117, .ref 117]) aj_d285 rfl (Nat.le_succ _) (fun _ => rfl) ?_
            refine fx_gI aj_d285 rfl (Nat.le_succ _) rfl rfl (Or.inl rfl) ?_
            refine fx_n (pc' := 163) (lv' := lv) (st' := [.int (Int32.ofInt 1), .int (X60.1 117 61), .ref 117]) aj_d285 rfl (Nat.le_succ _) (fun _ => rfl) ?_
            refine fx_n (pc' := 164) (lv' := lv) (st' := [.int ((X60.1 117 61) + (Int32.ofInt 1)), .ref 117]) aj_d285 rfl (Nat.le_succ _) (fun _ => rfl) ?_
            refine fx_pI aj_d285 rfl (Nat.le_succ _) rfl rfl (Or.inl rfl) fx_no_11_61 (by decide) ?_
            refine fx_qX (fun X61 eX61 => ?_)
            show fx_W _ _ _ 167 lv [] _ _
            refine fx_incq aj_d285 rfl (Nat.le_succ _) hlv_2 (by decide) (fun x62 ex62 => ?_)
            obtain ⟨lv63, elv63⟩ : ∃ l, l = aj_set1 lv 2 (.int x62) := ⟨_, rfl⟩
            rw [← elv63]
            have hlv63_0 : aj_lv lv63 0 = some (.ref 117) := fx_e1 elv63 hlv_0 (by decide) (Or.inl (by decide))
            have hlv63_1 : aj_lv lv63 1 = some (.int p1) := fx_e1 elv63 hlv_1 (by decide) (Or.inr rfl)
            have hlv63_2 : aj_lv lv63 2 = some (.int x62) := by rw [elv63]; exact ak_set1_eq _ _ _
            show fx_W _ _ _ 170 lv63 [] _ _
            refine fx_n (pc' := 20) (lv' := lv63) (st' := []) aj_d285 rfl (Nat.le_succ _) (fun _ => rfl) ?_
            exact (ih.1) lv63 (x62) X61  hlv63_0 hlv63_1 hlv63_2
        · skip
          refine fx_qe (c := ((X.1 145 (y4).toInt.toNat)).toInt = (y3).toInt) (fx_f_eq q54) ?_
          show fx_W _ _ _ 134 lv [] _ _
          refine fx_incq aj_d285 rfl (Nat.le_succ _) hlv_4 (by decide) (fun x64 ex64 => ?_)
          obtain ⟨lv65, elv65⟩ : ∃ l, l = aj_set1 lv 4 (.int x64) := ⟨_, rfl⟩
          rw [← elv65]
          have hlv65_0 : aj_lv lv65 0 = some (.ref 117) := fx_e1 elv65 hlv_0 (by decide) (Or.inl (by decide))
          have hlv65_1 : aj_lv lv65 1 = some (.int p1) := fx_e1 elv65 hlv_1 (by decide) (Or.inl (by decide))
          have hlv65_2 : aj_lv lv65 2 = some (.int y2) := fx_e1 elv65 hlv_2 (by decide) (Or.inl (by decide))
          have hlv65_3 : aj_lv lv65 3 = some (.int y3) := fx_e1 elv65 hlv_3 (by decide) (Or.inr rfl)
          have hlv65_4 : aj_lv lv65 4 = some (.int x64) := by rw [elv65]; exact ak_set1_eq _ _ _
          show fx_W _ _ _ 137 lv65 [] _ _
          refine fx_n (pc' := 114) (lv' := lv65) (st' := []) aj_d285 rfl (Nat.le_succ _) (fun _ => rfl) ?_
          exact (ih.2.2.1) lv65 (y2) (y3) (x64) X  hlv65_0 hlv65_1 hlv65_2 hlv65_3 hlv65_4
    · intro lv y2 X hlv_0 hlv_1 hlv_2
      refine fx_mono (Q := fx_Q fx_qI (fun v X' => ∃ n : Nat, gxT_285_175 p1 (gxF_285 p1 n) y2 X v X')) (fun r X' ⟨v, e, n, z⟩ => ⟨v, e, n + 1, gxI_285_175 z⟩) ?_
      unfold gxT_285_175
      refine fx_i2 aj_d285 rfl (Nat.le_refl _) (fun _ => rfl) hlv_0 ?_
      refine fx_i0 aj_d285 rfl (Nat.le_succ _) (fun _ => rfl) hlv_2 ?_
      refine fx_cv aj_d285 rfl (Nat.le_succ _) rfl [_] rfl rfl (gx_286_ok y2) ?_
      rintro _ X18 ⟨w19, rfl, hR18⟩ hok18 hle18
      refine fx_qc hR18 ?_
      show fx_W _ _ _ 180 lv [.int w19] _ _
      refine fx_b0 (tgt := 189) aj_d285 rfl (Nat.le_succ _) rfl (fun q20 => ?_) (fun q20 => ?_)
      · skip
        refine fx_qe (c := (w19).toInt = 0) (fx_t_ne q20) ?_
        show fx_W _ _ _ 189 lv [] _ _
        refine fx_i0 aj_d285 rfl (Nat.le_succ _) (fun _ => rfl) hlv_1 ?_
        refine fx_i0 aj_d285 rfl (Nat.le_succ _) (fun _ => rfl) hlv_2 ?_
        refine fx_b (tgt := 203) aj_d285 rfl (Nat.le_succ _) rfl (fun q21 => ?_) (fun q21 => ?_)
        · skip
          refine fx_qe (c := (p1).toInt < (y2).toInt) (fx_t_ge q21) ?_
          show fx_W _ _ _ 203 lv [] _ _
          refine fx_n (pc' := 204) (lv' := lv) (st' := [.int (Int32.ofInt (-1))]) aj_d285 rfl (Nat.le_succ _) (fun _ => rfl) ?_
          exact fx_ri aj_d285 rfl ⟨_, rfl, 0, rfl, rfl⟩
        · skip
          refine fx_qi (c := (p1).toInt < (y2).toInt) (fx_f_ge q21) ?_
          show fx_W _ _ _ 194 lv [] _ _
          refine fx_i2 aj_d285 rfl (Nat.le_succ _) (fun _ => rfl) hlv_0 ?_
          refine fx_gF aj_d285 rfl (Nat.le_succ _) rfl rfl fx_in_11_62 (t := 146) rfl (fun hA22 => ?_)
          refine fx_i0 aj_d285 rfl (Nat.le_succ _) (fun _ => rfl) hlv_1 ?_
          refine fx_ld aj_d285 (Or.inl rfl) rfl (Nat.le_succ _) (fun g230 g231 => ?_)
          show fx_W _ _ _ 200 lv [.int (X18.1 146 (p1).toInt.toNat)] _ _
          refine fx_qa (c := 0 ≤ (p1).toInt ∧ (p1).toInt < ((20 : Nat) : Int)) ⟨g230, fx_lnk g231 hA22⟩ ?_
          refine fx_n (pc' := 204) (lv' := lv) (st' := [.int (X18.1 146 (p1).toInt.toNat)]) aj_d285 rfl (Nat.le_succ _) (fun _ => rfl) ?_
          exact fx_ri aj_d285 rfl ⟨_, rfl, 0, rfl, rfl⟩
      · skip
        refine fx_qi (c := (w19).toInt = 0) (fx_f_ne q20) ?_
        show fx_W _ _ _ 183 lv [] _ _
        refine fx_incq aj_d285 rfl (Nat.le_succ _) hlv_2 (by decide) (fun x24 ex24 => ?_)
        obtain ⟨lv25, elv25⟩ : ∃ l, l = aj_set1 lv 2 (.int x24) := ⟨_, rfl⟩
        rw [← elv25]
        have hlv25_0 : aj_lv lv25 0 = some (.ref 117) := fx_e1 elv25 hlv_0 (by decide) (Or.inl (by decide))
        have hlv25_1 : aj_lv lv25 1 = some (.int p1) := fx_e1 elv25 hlv_1 (by decide) (Or.inr rfl)
        have hlv25_2 : aj_lv lv25 2 = some (.int x24) := by rw [elv25]; exact ak_set1_eq _ _ _
        show fx_W _ _ _ 186 lv25 [] _ _
        refine fx_n (pc' := 175) (lv' := lv25) (st' := []) aj_d285 rfl (Nat.le_succ _) (fun _ => rfl) ?_
        exact (ih.2.2.2) lv25 (x24) X18  hlv25_0 hlv25_1 hlv25_2
theorem gx_285_ok {tb : aj_T} (p1 : Int32) {X : fx_X} : fx_K tb 285 [.ref 117, .int p1] X (fx_Q fx_qI (fun v X' => gx_285 p1 X v X')) := by
  refine fx_m aj_m285_at rfl (fun N => ?_)
  refine fx_mono (Q := fx_Q fx_qI (fun v X' => ∃ n : Nat, gxE_285 p1 (gxF_285 p1 n) X v X')) (fun r X' h => h) ?_
  unfold gxE_285
  show fx_W _ _ _ 0 [(0, .ref 117), (1, .int p1)] [] _ _
  obtain ⟨lv1, elv1⟩ : ∃ l : aj_V, l = [(0, .ref 117), (1, .int p1)] := ⟨_, rfl⟩
  rw [← elv1]
  have hlv1_0 : aj_lv lv1 0 = some (.ref 117) := by rw [elv1]; rfl
  have hlv1_1 : aj_lv lv1 1 = some (.int p1) := by rw [elv1]; rfl
  refine fx_i2 aj_d285 rfl (Nat.le_succ _) (fun _ => rfl) hlv1_0 ?_
  refine fx_gI aj_d285 rfl (Nat.le_succ _) rfl rfl (Or.inr (Or.inl rfl)) ?_
  refine fx_b0 (tgt := 11) aj_d285 rfl (Nat.le_succ _) rfl (fun q2 => ?_) (fun q2 => ?_)
  · skip
    refine fx_qi (c := ((X.1 117 13)).toInt = 0) (fx_t_eq q2) ?_
    show fx_W _ _ _ 11 lv1 [] _ _
    refine fx_n (pc' := 12) (lv' := lv1) (st' := [.int (Int32.ofInt (-1))]) aj_d285 rfl (Nat.le_succ _) (fun _ => rfl) ?_
    exact fx_ri aj_d285 rfl ⟨_, rfl, 0, rfl, rfl⟩
  · skip
    refine fx_qe (c := ((X.1 117 13)).toInt = 0) (fx_f_eq q2) ?_
    show fx_W _ _ _ 7 lv1 [] _ _
    refine fx_i0 aj_d285 rfl (Nat.le_succ _) (fun _ => rfl) hlv1_1 ?_
    refine fx_b0 (tgt := 13) aj_d285 rfl (Nat.le_succ _) rfl (fun q3 => ?_) (fun q3 => ?_)
    · skip
      refine fx_qe (c := (p1).toInt < 0) (fx_t_ge q3) ?_
      show fx_W _ _ _ 13 lv1 [] _ _
      refine fx_i2 aj_d285 rfl (Nat.le_succ _) (fun _ => rfl) hlv1_0 ?_
      refine fx_n (pc' := 15) (lv' := lv1) (st' := [.int (Int32.ofInt 0), .ref 117]) aj_d285 rfl (Nat.le_succ _) (fun _ => rfl) ?_
      refine fx_pI aj_d285 rfl (Nat.le_succ _) rfl rfl (Or.inl rfl) fx_no_11_61 (by decide) ?_
      refine fx_qX (fun X4 eX4 => ?_)
      show fx_W _ _ _ 18 lv1 [] _ _
      refine fx_n (pc' := 19) (lv' := lv1) (st' := [.int (Int32.ofInt 0)]) aj_d285 rfl (Nat.le_succ _) (fun _ => rfl) ?_
      refine fx_s0 (j := 2) aj_d285 rfl (Nat.le_succ _) (by decide) (fun _ => rfl) ?_
      obtain ⟨lv5, elv5⟩ : ∃ l, l = aj_set1 lv1 2 (.int (Int32.ofInt 0)) := ⟨_, rfl⟩
      rw [← elv5]
      have hlv5_0 : aj_lv lv5 0 = some (.ref 117) := fx_e1 elv5 hlv1_0 (by decide) (Or.inl (by decide))
      have hlv5_1 : aj_lv lv5 1 = some (.int p1) := fx_e1 elv5 hlv1_1 (by decide) (Or.inr rfl)
      have hlv5_2 : aj_lv lv5 2 = some (.int (Int32.ofInt 0)) := by rw [elv5]; exact ak_set1_eq _ _ _
      show fx_W _ _ _ 20 lv5 [] _ _
      exact ((gxL_285 p1 N).1) lv5 ((Int32.ofInt 0)) X4  hlv5_0 hlv5_1 hlv5_2
    · skip
      refine fx_qi (c := (p1).toInt < 0) (fx_f_ge q3) ?_
      show fx_W _ _ _ 11 lv1 [] _ _
      refine fx_n (pc' := 12) (lv' := lv1) (st' := [.int (Int32.ofInt (-1))]) aj_d285 rfl (Nat.le_succ _) (fun _ => rfl) ?_
      exact fx_ri aj_d285 rfl ⟨_, rfl, 0, rfl, rfl⟩
def gxT_289_4 (p1 : Int32) (P : Nat → List Int32 → List Int64 → List Nat → fx_X → Int32 → fx_X → Prop) (y2 : Int32) (y3 : Int32) (X : fx_X) (v : Int32) (X' : fx_X) : Prop :=
  (0 ≤ ((X.1 117 0)).toInt ∧ ((X.1 117 0)).toInt < ((2 : Nat) : Int)) ∧ (if (y3).toInt < ((X.1 122 ((X.1 117 0)).toInt.toNat)).toInt then (∃ (w8 : Int32) (X7 : fx_X), gx_247 (X.1 117 0) y3 X w8 X7 ∧ (if (w8).toInt = 0 then (∃ x10 : Int32, x10 = y3 + Int32.ofInt 1 ∧ P 4 [y2, x10] [] [] X7 v X') else ((if (y2).toInt = (p1).toInt then (v = y3 ∧ X' = X7) else (∃ x13 : Int32, x13 = y2 + Int32.ofInt 1 ∧ ∃ x15 : Int32, x15 = y3 + Int32.ofInt 1 ∧ P 4 [x13, x15] [] [] X7 v X'))))) else (v = (Int32.ofInt (-1)) ∧ X' = X))
def gxE_289 (p1 : Int32) (P : Nat → List Int32 → List Int64 → List Nat → fx_X → Int32 → fx_X → Prop) (X : fx_X) (v : Int32) (X' : fx_X) : Prop :=
  P 4 [(Int32.ofInt 0), (Int32.ofInt 0)] [] [] X v X'
noncomputable def gxF_289 (p1 : Int32) (n : Nat) : Nat → List Int32 → List Int64 → List Nat → fx_X → Int32 → fx_X → Prop := Nat.rec (motive := fun _ => Nat → List Int32 → List Int64 → List Nat → fx_X → Int32 → fx_X → Prop) (fun _ _ _ _ _ _ _ => False) (fun _ P l is ls rs X v X' => (l = 4 ∧ ∃ (y2 : Int32) (y3 : Int32), is = [y2, y3] ∧ ls = [] ∧ rs = [] ∧ gxT_289_4 p1 P y2 y3 X v X')) n
theorem gxI_289_4 {p1 : Int32} {n : Nat} {y2 : Int32} {y3 : Int32} {X : fx_X} {v : Int32} {X' : fx_X} (h : gxT_289_4 p1 (gxF_289 p1 n) y2 y3 X v X') : gxF_289 p1 (n + 1) 4 [y2, y3] [] [] X v X' := ⟨rfl, y2, y3, rfl, rfl, rfl, h⟩
theorem gxO_289_4 {p1 : Int32} {n : Nat} {y2 : Int32} {y3 : Int32} {X : fx_X} {v : Int32} {X' : fx_X} (h : gxF_289 p1 (n + 1) 4 [y2, y3] [] [] X v X') : gxT_289_4 p1 (gxF_289 p1 n) y2 y3 X v X' := by
  rcases h with ⟨-, _, _, e1, e2, e3, h⟩
  · cases e1; cases e2; cases e3; exact h
def gx_289 (p1 : Int32) (X : fx_X) (v : Int32) (X' : fx_X) : Prop := ∃ n : Nat, gxE_289 p1 (gxF_289 p1 n) X v X'
theorem gxL_289 {tb : aj_T} (p1 : Int32) : ∀ N : Nat, (∀ (lv : aj_V) (y2 : Int32) (y3 : Int32) (X : fx_X), aj_lv lv 0 = some (.ref 117) → aj_lv lv 1 = some (.int p1) → aj_lv lv 2 = some (.int y2) → aj_lv lv 3 = some (.int y3) → fx_W tb aj_m289 N 4 lv [] X (fx_Q fx_qI (fun v X' => ∃ n : Nat, gxF_289 p1 n 4 [y2, y3] [] [] X v X'))) := by
  intro N
  induction N with
  | zero => exact (by intros; exact fx_z)
  | succ N ih =>
    skip
    · intro lv y2 y3 X hlv_0 hlv_1 hlv_2 hlv_3
      refine fx_mono (Q := fx_Q fx_qI (fun v X' => ∃ n : Nat, gxT_289_4 p1 (gxF_289 p1 n) y2 y3 X v X')) (fun r X' ⟨v, e, n, z⟩ => ⟨v, e, n + 1, gxI_289_4 z⟩) ?_
      unfold gxT_289_4
      refine fx_i0 aj_d289 rfl (Nat.le_refl _) (fun _ => rfl) hlv_3 ?_
      refine fx_i2 aj_d289 rfl (Nat.le_succ _) (fun _ => rfl) hlv_0 ?_
      refine fx_gF aj_d289 rfl (Nat.le_succ _) rfl rfl fx_in_11_5 (t := 122) rfl (fun hA4 => ?_)
      refine fx_i2 aj_d289 rfl (Nat.le_succ _) (fun _ => rfl) hlv_0 ?_
      refine fx_gI aj_d289 rfl (Nat.le_succ _) rfl rfl (Or.inl rfl) ?_
      refine fx_ld aj_d289 (Or.inl rfl) rfl (Nat.le_succ _) (fun g50 g51 => ?_)
      show fx_W _ _ _ 14 lv [.int (X.1 122 ((X.1 117 0)).toInt.toNat), .int y3] _ _
      refine fx_qa (c := 0 ≤ ((X.1 117 0)).toInt ∧ ((X.1 117 0)).toInt < ((2 : Nat) : Int)) ⟨g50, fx_lnk g51 hA4⟩ ?_
      refine fx_b (tgt := 45) aj_d289 rfl (Nat.le_succ _) rfl (fun q6 => ?_) (fun q6 => ?_)
      · skip
        refine fx_qe (c := (y3).toInt < ((X.1 122 ((X.1 117 0)).toInt.toNat)).toInt) (fx_t_ge q6) ?_
        show fx_W _ _ _ 45 lv [] _ _
        refine fx_n (pc' := 46) (lv' := lv) (st' := [.int (Int32.ofInt (-1))]) aj_d289 rfl (Nat.le_succ _) (fun _ => rfl) ?_
        exact fx_ri aj_d289 rfl ⟨_, rfl, 0, rfl, rfl⟩
      · skip
        refine fx_qi (c := (y3).toInt < ((X.1 122 ((X.1 117 0)).toInt.toNat)).toInt) (fx_f_ge q6) ?_
        show fx_W _ _ _ 17 lv [] _ _
        refine fx_i2 aj_d289 rfl (Nat.le_succ _) (fun _ => rfl) hlv_0 ?_
        refine fx_i2 aj_d289 rfl (Nat.le_succ _) (fun _ => rfl) hlv_0 ?_
        refine fx_gI aj_d289 rfl (Nat.le_succ _) rfl rfl (Or.inl rfl) ?_
        refine fx_i0 aj_d289 rfl (Nat.le_succ _) (fun _ => rfl) hlv_3 ?_
        refine fx_cv aj_d289 rfl (Nat.le_succ _) rfl [_, _] rfl rfl (gx_247_ok (X.1 117 0) y3) ?_
        rintro _ X7 ⟨w8, rfl, hR7⟩ hok7 hle7
        refine fx_qc hR7 ?_
        show fx_W _ _ _ 26 lv [.int w8] _ _
        refine fx_b0 (tgt := 39) aj_d289 rfl (Nat.le_succ _) rfl (fun q9 => ?_) (fun q9 => ?_)
        · skip
          refine fx_qi (c := (w8).toInt = 0) (fx_t_eq q9) ?_
          show fx_W _ _ _ 39 lv [] _ _
          refine fx_incq aj_d289 rfl (Nat.le_succ _) hlv_3 (by decide) (fun x10 ex10 => ?_)
          obtain ⟨lv11, elv11⟩ : ∃ l, l = aj_set1 lv 3 (.int x10) := ⟨_, rfl⟩
          rw [← elv11]
          have hlv11_0 : aj_lv lv11 0 = some (.ref 117) := fx_e1 elv11 hlv_0 (by decide) (Or.inl (by decide))
          have hlv11_1 : aj_lv lv11 1 = some (.int p1) := fx_e1 elv11 hlv_1 (by decide) (Or.inl (by decide))
          have hlv11_2 : aj_lv lv11 2 = some (.int y2) := fx_e1 elv11 hlv_2 (by decide) (Or.inr rfl)
          have hlv11_3 : aj_lv lv11 3 = some (.int x10) := by rw [elv11]; exact ak_set1_eq _ _ _
          show fx_W _ _ _ 42 lv11 [] _ _
          refine fx_n (pc' := 4) (lv' := lv11) (st' := []) aj_d289 rfl (Nat.le_succ _) (fun _ => rfl) ?_
          exact (ih) lv11 (y2) (x10) X7  hlv11_0 hlv11_1 hlv11_2 hlv11_3
        · skip
          refine fx_qe (c := (w8).toInt = 0) (fx_f_eq q9) ?_
          show fx_W _ _ _ 29 lv [] _ _
          refine fx_i0 aj_d289 rfl (Nat.le_succ _) (fun _ => rfl) hlv_2 ?_
          refine fx_i0 aj_d289 rfl (Nat.le_succ _) (fun _ => rfl) hlv_1 ?_
          refine fx_b (tgt := 36) aj_d289 rfl (Nat.le_succ _) rfl (fun q12 => ?_) (fun q12 => ?_)
          · skip
            refine fx_qe (c := (y2).toInt = (p1).toInt) (fx_t_ne q12) ?_
            show fx_W _ _ _ 36 lv [] _ _
            refine fx_incq aj_d289 rfl (Nat.le_succ _) hlv_2 (by decide) (fun x13 ex13 => ?_)
            obtain ⟨lv14, elv14⟩ : ∃ l, l = aj_set1 lv 2 (.int x13) := ⟨_, rfl⟩
            rw [← elv14]
            have hlv14_0 : aj_lv lv14 0 = some (.ref 117) := fx_e1 elv14 hlv_0 (by decide) (Or.inl (by decide))
            have hlv14_1 : aj_lv lv14 1 = some (.int p1) := fx_e1 elv14 hlv_1 (by decide) (Or.inr rfl)
            have hlv14_3 : aj_lv lv14 3 = some (.int y3) := fx_e1 elv14 hlv_3 (by decide) (Or.inl (by decide))
            have hlv14_2 : aj_lv lv14 2 = some (.int x13) := by rw [elv14]; exact ak_set1_eq _ _ _
            show fx_W _ _ _ 39 lv14 [] _ _
            refine fx_incq aj_d289 rfl (Nat.le_succ _) hlv14_3 (by decide) (fun x15 ex15 => ?_)
            obtain ⟨lv16, elv16⟩ : ∃ l, l = aj_set1 lv14 3 (.int x15) := ⟨_, rfl⟩
            rw [← elv16]
            have hlv16_0 : aj_lv lv16 0 = some (.ref 117) := fx_e1 elv16 hlv14_0 (by decide) (Or.inl (by decide))
            have hlv16_1 : aj_lv lv16 1 = some (.int p1) := fx_e1 elv16 hlv14_1 (by decide) (Or.inl (by decide))
            have hlv16_2 : aj_lv lv16 2 = some (.int x13) := fx_e1 elv16 hlv14_2 (by decide) (Or.inr rfl)
            have hlv16_3 : aj_lv lv16 3 = some (.int x15) := by rw [elv16]; exact ak_set1_eq _ _ _
            show fx_W _ _ _ 42 lv16 [] _ _
            refine fx_n (pc' := 4) (lv' := lv16) (st' := []) aj_d289 rfl (Nat.le_succ _) (fun _ => rfl) ?_
            exact (ih) lv16 (x13) (x15) X7  hlv16_0 hlv16_1 hlv16_2 hlv16_3
          · skip
            refine fx_qi (c := (y2).toInt = (p1).toInt) (fx_f_ne q12) ?_
            show fx_W _ _ _ 34 lv [] _ _
            refine fx_i0 aj_d289 rfl (Nat.le_succ _) (fun _ => rfl) hlv_3 ?_
            exact fx_ri aj_d289 rfl ⟨_, rfl, 0, rfl, rfl⟩
theorem gx_289_ok {tb : aj_T} (p1 : Int32) {X : fx_X} : fx_K tb 289 [.ref 117, .int p1] X (fx_Q fx_qI (fun v X' => gx_289 p1 X v X')) := by
  refine fx_m aj_m289_at rfl (fun N => ?_)
  refine fx_mono (Q := fx_Q fx_qI (fun v X' => ∃ n : Nat, gxE_289 p1 (gxF_289 p1 n) X v X')) (fun r X' h => h) ?_
  unfold gxE_289
  show fx_W _ _ _ 0 [(0, .ref 117), (1, .int p1)] [] _ _
  obtain ⟨lv1, elv1⟩ : ∃ l : aj_V, l = [(0, .ref 117), (1, .int p1)] := ⟨_, rfl⟩
  rw [← elv1]
  have hlv1_0 : aj_lv lv1 0 = some (.ref 117) := by rw [elv1]; rfl
  have hlv1_1 : aj_lv lv1 1 = some (.int p1) := by rw [elv1]; rfl
  refine fx_n (pc' := 1) (lv' := lv1) (st' := [.int (Int32.ofInt 0)]) aj_d289 rfl (Nat.le_succ _) (fun _ => rfl) ?_
  refine fx_s0 (j := 2) aj_d289 rfl (Nat.le_succ _) (by decide) (fun _ => rfl) ?_
  obtain ⟨lv2, elv2⟩ : ∃ l, l = aj_set1 lv1 2 (.int (Int32.ofInt 0)) := ⟨_, rfl⟩
  rw [← elv2]
  have hlv2_0 : aj_lv lv2 0 = some (.ref 117) := fx_e1 elv2 hlv1_0 (by decide) (Or.inl (by decide))
  have hlv2_1 : aj_lv lv2 1 = some (.int p1) := fx_e1 elv2 hlv1_1 (by decide) (Or.inr rfl)
  have hlv2_2 : aj_lv lv2 2 = some (.int (Int32.ofInt 0)) := by rw [elv2]; exact ak_set1_eq _ _ _
  show fx_W _ _ _ 2 lv2 [] _ _
  refine fx_n (pc' := 3) (lv' := lv2) (st' := [.int (Int32.ofInt 0)]) aj_d289 rfl (Nat.le_succ _) (fun _ => rfl) ?_
  refine fx_s0 (j := 3) aj_d289 rfl (Nat.le_succ _) (by decide) (fun _ => rfl) ?_
  obtain ⟨lv3, elv3⟩ : ∃ l, l = aj_set1 lv2 3 (.int (Int32.ofInt 0)) := ⟨_, rfl⟩
  rw [← elv3]
  have hlv3_0 : aj_lv lv3 0 = some (.ref 117) := fx_e1 elv3 hlv2_0 (by decide) (Or.inl (by decide))
  have hlv3_1 : aj_lv lv3 1 = some (.int p1) := fx_e1 elv3 hlv2_1 (by decide) (Or.inl (by decide))
  have hlv3_2 : aj_lv lv3 2 = some (.int (Int32.ofInt 0)) := fx_e1 elv3 hlv2_2 (by decide) (Or.inr rfl)
  have hlv3_3 : aj_lv lv3 3 = some (.int (Int32.ofInt 0)) := by rw [elv3]; exact ak_set1_eq _ _ _
  show fx_W _ _ _ 4 lv3 [] _ _
  exact ((gxL_289 p1 N)) lv3 ((Int32.ofInt 0)) ((Int32.ofInt 0)) X  hlv3_0 hlv3_1 hlv3_2 hlv3_3
def gx_288 (p1 : Int32) (p2 : Int32) (X : fx_X) (v : Int32) (X' : fx_X) : Prop :=
  (if (p1).toInt < 0 then (v = (Int32.ofInt (-100000)) ∧ X' = X) else ((if (p2).toInt < 0 then (v = (Int32.ofInt (-100000)) ∧ X' = X) else ((0 ≤ ((X.1 117 0)).toInt ∧ ((X.1 117 0)).toInt < ((2 : Nat) : Int)) ∧ (if (p2).toInt < ((X.1 118 ((X.1 117 0)).toInt.toNat)).toInt then (∃ (w12 : Int32) (X11 : fx_X), gx_289 p1 X w12 X11 ∧ (if (w12).toInt < 0 then (v = (Int32.ofInt (-100000)) ∧ X' = X11) else (∃ (w16 : Int32) (X15 : fx_X), gx_241 (X11.1 117 0) p2 w12 X11 w16 X15 ∧ v = w16 ∧ X' = X15))) else (v = (Int32.ofInt (-100000)) ∧ X' = X))))))
theorem gx_288_ok {tb : aj_T} (p1 : Int32) (p2 : Int32) {X : fx_X} : fx_K tb 288 [.ref 117, .int p1, .int p2] X (fx_Q fx_qI (fun v X' => gx_288 p1 p2 X v X')) := by
  refine fx_m aj_m288_at rfl (fun N => ?_)
  refine fx_mono (Q := fx_Q fx_qI (fun v X' => ∃ n : Nat, gx_288 p1 p2 X v X')) (fun r X' ⟨v, e, _, z⟩ => ⟨v, e, z⟩) ?_
  unfold gx_288
  show fx_W _ _ _ 0 [(0, .ref 117), (1, .int p1), (2, .int p2)] [] _ _
  obtain ⟨lv1, elv1⟩ : ∃ l : aj_V, l = [(0, .ref 117), (1, .int p1), (2, .int p2)] := ⟨_, rfl⟩
  rw [← elv1]
  have hlv1_0 : aj_lv lv1 0 = some (.ref 117) := by rw [elv1]; rfl
  have hlv1_1 : aj_lv lv1 1 = some (.int p1) := by rw [elv1]; rfl
  have hlv1_2 : aj_lv lv1 2 = some (.int p2) := by rw [elv1]; rfl
  refine fx_i0 aj_d288 rfl (Nat.le_succ _) (fun _ => rfl) hlv1_1 ?_
  refine fx_b0 (tgt := 21) aj_d288 rfl (Nat.le_succ _) rfl (fun q2 => ?_) (fun q2 => ?_)
  · skip
    refine fx_qi (c := (p1).toInt < 0) (fx_t_lt q2) ?_
    show fx_W _ _ _ 21 lv1 [] _ _
    refine fx_n (pc' := 22) (lv' := lv1) (st' := [.int (Int32.ofInt (-1))]) aj_d288 rfl (Nat.le_succ _) (fun _ => rfl) ?_
    refine fx_n (pc' := 30) (lv' := lv1) (st' := [.int (Int32.ofInt (-1))]) aj_d288 rfl (Nat.le_succ _) (fun _ => rfl) ?_
    refine fx_s0 (j := 3) aj_d288 rfl (Nat.le_succ _) (by decide) (fun _ => rfl) ?_
    obtain ⟨lv3, elv3⟩ : ∃ l, l = aj_set1 lv1 3 (.int (Int32.ofInt (-1))) := ⟨_, rfl⟩
    rw [← elv3]
    have hlv3_0 : aj_lv lv3 0 = some (.ref 117) := fx_e1 elv3 hlv1_0 (by decide) (Or.inl (by decide))
    have hlv3_2 : aj_lv lv3 2 = some (.int p2) := fx_e1 elv3 hlv1_2 (by decide) (Or.inr rfl)
    have hlv3_3 : aj_lv lv3 3 = some (.int (Int32.ofInt (-1))) := by rw [elv3]; exact ak_set1_eq _ _ _
    show fx_W _ _ _ 31 lv3 [] _ _
    refine fx_i0 aj_d288 rfl (Nat.le_succ _) (fun _ => rfl) hlv3_3 ?_
    refine fx_b0 (tgt := 41) aj_d288 rfl (Nat.le_succ _) rfl (fun q4 => ?_) (fun q4 => ?_)
    · exact absurd q4 (by decide)
    · skip
      show fx_W _ _ _ 35 lv3 [] _ _
      refine fx_n (pc' := 38) (lv' := lv3) (st' := [.int (Int32.ofInt (-100000))]) aj_d288 rfl (Nat.le_succ _) (fun _ => rfl) ?_
      refine fx_n (pc' := 51) (lv' := lv3) (st' := [.int (Int32.ofInt (-100000))]) aj_d288 rfl (Nat.le_succ _) (fun _ => rfl) ?_
      exact fx_ri aj_d288 rfl ⟨_, rfl, 0, rfl, rfl⟩
  · skip
    refine fx_qe (c := (p1).toInt < 0) (fx_f_lt q2) ?_
    show fx_W _ _ _ 4 lv1 [] _ _
    refine fx_i0 aj_d288 rfl (Nat.le_succ _) (fun _ => rfl) hlv1_2 ?_
    refine fx_b0 (tgt := 21) aj_d288 rfl (Nat.le_succ _) rfl (fun q5 => ?_) (fun q5 => ?_)
    · skip
      refine fx_qi (c := (p2).toInt < 0) (fx_t_lt q5) ?_
      show fx_W _ _ _ 21 lv1 [] _ _
      refine fx_n (pc' := 22) (lv' := lv1) (st' := [.int (Int32.ofInt (-1))]) aj_d288 rfl (Nat.le_succ _) (fun _ => rfl) ?_
      refine fx_n (pc' := 30) (lv' := lv1) (st' := [.int (Int32.ofInt (-1))]) aj_d288 rfl (Nat.le_succ _) (fun _ => rfl) ?_
      refine fx_s0 (j := 3) aj_d288 rfl (Nat.le_succ _) (by decide) (fun _ => rfl) ?_
      obtain ⟨lv6, elv6⟩ : ∃ l, l = aj_set1 lv1 3 (.int (Int32.ofInt (-1))) := ⟨_, rfl⟩
      rw [← elv6]
      have hlv6_0 : aj_lv lv6 0 = some (.ref 117) := fx_e1 elv6 hlv1_0 (by decide) (Or.inl (by decide))
      have hlv6_2 : aj_lv lv6 2 = some (.int p2) := fx_e1 elv6 hlv1_2 (by decide) (Or.inr rfl)
      have hlv6_3 : aj_lv lv6 3 = some (.int (Int32.ofInt (-1))) := by rw [elv6]; exact ak_set1_eq _ _ _
      show fx_W _ _ _ 31 lv6 [] _ _
      refine fx_i0 aj_d288 rfl (Nat.le_succ _) (fun _ => rfl) hlv6_3 ?_
      refine fx_b0 (tgt := 41) aj_d288 rfl (Nat.le_succ _) rfl (fun q7 => ?_) (fun q7 => ?_)
      · exact absurd q7 (by decide)
      · skip
        show fx_W _ _ _ 35 lv6 [] _ _
        refine fx_n (pc' := 38) (lv' := lv6) (st' := [.int (Int32.ofInt (-100000))]) aj_d288 rfl (Nat.le_succ _) (fun _ => rfl) ?_
        refine fx_n (pc' := 51) (lv' := lv6) (st' := [.int (Int32.ofInt (-100000))]) aj_d288 rfl (Nat.le_succ _) (fun _ => rfl) ?_
        exact fx_ri aj_d288 rfl ⟨_, rfl, 0, rfl, rfl⟩
    · skip
      refine fx_qe (c := (p2).toInt < 0) (fx_f_lt q5) ?_
      show fx_W _ _ _ 8 lv1 [] _ _
      refine fx_i0 aj_d288 rfl (Nat.le_succ _) (fun _ => rfl) hlv1_2 ?_
      refine fx_i2 aj_d288 rfl (Nat.le_succ _) (fun _ => rfl) hlv1_0 ?_
      refine fx_gF aj_d288 rfl (Nat.le_succ _) rfl rfl fx_in_11_1 (t := 118) rfl (fun hA8 => ?_)
      refine fx_i2 aj_d288 rfl (Nat.le_succ _) (fun _ => rfl) hlv1_0 ?_
      refine fx_gI aj_d288 rfl (Nat.le_succ _) rfl rfl (Or.inl rfl) ?_
      refine fx_ld aj_d288 (Or.inl rfl) rfl (Nat.le_succ _) (fun g90 g91 => ?_)
      show fx_W _ _ _ 18 lv1 [.int (X.1 118 ((X.1 117 0)).toInt.toNat), .int p2] _ _
      refine fx_qa (c := 0 ≤ ((X.1 117 0)).toInt ∧ ((X.1 117 0)).toInt < ((2 : Nat) : Int)) ⟨g90, fx_lnk g91 hA8⟩ ?_
      refine fx_b (tgt := 25) aj_d288 rfl (Nat.le_succ _) rfl (fun q10 => ?_) (fun q10 => ?_)
      · skip
        refine fx_qi (c := (p2).toInt < ((X.1 118 ((X.1 117 0)).toInt.toNat)).toInt) (fx_t_lt q10) ?_
        show fx_W _ _ _ 25 lv1 [] _ _
        refine fx_i2 aj_d288 rfl (Nat.le_succ _) (fun _ => rfl) hlv1_0 ?_
        refine fx_i0 aj_d288 rfl (Nat.le_succ _) (fun _ => rfl) hlv1_1 ?_
        refine fx_cv aj_d288 rfl (Nat.le_succ _) rfl [_] rfl rfl (gx_289_ok p1) ?_
        rintro _ X11 ⟨w12, rfl, hR11⟩ hok11 hle11
        refine fx_qc hR11 ?_
        show fx_W _ _ _ 30 lv1 [.int w12] _ _
        refine fx_s0 (j := 3) aj_d288 rfl (Nat.le_succ _) (by decide) (fun _ => rfl) ?_
        obtain ⟨lv13, elv13⟩ : ∃ l, l = aj_set1 lv1 3 (.int w12) := ⟨_, rfl⟩
        rw [← elv13]
        have hlv13_0 : aj_lv lv13 0 = some (.ref 117) := fx_e1 elv13 hlv1_0 (by decide) (Or.inl (by decide))
        have hlv13_2 : aj_lv lv13 2 = some (.int p2) := fx_e1 elv13 hlv1_2 (by decide) (Or.inr rfl)
        have hlv13_3 : aj_lv lv13 3 = some (.int w12) := by rw [elv13]; exact ak_set1_eq _ _ _
        show fx_W _ _ _ 31 lv13 [] _ _
        refine fx_i0 aj_d288 rfl (Nat.le_succ _) (fun _ => rfl) hlv13_3 ?_
        refine fx_b0 (tgt := 41) aj_d288 rfl (Nat.le_succ _) rfl (fun q14 => ?_) (fun q14 => ?_)
        · skip
          refine fx_qe (c := (w12).toInt < 0) (fx_t_ge q14) ?_
          show fx_W _ _ _ 41 lv13 [] _ _
          refine fx_i2 aj_d288 rfl (Nat.le_succ _) (fun _ => rfl) hlv13_0 ?_
          refine fx_i2 aj_d288 rfl (Nat.le_succ _) (fun _ => rfl) hlv13_0 ?_
          refine fx_gI aj_d288 rfl (Nat.le_succ _) rfl rfl (Or.inl rfl) ?_
          refine fx_i0 aj_d288 rfl (Nat.le_succ _) (fun _ => rfl) hlv13_2 ?_
          refine fx_i0 aj_d288 rfl (Nat.le_succ _) (fun _ => rfl) hlv13_3 ?_
          refine fx_cv aj_d288 rfl (Nat.le_succ _) rfl [_, _, _] rfl rfl (gx_241_ok (X11.1 117 0) p2 w12) ?_
          rintro _ X15 ⟨w16, rfl, hR15⟩ hok15 hle15
          refine fx_qc hR15 ?_
          show fx_W _ _ _ 51 lv13 [.int w16] _ _
          exact fx_ri aj_d288 rfl ⟨_, rfl, 0, rfl, rfl⟩
        · skip
          refine fx_qi (c := (w12).toInt < 0) (fx_f_ge q14) ?_
          show fx_W _ _ _ 35 lv13 [] _ _
          refine fx_n (pc' := 38) (lv' := lv13) (st' := [.int (Int32.ofInt (-100000))]) aj_d288 rfl (Nat.le_succ _) (fun _ => rfl) ?_
          refine fx_n (pc' := 51) (lv' := lv13) (st' := [.int (Int32.ofInt (-100000))]) aj_d288 rfl (Nat.le_succ _) (fun _ => rfl) ?_
          exact fx_ri aj_d288 rfl ⟨_, rfl, 0, rfl, rfl⟩
      · skip
        refine fx_qe (c := (p2).toInt < ((X.1 118 ((X.1 117 0)).toInt.toNat)).toInt) (fx_f_lt q10) ?_
        show fx_W _ _ _ 21 lv1 [] _ _
        refine fx_n (pc' := 22) (lv' := lv1) (st' := [.int (Int32.ofInt (-1))]) aj_d288 rfl (Nat.le_succ _) (fun _ => rfl) ?_
        refine fx_n (pc' := 30) (lv' := lv1) (st' := [.int (Int32.ofInt (-1))]) aj_d288 rfl (Nat.le_succ _) (fun _ => rfl) ?_
        refine fx_s0 (j := 3) aj_d288 rfl (Nat.le_succ _) (by decide) (fun _ => rfl) ?_
        obtain ⟨lv17, elv17⟩ : ∃ l, l = aj_set1 lv1 3 (.int (Int32.ofInt (-1))) := ⟨_, rfl⟩
        rw [← elv17]
        have hlv17_0 : aj_lv lv17 0 = some (.ref 117) := fx_e1 elv17 hlv1_0 (by decide) (Or.inl (by decide))
        have hlv17_2 : aj_lv lv17 2 = some (.int p2) := fx_e1 elv17 hlv1_2 (by decide) (Or.inr rfl)
        have hlv17_3 : aj_lv lv17 3 = some (.int (Int32.ofInt (-1))) := by rw [elv17]; exact ak_set1_eq _ _ _
        show fx_W _ _ _ 31 lv17 [] _ _
        refine fx_i0 aj_d288 rfl (Nat.le_succ _) (fun _ => rfl) hlv17_3 ?_
        refine fx_b0 (tgt := 41) aj_d288 rfl (Nat.le_succ _) rfl (fun q18 => ?_) (fun q18 => ?_)
        · exact absurd q18 (by decide)
        · skip
          show fx_W _ _ _ 35 lv17 [] _ _
          refine fx_n (pc' := 38) (lv' := lv17) (st' := [.int (Int32.ofInt (-100000))]) aj_d288 rfl (Nat.le_succ _) (fun _ => rfl) ?_
          refine fx_n (pc' := 51) (lv' := lv17) (st' := [.int (Int32.ofInt (-100000))]) aj_d288 rfl (Nat.le_succ _) (fun _ => rfl) ?_
          exact fx_ri aj_d288 rfl ⟨_, rfl, 0, rfl, rfl⟩
def gx_291 (p1 : Int32) (X : fx_X) (v : Int32) (X' : fx_X) : Prop :=
  (if (p1).toInt < 0 then (v = (Int32.ofInt 0) ∧ X' = X) else ((0 ≤ ((X.1 117 0)).toInt ∧ ((X.1 117 0)).toInt < ((2 : Nat) : Int)) ∧ (if (p1).toInt < ((X.1 124 ((X.1 117 0)).toInt.toNat)).toInt then (v = (Int32.ofInt 1) ∧ X' = X) else (v = (Int32.ofInt 0) ∧ X' = X))))
theorem gx_291_ok {tb : aj_T} (p1 : Int32) {X : fx_X} : fx_K tb 291 [.ref 117, .int p1] X (fx_Q fx_qI (fun v X' => gx_291 p1 X v X')) := by
  refine fx_m aj_m291_at rfl (fun N => ?_)
  refine fx_mono (Q := fx_Q fx_qI (fun v X' => ∃ n : Nat, gx_291 p1 X v X')) (fun r X' ⟨v, e, _, z⟩ => ⟨v, e, z⟩) ?_
  unfold gx_291
  show fx_W _ _ _ 0 [(0, .ref 117), (1, .int p1)] [] _ _
  obtain ⟨lv1, elv1⟩ : ∃ l : aj_V, l = [(0, .ref 117), (1, .int p1)] := ⟨_, rfl⟩
  rw [← elv1]
  have hlv1_0 : aj_lv lv1 0 = some (.ref 117) := by rw [elv1]; rfl
  have hlv1_1 : aj_lv lv1 1 = some (.int p1) := by rw [elv1]; rfl
  refine fx_i0 aj_d291 rfl (Nat.le_succ _) (fun _ => rfl) hlv1_1 ?_
  refine fx_b0 (tgt := 21) aj_d291 rfl (Nat.le_succ _) rfl (fun q2 => ?_) (fun q2 => ?_)
  · skip
    refine fx_qi (c := (p1).toInt < 0) (fx_t_lt q2) ?_
    show fx_W _ _ _ 21 lv1 [] _ _
    refine fx_n (pc' := 22) (lv' := lv1) (st' := [.int (Int32.ofInt 0)]) aj_d291 rfl (Nat.le_succ _) (fun _ => rfl) ?_
    exact fx_ri aj_d291 rfl ⟨_, rfl, 0, rfl, rfl⟩
  · skip
    refine fx_qe (c := (p1).toInt < 0) (fx_f_lt q2) ?_
    show fx_W _ _ _ 4 lv1 [] _ _
    refine fx_i0 aj_d291 rfl (Nat.le_succ _) (fun _ => rfl) hlv1_1 ?_
    refine fx_i2 aj_d291 rfl (Nat.le_succ _) (fun _ => rfl) hlv1_0 ?_
    refine fx_gF aj_d291 rfl (Nat.le_succ _) rfl rfl fx_in_11_7 (t := 124) rfl (fun hA3 => ?_)
    refine fx_i2 aj_d291 rfl (Nat.le_succ _) (fun _ => rfl) hlv1_0 ?_
    refine fx_gI aj_d291 rfl (Nat.le_succ _) rfl rfl (Or.inl rfl) ?_
    refine fx_ld aj_d291 (Or.inl rfl) rfl (Nat.le_succ _) (fun g40 g41 => ?_)
    show fx_W _ _ _ 14 lv1 [.int (X.1 124 ((X.1 117 0)).toInt.toNat), .int p1] _ _
    refine fx_qa (c := 0 ≤ ((X.1 117 0)).toInt ∧ ((X.1 117 0)).toInt < ((2 : Nat) : Int)) ⟨g40, fx_lnk g41 hA3⟩ ?_
    refine fx_b (tgt := 21) aj_d291 rfl (Nat.le_succ _) rfl (fun q5 => ?_) (fun q5 => ?_)
    · skip
      refine fx_qe (c := (p1).toInt < ((X.1 124 ((X.1 117 0)).toInt.toNat)).toInt) (fx_t_ge q5) ?_
      show fx_W _ _ _ 21 lv1 [] _ _
      refine fx_n (pc' := 22) (lv' := lv1) (st' := [.int (Int32.ofInt 0)]) aj_d291 rfl (Nat.le_succ _) (fun _ => rfl) ?_
      exact fx_ri aj_d291 rfl ⟨_, rfl, 0, rfl, rfl⟩
    · skip
      refine fx_qi (c := (p1).toInt < ((X.1 124 ((X.1 117 0)).toInt.toNat)).toInt) (fx_f_ge q5) ?_
      show fx_W _ _ _ 17 lv1 [] _ _
      refine fx_n (pc' := 18) (lv' := lv1) (st' := [.int (Int32.ofInt 1)]) aj_d291 rfl (Nat.le_succ _) (fun _ => rfl) ?_
      refine fx_n (pc' := 22) (lv' := lv1) (st' := [.int (Int32.ofInt 1)]) aj_d291 rfl (Nat.le_succ _) (fun _ => rfl) ?_
      exact fx_ri aj_d291 rfl ⟨_, rfl, 0, rfl, rfl⟩
def gx_296 (p1 : Int32) (p2 : Int32) (p3 : Int32) (X : fx_X) (v : Int32) (X' : fx_X) : Prop :=
  ∃ (w3 : Int32) (X2 : fx_X), gx_267 p1 (p2 >>> (((Int8.ofInt 10).toInt32) &&& 31)) (p3 >>> (((Int8.ofInt 10).toInt32) &&& 31)) (p2 &&& ((Int16.ofInt 1023).toInt32)) (p3 &&& ((Int16.ofInt 1023).toInt32)) X w3 X2 ∧ v = w3 ∧ X' = X2
theorem gx_296_ok {tb : aj_T} (p1 : Int32) (p2 : Int32) (p3 : Int32) {X : fx_X} : fx_K tb 296 [.ref 117, .int p1, .int p2, .int p3] X (fx_Q fx_qI (fun v X' => gx_296 p1 p2 p3 X v X')) := by
  refine fx_m aj_m296_at rfl (fun N => ?_)
  refine fx_mono (Q := fx_Q fx_qI (fun v X' => ∃ n : Nat, gx_296 p1 p2 p3 X v X')) (fun r X' ⟨v, e, _, z⟩ => ⟨v, e, z⟩) ?_
  unfold gx_296
  show fx_W _ _ _ 0 [(0, .ref 117), (1, .int p1), (2, .int p2), (3, .int p3)] [] _ _
  obtain ⟨lv1, elv1⟩ : ∃ l : aj_V, l = [(0, .ref 117), (1, .int p1), (2, .int p2), (3, .int p3)] := ⟨_, rfl⟩
  rw [← elv1]
  have hlv1_0 : aj_lv lv1 0 = some (.ref 117) := by rw [elv1]; rfl
  have hlv1_1 : aj_lv lv1 1 = some (.int p1) := by rw [elv1]; rfl
  have hlv1_2 : aj_lv lv1 2 = some (.int p2) := by rw [elv1]; rfl
  have hlv1_3 : aj_lv lv1 3 = some (.int p3) := by rw [elv1]; rfl
  refine fx_i2 aj_d296 rfl (Nat.le_succ _) (fun _ => rfl) hlv1_0 ?_
  refine fx_i0 aj_d296 rfl (Nat.le_succ _) (fun _ => rfl) hlv1_1 ?_
  refine fx_i0 aj_d296 rfl (Nat.le_succ _) (fun _ => rfl) hlv1_2 ?_
  refine fx_n (pc' := 5) (lv' := lv1) (st' := [.int ((Int8.ofInt 10).toInt32), .int p2, .int p1, .ref 117]) aj_d296 rfl (Nat.le_succ _) (fun _ => rfl) ?_
  refine fx_n (pc' := 6) (lv' := lv1) (st' := [.int (p2 >>> (((Int8.ofInt 10).toInt32) &&& 31)), .int p1, .ref 117]) aj_d296 rfl (Nat.le_succ _) (fun _ => rfl) ?_
  refine fx_i0 aj_d296 rfl (Nat.le_succ _) (fun _ => rfl) hlv1_3 ?_
  refine fx_n (pc' := 9) (lv' := lv1) (st' := [.int ((Int8.ofInt 10).toInt32), .int p3, .int (p2 >>> (((Int8.ofInt 10).toInt32) &&& 31)), .int p1, .ref 117]) aj_d296 rfl (Nat.le_succ _) (fun _ => rfl) ?_
  refine fx_n (pc' := 10) (lv' := lv1) (st' := [.int (p3 >>> (((Int8.ofInt 10).toInt32) &&& 31)), .int (p2 >>> (((Int8.ofInt 10).toInt32) &&& 31)), .int p1, .ref 117]) aj_d296 rfl (Nat.le_succ _) (fun _ => rfl) ?_
  refine fx_i0 aj_d296 rfl (Nat.le_succ _) (fun _ => rfl) hlv1_2 ?_
  refine fx_n (pc' := 14) (lv' := lv1) (st' := [.int ((Int16.ofInt 1023).toInt32), .int p2, .int (p3 >>> (((Int8.ofInt 10).toInt32) &&& 31)), .int (p2 >>> (((Int8.ofInt 10).toInt32) &&& 31)), .int p1, .ref 117]) aj_d296 rfl (Nat.le_succ _) (fun _ => rfl) ?_
  refine fx_n (pc' := 15) (lv' := lv1) (st' := [.int (p2 &&& ((Int16.ofInt 1023).toInt32)), .int (p3 >>> (((Int8.ofInt 10).toInt32) &&& 31)), .int (p2 >>> (((Int8.ofInt 10).toInt32) &&& 31)), .int p1, .ref 117]) aj_d296 rfl (Nat.le_succ _) (fun _ => rfl) ?_
  refine fx_i0 aj_d296 rfl (Nat.le_succ _) (fun _ => rfl) hlv1_3 ?_
  refine fx_n (pc' := 19) (lv' := lv1) (st' := [.int ((Int16.ofInt 1023).toInt32), .int p3, .int (p2 &&& ((Int16.ofInt 1023).toInt32)), .int (p3 >>> (((Int8.ofInt 10).toInt32) &&& 31)), .int (p2 >>> (((Int8.ofInt 10).toInt32) &&& 31)), .int p1, .ref 117]) aj_d296 rfl (Nat.le_succ _) (fun _ => rfl) ?_
  refine fx_n (pc' := 20) (lv' := lv1) (st' := [.int (p3 &&& ((Int16.ofInt 1023).toInt32)), .int (p2 &&& ((Int16.ofInt 1023).toInt32)), .int (p3 >>> (((Int8.ofInt 10).toInt32) &&& 31)), .int (p2 >>> (((Int8.ofInt 10).toInt32) &&& 31)), .int p1, .ref 117]) aj_d296 rfl (Nat.le_succ _) (fun _ => rfl) ?_
  refine fx_cv aj_d296 rfl (Nat.le_succ _) rfl [_, _, _, _, _] rfl rfl (gx_267_ok p1 (p2 >>> (((Int8.ofInt 10).toInt32) &&& 31)) (p3 >>> (((Int8.ofInt 10).toInt32) &&& 31)) (p2 &&& ((Int16.ofInt 1023).toInt32)) (p3 &&& ((Int16.ofInt 1023).toInt32))) ?_
  rintro _ X2 ⟨w3, rfl, hR2⟩ hok2 hle2
  refine fx_qc hR2 ?_
  show fx_W _ _ _ 23 lv1 [.int w3] _ _
  exact fx_ri aj_d296 rfl ⟨_, rfl, 0, rfl, rfl⟩
def gxT_295_12 (p1 : Int32) (p2 : Int32) (p3 : Int32) (P : Nat → List Int32 → List Int64 → List Nat → fx_X → Unit → fx_X → Prop) (y4 : Int32) (y5 : Int32) (X : fx_X) (v : Unit) (X' : fx_X) : Prop :=
  (if ((((Int32.ofInt 2) * y4) + (Int32.ofInt 1))).toInt < (p3).toInt then (∃ x11 : Int32, x11 = (((Int32.ofInt 2) * y4) + (Int32.ofInt 1)) ∧ (if ((x11 + (Int32.ofInt 1))).toInt < (p3).toInt then ((0 ≤ ((x11 + (Int32.ofInt 1))).toInt ∧ ((x11 + (Int32.ofInt 1))).toInt < ((30720 : Nat) : Int)) ∧ (0 ≤ (x11).toInt ∧ (x11).toInt < ((30720 : Nat) : Int)) ∧ ∃ (w33 : Int32) (X32 : fx_X), gx_296 p1 (X.1 148 ((x11 + (Int32.ofInt 1))).toInt.toNat) (X.1 148 (x11).toInt.toNat) X w33 X32 ∧ (if 0 < (w33).toInt then (∃ x49 : Int32, x49 = x11 + Int32.ofInt 1 ∧ (0 ≤ (x49).toInt ∧ (x49).toInt < ((30720 : Nat) : Int)) ∧ ∃ (w54 : Int32) (X53 : fx_X), gx_296 p1 (X32.1 148 (x49).toInt.toNat) y5 X32 w54 X53 ∧ (if 0 < (w54).toInt then ((0 ≤ (x49).toInt ∧ (x49).toInt < ((30720 : Nat) : Int)) ∧ (0 ≤ (y4).toInt ∧ (y4).toInt < ((30720 : Nat) : Int)) ∧ ∃ X60 : fx_X, X60 = (fx_wI X53 148 (y4).toInt.toNat (X53.1 148 (x49).toInt.toNat)) ∧ P 12 [x49, y5] [] [] X60 v X') else ((0 ≤ (y4).toInt ∧ (y4).toInt < ((30720 : Nat) : Int)) ∧ ∃ X64 : fx_X, X64 = (fx_wI X53 148 (y4).toInt.toNat y5) ∧ X' = X64))) else ((0 ≤ (x11).toInt ∧ (x11).toInt < ((30720 : Nat) : Int)) ∧ ∃ (w38 : Int32) (X37 : fx_X), gx_296 p1 (X32.1 148 (x11).toInt.toNat) y5 X32 w38 X37 ∧ (if 0 < (w38).toInt then ((0 ≤ (x11).toInt ∧ (x11).toInt < ((30720 : Nat) : Int)) ∧ (0 ≤ (y4).toInt ∧ (y4).toInt < ((30720 : Nat) : Int)) ∧ ∃ X44 : fx_X, X44 = (fx_wI X37 148 (y4).toInt.toNat (X37.1 148 (x11).toInt.toNat)) ∧ P 12 [x11, y5] [] [] X44 v X') else ((0 ≤ (y4).toInt ∧ (y4).toInt < ((30720 : Nat) : Int)) ∧ ∃ X48 : fx_X, X48 = (fx_wI X37 148 (y4).toInt.toNat y5) ∧ X' = X48))))) else ((0 ≤ (x11).toInt ∧ (x11).toInt < ((30720 : Nat) : Int)) ∧ ∃ (w17 : Int32) (X16 : fx_X), gx_296 p1 (X.1 148 (x11).toInt.toNat) y5 X w17 X16 ∧ (if 0 < (w17).toInt then ((0 ≤ (x11).toInt ∧ (x11).toInt < ((30720 : Nat) : Int)) ∧ (0 ≤ (y4).toInt ∧ (y4).toInt < ((30720 : Nat) : Int)) ∧ ∃ X23 : fx_X, X23 = (fx_wI X16 148 (y4).toInt.toNat (X16.1 148 (x11).toInt.toNat)) ∧ P 12 [x11, y5] [] [] X23 v X') else ((0 ≤ (y4).toInt ∧ (y4).toInt < ((30720 : Nat) : Int)) ∧ ∃ X27 : fx_X, X27 = (fx_wI X16 148 (y4).toInt.toNat y5) ∧ X' = X27))))) else ((0 ≤ (y4).toInt ∧ (y4).toInt < ((30720 : Nat) : Int)) ∧ ∃ X10 : fx_X, X10 = (fx_wI X 148 (y4).toInt.toNat y5) ∧ X' = X10))
def gxE_295 (p1 : Int32) (p2 : Int32) (p3 : Int32) (P : Nat → List Int32 → List Int64 → List Nat → fx_X → Unit → fx_X → Prop) (X : fx_X) (v : Unit) (X' : fx_X) : Prop :=
  (0 ≤ (p2).toInt ∧ (p2).toInt < ((30720 : Nat) : Int)) ∧ ∃ x5 : Int32, x5 = (X.1 148 (p2).toInt.toNat) ∧ P 12 [p2, x5] [] [] X v X'
noncomputable def gxF_295 (p1 : Int32) (p2 : Int32) (p3 : Int32) (n : Nat) : Nat → List Int32 → List Int64 → List Nat → fx_X → Unit → fx_X → Prop := Nat.rec (motive := fun _ => Nat → List Int32 → List Int64 → List Nat → fx_X → Unit → fx_X → Prop) (fun _ _ _ _ _ _ _ => False) (fun _ P l is ls rs X v X' => (l = 12 ∧ ∃ (y4 : Int32) (y5 : Int32), is = [y4, y5] ∧ ls = [] ∧ rs = [] ∧ gxT_295_12 p1 p2 p3 P y4 y5 X v X')) n
theorem gxI_295_12 {p1 : Int32} {p2 : Int32} {p3 : Int32} {n : Nat} {y4 : Int32} {y5 : Int32} {X : fx_X} {v : Unit} {X' : fx_X} (h : gxT_295_12 p1 p2 p3 (gxF_295 p1 p2 p3 n) y4 y5 X v X') : gxF_295 p1 p2 p3 (n + 1) 12 [y4, y5] [] [] X v X' := ⟨rfl, y4, y5, rfl, rfl, rfl, h⟩
theorem gxO_295_12 {p1 : Int32} {p2 : Int32} {p3 : Int32} {n : Nat} {y4 : Int32} {y5 : Int32} {X : fx_X} {v : Unit} {X' : fx_X} (h : gxF_295 p1 p2 p3 (n + 1) 12 [y4, y5] [] [] X v X') : gxT_295_12 p1 p2 p3 (gxF_295 p1 p2 p3 n) y4 y5 X v X' := by
  rcases h with ⟨-, _, _, e1, e2, e3, h⟩
  · cases e1; cases e2; cases e3; exact h
def gx_295 (p1 : Int32) (p2 : Int32) (p3 : Int32) (X : fx_X) (v : Unit) (X' : fx_X) : Prop := ∃ n : Nat, gxE_295 p1 p2 p3 (gxF_295 p1 p2 p3 n) X v X'
theorem gxL_295 {tb : aj_T} (p1 : Int32) (p2 : Int32) (p3 : Int32) : ∀ N : Nat, (∀ (lv : aj_V) (y4 : Int32) (y5 : Int32) (X : fx_X), aj_lv lv 0 = some (.ref 117) → aj_lv lv 1 = some (.int p1) → aj_lv lv 3 = some (.int p3) → aj_lv lv 4 = some (.int y4) → aj_lv lv 5 = some (.int y5) → fx_W tb aj_m295 N 12 lv [] X (fx_Q fx_qN (fun v X' => ∃ n : Nat, gxF_295 p1 p2 p3 n 12 [y4, y5] [] [] X v X'))) := by
  intro N
  induction N with
  | zero => exact (by intros; exact fx_z)
  | succ N ih =>
    skip
    · intro lv y4 y5 X hlv_0 hlv_1 hlv_3 hlv_4 hlv_5
      refine fx_mono (Q := fx_Q fx_qN (fun v X' => ∃ n : Nat, gxT_295_12 p1 p2 p3 (gxF_295 p1 p2 p3 n) y4 y5 X v X')) (fun r X' ⟨v, e, n, z⟩ => ⟨v, e, n + 1, gxI_295_12 z⟩) ?_
      unfold gxT_295_12
      refine fx_n (pc' := 13) (lv' := lv) (st' := [.int (Int32.ofInt 2)]) aj_d295 rfl (Nat.le_refl _) (fun _ => rfl) ?_
      refine fx_i0 aj_d295 rfl (Nat.le_succ _) (fun _ => rfl) hlv_4 ?_
      refine fx_n (pc' := 16) (lv' := lv) (st' := [.int ((Int32.ofInt 2) * y4)]) aj_d295 rfl (Nat.le_succ _) (fun _ => rfl) ?_
      refine fx_n (pc' := 17) (lv' := lv) (st' := [.int (Int32.ofInt 1), .int ((Int32.ofInt 2) * y4)]) aj_d295 rfl (Nat.le_succ _) (fun _ => rfl) ?_
      refine fx_n (pc' := 18) (lv' := lv) (st' := [.int (((Int32.ofInt 2) * y4) + (Int32.ofInt 1))]) aj_d295 rfl (Nat.le_succ _) (fun _ => rfl) ?_
      refine fx_i0 aj_d295 rfl (Nat.le_succ _) (fun _ => rfl) hlv_3 ?_
      refine fx_b (tgt := 106) aj_d295 rfl (Nat.le_succ _) rfl (fun q7 => ?_) (fun q7 => ?_)
      · skip
        refine fx_qe (c := ((((Int32.ofInt 2) * y4) + (Int32.ofInt 1))).toInt < (p3).toInt) (fx_t_ge q7) ?_
        show fx_W _ _ _ 106 lv [] _ _
        refine fx_i2 aj_d295 rfl (Nat.le_succ _) (fun _ => rfl) hlv_0 ?_
        refine fx_gF aj_d295 rfl (Nat.le_succ _) rfl rfl fx_in_11_66 (t := 148) rfl (fun hA8 => ?_)
        refine fx_i0 aj_d295 rfl (Nat.le_succ _) (fun _ => rfl) hlv_4 ?_
        refine fx_i0 aj_d295 rfl (Nat.le_succ _) (fun _ => rfl) hlv_5 ?_
        refine fx_st aj_d295 (Or.inl ⟨rfl, rfl⟩) rfl (Nat.le_succ _) (fun g90 g91 => ?_)
        show fx_W _ _ _ _ _ _ (fx_wI X 148 (y4).toInt.toNat y5) _
        refine fx_qa (c := 0 ≤ (y4).toInt ∧ (y4).toInt < ((30720 : Nat) : Int)) ⟨g90, fx_lnk g91 hA8⟩ ?_
        refine fx_qX (fun X10 eX10 => ?_)
        show fx_W _ _ _ 115 lv [] _ _
        exact fx_rn aj_d295 rfl ⟨(), rfl, 0, rfl⟩
      · skip
        refine fx_qi (c := ((((Int32.ofInt 2) * y4) + (Int32.ofInt 1))).toInt < (p3).toInt) (fx_f_ge q7) ?_
        show fx_W _ _ _ 22 lv [] _ _
        refine fx_n (pc' := 23) (lv' := lv) (st' := [.int (Int32.ofInt 2)]) aj_d295 rfl (Nat.le_succ _) (fun _ => rfl) ?_
        refine fx_i0 aj_d295 rfl (Nat.le_succ _) (fun _ => rfl) hlv_4 ?_
        refine fx_n (pc' := 26) (lv' := lv) (st' := [.int ((Int32.ofInt 2) * y4)]) aj_d295 rfl (Nat.le_succ _) (fun _ => rfl) ?_
        refine fx_n (pc' := 27) (lv' := lv) (st' := [.int (Int32.ofInt 1), .int ((Int32.ofInt 2) * y4)]) aj_d295 rfl (Nat.le_succ _) (fun _ => rfl) ?_
        refine fx_n (pc' := 28) (lv' := lv) (st' := [.int (((Int32.ofInt 2) * y4) + (Int32.ofInt 1))]) aj_d295 rfl (Nat.le_succ _) (fun _ => rfl) ?_
        refine fx_qxI (fun x11 ex11 => ?_)
        refine fx_s0 (j := 6) aj_d295 rfl (Nat.le_succ _) (by decide) (fun _ => rfl) ?_
        obtain ⟨lv12, elv12⟩ : ∃ l, l = aj_set1 lv 6 (.int x11) := ⟨_, rfl⟩
        rw [← elv12]
        have hlv12_0 : aj_lv lv12 0 = some (.ref 117) := fx_e1 elv12 hlv_0 (by decide) (Or.inl (by decide))
        have hlv12_1 : aj_lv lv12 1 = some (.int p1) := fx_e1 elv12 hlv_1 (by decide) (Or.inl (by decide))
        have hlv12_3 : aj_lv lv12 3 = some (.int p3) := fx_e1 elv12 hlv_3 (by decide) (Or.inl (by decide))
        have hlv12_4 : aj_lv lv12 4 = some (.int y4) := fx_e1 elv12 hlv_4 (by decide) (Or.inl (by decide))
        have hlv12_5 : aj_lv lv12 5 = some (.int y5) := fx_e1 elv12 hlv_5 (by decide) (Or.inr rfl)
        have hlv12_6 : aj_lv lv12 6 = some (.int x11) := by rw [elv12]; exact ak_set1_eq _ _ _
        show fx_W _ _ _ 30 lv12 [] _ _
        refine fx_i0 aj_d295 rfl (Nat.le_succ _) (fun _ => rfl) hlv12_6 ?_
        refine fx_n (pc' := 33) (lv' := lv12) (st' := [.int (Int32.ofInt 1), .int x11]) aj_d295 rfl (Nat.le_succ _) (fun _ => rfl) ?_
        refine fx_n (pc' := 34) (lv' := lv12) (st' := [.int (x11 + (Int32.ofInt 1))]) aj_d295 rfl (Nat.le_succ _) (fun _ => rfl) ?_
        refine fx_i0 aj_d295 rfl (Nat.le_succ _) (fun _ => rfl) hlv12_3 ?_
        refine fx_b (tgt := 65) aj_d295 rfl (Nat.le_succ _) rfl (fun q13 => ?_) (fun q13 => ?_)
        · skip
          refine fx_qe (c := ((x11 + (Int32.ofInt 1))).toInt < (p3).toInt) (fx_t_ge q13) ?_
          show fx_W _ _ _ 65 lv12 [] _ _
          refine fx_i2 aj_d295 rfl (Nat.le_succ _) (fun _ => rfl) hlv12_0 ?_
          refine fx_i0 aj_d295 rfl (Nat.le_succ _) (fun _ => rfl) hlv12_1 ?_
          refine fx_i2 aj_d295 rfl (Nat.le_succ _) (fun _ => rfl) hlv12_0 ?_
          refine fx_gF aj_d295 rfl (Nat.le_succ _) rfl rfl fx_in_11_66 (t := 148) rfl (fun hA14 => ?_)
          refine fx_i0 aj_d295 rfl (Nat.le_succ _) (fun _ => rfl) hlv12_6 ?_
          refine fx_ld aj_d295 (Or.inl rfl) rfl (Nat.le_succ _) (fun g150 g151 => ?_)
          show fx_W _ _ _ 74 lv12 [.int (X.1 148 (x11).toInt.toNat), .int p1, .ref 117] _ _
          refine fx_qa (c := 0 ≤ (x11).toInt ∧ (x11).toInt < ((30720 : Nat) : Int)) ⟨g150, fx_lnk g151 hA14⟩ ?_
          refine fx_i0 aj_d295 rfl (Nat.le_succ _) (fun _ => rfl) hlv12_5 ?_
          refine fx_cv aj_d295 rfl (Nat.le_succ _) rfl [_, _, _] rfl rfl (gx_296_ok p1 (X.1 148 (x11).toInt.toNat) y5) ?_
          rintro _ X16 ⟨w17, rfl, hR16⟩ hok16 hle16
          refine fx_qc hR16 ?_
          show fx_W _ _ _ 79 lv12 [.int w17] _ _
          refine fx_b0 (tgt := 85) aj_d295 rfl (Nat.le_succ _) rfl (fun q18 => ?_) (fun q18 => ?_)
          · skip
            refine fx_qi (c := 0 < (w17).toInt) (fx_t_gt q18) ?_
            show fx_W _ _ _ 85 lv12 [] _ _
            refine fx_i2 aj_d295 rfl (Nat.le_succ _) (fun _ => rfl) hlv12_0 ?_
            refine fx_gF aj_d295 rfl (Nat.le_succ _) rfl rfl fx_in_11_66 (t := 148) rfl (fun hA19 => ?_)
            refine fx_i0 aj_d295 rfl (Nat.le_succ _) (fun _ => rfl) hlv12_4 ?_
            refine fx_i2 aj_d295 rfl (Nat.le_succ _) (fun _ => rfl) hlv12_0 ?_
            refine fx_gF aj_d295 rfl (Nat.le_succ _) rfl rfl fx_in_11_66 (t := 148) rfl (fun hA20 => ?_)
            refine fx_i0 aj_d295 rfl (Nat.le_succ _) (fun _ => rfl) hlv12_6 ?_
            refine fx_ld aj_d295 (Or.inl rfl) rfl (Nat.le_succ _) (fun g210 g211 => ?_)
            show fx_W _ _ _ 98 lv12 [.int (X16.1 148 (x11).toInt.toNat), .int y4, .ref 148] _ _
            refine fx_qa (c := 0 ≤ (x11).toInt ∧ (x11).toInt < ((30720 : Nat) : Int)) ⟨g210, fx_lnk g211 hA20⟩ ?_
            refine fx_st aj_d295 (Or.inl ⟨rfl, rfl⟩) rfl (Nat.le_succ _) (fun g220 g221 => ?_)
            show fx_W _ _ _ _ _ _ (fx_wI X16 148 (y4).toInt.toNat (X16.1 148 (x11).toInt.toNat)) _
            refine fx_qa (c := 0 ≤ (y4).toInt ∧ (y4).toInt < ((30720 : Nat) : Int)) ⟨g220, fx_lnk g221 hA19⟩ ?_
            refine fx_qX (fun X23 eX23 => ?_)
            show fx_W _ _ _ 99 lv12 [] _ _
            refine fx_i0 aj_d295 rfl (Nat.le_succ _) (fun _ => rfl) hlv12_6 ?_
            refine fx_s0 (j := 4) aj_d295 rfl (Nat.le_succ _) (by decide) (fun _ => rfl) ?_
            obtain ⟨lv24, elv24⟩ : ∃ l, l = aj_set1 lv12 4 (.int x11) := ⟨_, rfl⟩
            rw [← elv24]
            have hlv24_0 : aj_lv lv24 0 = some (.ref 117) := fx_e1 elv24 hlv12_0 (by decide) (Or.inl (by decide))
            have hlv24_1 : aj_lv lv24 1 = some (.int p1) := fx_e1 elv24 hlv12_1 (by decide) (Or.inl (by decide))
            have hlv24_3 : aj_lv lv24 3 = some (.int p3) := fx_e1 elv24 hlv12_3 (by decide) (Or.inr rfl)
            have hlv24_5 : aj_lv lv24 5 = some (.int y5) := fx_e1 elv24 hlv12_5 (by decide) (Or.inl (by decide))
            have hlv24_4 : aj_lv lv24 4 = some (.int x11) := by rw [elv24]; exact ak_set1_eq _ _ _
            show fx_W _ _ _ 103 lv24 [] _ _
            refine fx_n (pc' := 12) (lv' := lv24) (st' := []) aj_d295 rfl (Nat.le_succ _) (fun _ => rfl) ?_
            exact (ih) lv24 (x11) (y5) X23  hlv24_0 hlv24_1 hlv24_3 hlv24_4 hlv24_5
          · skip
            refine fx_qe (c := 0 < (w17).toInt) (fx_f_gt q18) ?_
            show fx_W _ _ _ 82 lv12 [] _ _
            refine fx_n (pc' := 106) (lv' := lv12) (st' := []) aj_d295 rfl (Nat.le_succ _) (fun _ => rfl) ?_
            refine fx_i2 aj_d295 rfl (Nat.le_succ _) (fun _ => rfl) hlv12_0 ?_
            refine fx_gF aj_d295 rfl (Nat.le_succ _) rfl rfl fx_in_11_66 (t := 148) rfl (fun hA25 => ?_)
            refine fx_i0 aj_d295 rfl (Nat.le_succ _) (fun _ => rfl) hlv12_4 ?_
            refine fx_i0 aj_d295 rfl (Nat.le_succ _) (fun _ => rfl) hlv12_5 ?_
            refine fx_st aj_d295 (Or.inl ⟨rfl, rfl⟩) rfl (Nat.le_succ _) (fun g260 g261 => ?_)
            show fx_W _ _ _ _ _ _ (fx_wI X16 148 (y4).toInt.toNat y5) _
            refine fx_qa (c := 0 ≤ (y4).toInt ∧ (y4).toInt < ((30720 : Nat) : Int)) ⟨g260, fx_lnk g261 hA25⟩ ?_
            refine fx_qX (fun X27 eX27 => ?_)
            show fx_W _ _ _ 115 lv12 [] _ _
            exact fx_rn aj_d295 rfl ⟨(), rfl, 0, rfl⟩
        · skip
          refine fx_qi (c := ((x11 + (Int32.ofInt 1))).toInt < (p3).toInt) (fx_f_ge q13) ?_
          show fx_W _ _ _ 38 lv12 [] _ _
          refine fx_i2 aj_d295 rfl (Nat.le_succ _) (fun _ => rfl) hlv12_0 ?_
          refine fx_i0 aj_d295 rfl (Nat.le_succ _) (fun _ => rfl) hlv12_1 ?_
          refine fx_i2 aj_d295 rfl (Nat.le_succ _) (fun _ => rfl) hlv12_0 ?_
          refine fx_gF aj_d295 rfl (Nat.le_succ _) rfl rfl fx_in_11_66 (t := 148) rfl (fun hA28 => ?_)
          refine fx_i0 aj_d295 rfl (Nat.le_succ _) (fun _ => rfl) hlv12_6 ?_
          refine fx_n (pc' := 47) (lv' := lv12) (st' := [.int (Int32.ofInt 1), .int x11, .ref 148, .int p1, .ref 117]) aj_d295 rfl (Nat.le_succ _) (fun _ => rfl) ?_
          refine fx_n (pc' := 48) (lv' := lv12) (st' := [.int (x11 + (Int32.ofInt 1)), .ref 148, .int p1, .ref 117]) aj_d295 rfl (Nat.le_succ _) (fun _ => rfl) ?_
          refine fx_ld aj_d295 (Or.inl rfl) rfl (Nat.le_succ _) (fun g290 g291 => ?_)
          show fx_W _ _ _ 49 lv12 [.int (X.1 148 ((x11 + (Int32.ofInt 1))).toInt.toNat), .int p1, .ref 117] _ _
          refine fx_qa (c := 0 ≤ ((x11 + (Int32.ofInt 1))).toInt ∧ ((x11 + (Int32.ofInt 1))).toInt < ((30720 : Nat) : Int)) ⟨g290, fx_lnk g291 hA28⟩ ?_
          refine fx_i2 aj_d295 rfl (Nat.le_succ _) (fun _ => rfl) hlv12_0 ?_
          refine fx_gF aj_d295 rfl (Nat.le_succ _) rfl rfl fx_in_11_66 (t := 148) rfl (fun hA30 => ?_)
          refine fx_i0 aj_d295 rfl (Nat.le_succ _) (fun _ => rfl) hlv12_6 ?_
          refine fx_ld aj_d295 (Or.inl rfl) rfl (Nat.le_succ _) (fun g310 g311 => ?_)
          show fx_W _ _ _ 56 lv12 [.int (X.1 148 (x11).toInt.toNat), .int (X.1 148 ((x11 + (Int32.ofInt 1))).toInt.toNat), .int p1, .ref 117] _ _
          refine fx_qa (c := 0 ≤ (x11).toInt ∧ (x11).toInt < ((30720 : Nat) : Int)) ⟨g310, fx_lnk g311 hA30⟩ ?_
          refine fx_cv aj_d295 rfl (Nat.le_succ _) rfl [_, _, _] rfl rfl (gx_296_ok p1 (X.1 148 ((x11 + (Int32.ofInt 1))).toInt.toNat) (X.1 148 (x11).toInt.toNat)) ?_
          rintro _ X32 ⟨w33, rfl, hR32⟩ hok32 hle32
          refine fx_qc hR32 ?_
          show fx_W _ _ _ 59 lv12 [.int w33] _ _
          refine fx_b0 (tgt := 65) aj_d295 rfl (Nat.le_succ _) rfl (fun q34 => ?_) (fun q34 => ?_)
          · skip
            refine fx_qe (c := 0 < (w33).toInt) (fx_t_le q34) ?_
            show fx_W _ _ _ 65 lv12 [] _ _
            refine fx_i2 aj_d295 rfl (Nat.le_succ _) (fun _ => rfl) hlv12_0 ?_
            refine fx_i0 aj_d295 rfl (Nat.le_succ _) (fun _ => rfl) hlv12_1 ?_
            refine fx_i2 aj_d295 rfl (Nat.le_succ _) (fun _ => rfl) hlv12_0 ?_
            refine fx_gF aj_d295 rfl (Nat.le_succ _) rfl rfl fx_in_11_66 (t := 148) rfl (fun hA35 => ?_)
            refine fx_i0 aj_d295 rfl (Nat.le_succ _) (fun _ => rfl) hlv12_6 ?_
            refine fx_ld aj_d295 (Or.inl rfl) rfl (Nat.le_succ _) (fun g360 g361 => ?_)
            show fx_W _ _ _ 74 lv12 [.int (X32.1 148 (x11).toInt.toNat), .int p1, .ref 117] _ _
            refine fx_qa (c := 0 ≤ (x11).toInt ∧ (x11).toInt < ((30720 : Nat) : Int)) ⟨g360, fx_lnk g361 hA35⟩ ?_
            refine fx_i0 aj_d295 rfl (Nat.le_succ _) (fun _ => rfl) hlv12_5 ?_
            refine fx_cv aj_d295 rfl (Nat.le_succ _) rfl [_, _, _] rfl rfl (gx_296_ok p1 (X32.1 148 (x11).toInt.toNat) y5) ?_
            rintro _ X37 ⟨w38, rfl, hR37⟩ hok37 hle37
            refine fx_qc hR37 ?_
            show fx_W _ _ _ 79 lv12 [.int w38] _ _
            refine fx_b0 (tgt := 85) aj_d295 rfl (Nat.le_succ _) rfl (fun q39 => ?_) (fun q39 => ?_)
            · skip
              refine fx_qi (c := 0 < (w38).toInt) (fx_t_gt q39) ?_
              show fx_W _ _ _ 85 lv12 [] _ _
              refine fx_i2 aj_d295 rfl (Nat.le_succ _) (fun _ => rfl) hlv12_0 ?_
              refine fx_gF aj_d295 rfl (Nat.le_succ _) rfl rfl fx_in_11_66 (t := 148) rfl (fun hA40 => ?_)
              refine fx_i0 aj_d295 rfl (Nat.le_succ _) (fun _ => rfl) hlv12_4 ?_
              refine fx_i2 aj_d295 rfl (Nat.le_succ _) (fun _ => rfl) hlv12_0 ?_
              refine fx_gF aj_d295 rfl (Nat.le_succ _) rfl rfl fx_in_11_66 (t := 148) rfl (fun hA41 => ?_)
              refine fx_i0 aj_d295 rfl (Nat.le_succ _) (fun _ => rfl) hlv12_6 ?_
              refine fx_ld aj_d295 (Or.inl rfl) rfl (Nat.le_succ _) (fun g420 g421 => ?_)
              show fx_W _ _ _ 98 lv12 [.int (X37.1 148 (x11).toInt.toNat), .int y4, .ref 148] _ _
              refine fx_qa (c := 0 ≤ (x11).toInt ∧ (x11).toInt < ((30720 : Nat) : Int)) ⟨g420, fx_lnk g421 hA41⟩ ?_
              refine fx_st aj_d295 (Or.inl ⟨rfl, rfl⟩) rfl (Nat.le_succ _) (fun g430 g431 => ?_)
              show fx_W _ _ _ _ _ _ (fx_wI X37 148 (y4).toInt.toNat (X37.1 148 (x11).toInt.toNat)) _
              refine fx_qa (c := 0 ≤ (y4).toInt ∧ (y4).toInt < ((30720 : Nat) : Int)) ⟨g430, fx_lnk g431 hA40⟩ ?_
              refine fx_qX (fun X44 eX44 => ?_)
              show fx_W _ _ _ 99 lv12 [] _ _
              refine fx_i0 aj_d295 rfl (Nat.le_succ _) (fun _ => rfl) hlv12_6 ?_
              refine fx_s0 (j := 4) aj_d295 rfl (Nat.le_succ _) (by decide) (fun _ => rfl) ?_
              obtain ⟨lv45, elv45⟩ : ∃ l, l = aj_set1 lv12 4 (.int x11) := ⟨_, rfl⟩
              rw [← elv45]
              have hlv45_0 : aj_lv lv45 0 = some (.ref 117) := fx_e1 elv45 hlv12_0 (by decide) (Or.inl (by decide))
              have hlv45_1 : aj_lv lv45 1 = some (.int p1) := fx_e1 elv45 hlv12_1 (by decide) (Or.inl (by decide))
              have hlv45_3 : aj_lv lv45 3 = some (.int p3) := fx_e1 elv45 hlv12_3 (by decide) (Or.inr rfl)
              have hlv45_5 : aj_lv lv45 5 = some (.int y5) := fx_e1 elv45 hlv12_5 (by decide) (Or.inl (by decide))
              have hlv45_4 : aj_lv lv45 4 = some (.int x11) := by rw [elv45]; exact ak_set1_eq _ _ _
              show fx_W _ _ _ 103 lv45 [] _ _
              refine fx_n (pc' := 12) (lv' := lv45) (st' := []) aj_d295 rfl (Nat.le_succ _) (fun _ => rfl) ?_
              exact (ih) lv45 (x11) (y5) X44  hlv45_0 hlv45_1 hlv45_3 hlv45_4 hlv45_5
            · skip
              refine fx_qe (c := 0 < (w38).toInt) (fx_f_gt q39) ?_
              show fx_W _ _ _ 82 lv12 [] _ _
              refine fx_n (pc' := 106) (lv' := lv12) (st' := []) aj_d295 rfl (Nat.le_succ _) (fun _ => rfl) ?_
              refine fx_i2 aj_d295 rfl (Nat.le_succ _) (fun _ => rfl) hlv12_0 ?_
              refine fx_gF aj_d295 rfl (Nat.le_succ _) rfl rfl fx_in_11_66 (t := 148) rfl (fun hA46 => ?_)
              refine fx_i0 aj_d295 rfl (Nat.le_succ _) (fun _ => rfl) hlv12_4 ?_
              refine fx_i0 aj_d295 rfl (Nat.le_succ _) (fun _ => rfl) hlv12_5 ?_
              refine fx_st aj_d295 (Or.inl ⟨rfl, rfl⟩) rfl (Nat.le_succ _) (fun g470 g471 => ?_)
              show fx_W _ _ _ _ _ _ (fx_wI X37 148 (y4).toInt.toNat y5) _
              refine fx_qa (c := 0 ≤ (y4).toInt ∧ (y4).toInt < ((30720 : Nat) : Int)) ⟨g470, fx_lnk g471 hA46⟩ ?_
              refine fx_qX (fun X48 eX48 => ?_)
              show fx_W _ _ _ 115 lv12 [] _ _
              exact fx_rn aj_d295 rfl ⟨(), rfl, 0, rfl⟩
          · skip
            refine fx_qi (c := 0 < (w33).toInt) (fx_f_le q34) ?_
            show fx_W _ _ _ 62 lv12 [] _ _
            refine fx_incq aj_d295 rfl (Nat.le_succ _) hlv12_6 (by decide) (fun x49 ex49 => ?_)
            obtain ⟨lv50, elv50⟩ : ∃ l, l = aj_set1 lv12 6 (.int x49) := ⟨_, rfl⟩
            rw [← elv50]
            have hlv50_0 : aj_lv lv50 0 = some (.ref 117) := fx_e1 elv50 hlv12_0 (by decide) (Or.inl (by decide))
            have hlv50_1 : aj_lv lv50 1 = some (.int p1) := fx_e1 elv50 hlv12_1 (by decide) (Or.inl (by decide))
            have hlv50_3 : aj_lv lv50 3 = some (.int p3) := fx_e1 elv50 hlv12_3 (by decide) (Or.inl (by decide))
            have hlv50_4 : aj_lv lv50 4 = some (.int y4) := fx_e1 elv50 hlv12_4 (by decide) (Or.inl (by decide))
            have hlv50_5 : aj_lv lv50 5 = some (.int y5) := fx_e1 elv50 hlv12_5 (by decide) (Or.inr rfl)
            have hlv50_6 : aj_lv lv50 6 = some (.int x49) := by rw [elv50]; exact ak_set1_eq _ _ _
            show fx_W _ _ _ 65 lv50 [] _ _
            refine fx_i2 aj_d295 rfl (Nat.le_succ _) (fun _ => rfl) hlv50_0 ?_
            refine fx_i0 aj_d295 rfl (Nat.le_succ _) (fun _ => rfl) hlv50_1 ?_
            refine fx_i2 aj_d295 rfl (Nat.le_succ _) (fun _ => rfl) hlv50_0 ?_
            refine fx_gF aj_d295 rfl (Nat.le_succ _) rfl rfl fx_in_11_66 (t := 148) rfl (fun hA51 => ?_)
            refine fx_i0 aj_d295 rfl (Nat.le_succ _) (fun _ => rfl) hlv50_6 ?_
            refine fx_ld aj_d295 (Or.inl rfl) rfl (Nat.le_succ _) (fun g520 g521 => ?_)
            show fx_W _ _ _ 74 lv50 [.int (X32.1 148 (x49).toInt.toNat), .int p1, .ref 117] _ _
            refine fx_qa (c := 0 ≤ (x49).toInt ∧ (x49).toInt < ((30720 : Nat) : Int)) ⟨g520, fx_lnk g521 hA51⟩ ?_
            refine fx_i0 aj_d295 rfl (Nat.le_succ _) (fun _ => rfl) hlv50_5 ?_
            refine fx_cv aj_d295 rfl (Nat.le_succ _) rfl [_, _, _] rfl rfl (gx_296_ok p1 (X32.1 148 (x49).toInt.toNat) y5) ?_
            rintro _ X53 ⟨w54, rfl, hR53⟩ hok53 hle53
            refine fx_qc hR53 ?_
            show fx_W _ _ _ 79 lv50 [.int w54] _ _
            refine fx_b0 (tgt := 85) aj_d295 rfl (Nat.le_succ _) rfl (fun q55 => ?_) (fun q55 => ?_)
            · skip
              refine fx_qi (c := 0 < (w54).toInt) (fx_t_gt q55) ?_
              show fx_W _ _ _ 85 lv50 [] _ _
              refine fx_i2 aj_d295 rfl (Nat.le_succ _) (fun _ => rfl) hlv50_0 ?_
              refine fx_gF aj_d295 rfl (Nat.le_succ _) rfl rfl fx_in_11_66 (t := 148) rfl (fun hA56 => ?_)
              refine fx_i0 aj_d295 rfl (Nat.le_succ _) (fun _ => rfl) hlv50_4 ?_
              refine fx_i2 aj_d295 rfl (Nat.le_succ _) (fun _ => rfl) hlv50_0 ?_
              refine fx_gF aj_d295 rfl (Nat.le_succ _) rfl rfl fx_in_11_66 (t := 148) rfl (fun hA57 => ?_)
              refine fx_i0 aj_d295 rfl (Nat.le_succ _) (fun _ => rfl) hlv50_6 ?_
              refine fx_ld aj_d295 (Or.inl rfl) rfl (Nat.le_succ _) (fun g580 g581 => ?_)
              show fx_W _ _ _ 98 lv50 [.int (X53.1 148 (x49).toInt.toNat), .int y4, .ref 148] _ _
              refine fx_qa (c := 0 ≤ (x49).toInt ∧ (x49).toInt < ((30720 : Nat) : Int)) ⟨g580, fx_lnk g581 hA57⟩ ?_
              refine fx_st aj_d295 (Or.inl ⟨rfl, rfl⟩) rfl (Nat.le_succ _) (fun g590 g591 => ?_)
              show fx_W _ _ _ _ _ _ (fx_wI X53 148 (y4).toInt.toNat (X53.1 148 (x49).toInt.toNat)) _
              refine fx_qa (c := 0 ≤ (y4).toInt ∧ (y4).toInt < ((30720 : Nat) : Int)) ⟨g590, fx_lnk g591 hA56⟩ ?_
              refine fx_qX (fun X60 eX60 => ?_)
              show fx_W _ _ _ 99 lv50 [] _ _
              refine fx_i0 aj_d295 rfl (Nat.le_succ _) (fun _ => rfl) hlv50_6 ?_
              refine fx_s0 (j := 4) aj_d295 rfl (Nat.le_succ _) (by decide) (fun _ => rfl) ?_
              obtain ⟨lv61, elv61⟩ : ∃ l, l = aj_set1 lv50 4 (.int x49) := ⟨_, rfl⟩
              rw [← elv61]
              have hlv61_0 : aj_lv lv61 0 = some (.ref 117) := fx_e1 elv61 hlv50_0 (by decide) (Or.inl (by decide))
              have hlv61_1 : aj_lv lv61 1 = some (.int p1) := fx_e1 elv61 hlv50_1 (by decide) (Or.inl (by decide))
              have hlv61_3 : aj_lv lv61 3 = some (.int p3) := fx_e1 elv61 hlv50_3 (by decide) (Or.inr rfl)
              have hlv61_5 : aj_lv lv61 5 = some (.int y5) := fx_e1 elv61 hlv50_5 (by decide) (Or.inl (by decide))
              have hlv61_4 : aj_lv lv61 4 = some (.int x49) := by rw [elv61]; exact ak_set1_eq _ _ _
              show fx_W _ _ _ 103 lv61 [] _ _
              refine fx_n (pc' := 12) (lv' := lv61) (st' := []) aj_d295 rfl (Nat.le_succ _) (fun _ => rfl) ?_
              exact (ih) lv61 (x49) (y5) X60  hlv61_0 hlv61_1 hlv61_3 hlv61_4 hlv61_5
            · skip
              refine fx_qe (c := 0 < (w54).toInt) (fx_f_gt q55) ?_
              show fx_W _ _ _ 82 lv50 [] _ _
              refine fx_n (pc' := 106) (lv' := lv50) (st' := []) aj_d295 rfl (Nat.le_succ _) (fun _ => rfl) ?_
              refine fx_i2 aj_d295 rfl (Nat.le_succ _) (fun _ => rfl) hlv50_0 ?_
              refine fx_gF aj_d295 rfl (Nat.le_succ _) rfl rfl fx_in_11_66 (t := 148) rfl (fun hA62 => ?_)
              refine fx_i0 aj_d295 rfl (Nat.le_succ _) (fun _ => rfl) hlv50_4 ?_
              refine fx_i0 aj_d295 rfl (Nat.le_succ _) (fun _ => rfl) hlv50_5 ?_
              refine fx_st aj_d295 (Or.inl ⟨rfl, rfl⟩) rfl (Nat.le_succ _) (fun g630 g631 => ?_)
              show fx_W _ _ _ _ _ _ (fx_wI X53 148 (y4).toInt.toNat y5) _
              refine fx_qa (c := 0 ≤ (y4).toInt ∧ (y4).toInt < ((30720 : Nat) : Int)) ⟨g630, fx_lnk g631 hA62⟩ ?_
              refine fx_qX (fun X64 eX64 => ?_)
              show fx_W _ _ _ 115 lv50 [] _ _
              exact fx_rn aj_d295 rfl ⟨(), rfl, 0, rfl⟩
theorem gx_295_ok {tb : aj_T} (p1 : Int32) (p2 : Int32) (p3 : Int32) {X : fx_X} : fx_K tb 295 [.ref 117, .int p1, .int p2, .int p3] X (fx_Q fx_qN (fun v X' => gx_295 p1 p2 p3 X v X')) := by
  refine fx_m aj_m295_at rfl (fun N => ?_)
  refine fx_mono (Q := fx_Q fx_qN (fun v X' => ∃ n : Nat, gxE_295 p1 p2 p3 (gxF_295 p1 p2 p3 n) X v X')) (fun r X' h => h) ?_
  unfold gxE_295
  show fx_W _ _ _ 0 [(0, .ref 117), (1, .int p1), (2, .int p2), (3, .int p3)] [] _ _
  obtain ⟨lv1, elv1⟩ : ∃ l : aj_V, l = [(0, .ref 117), (1, .int p1), (2, .int p2), (3, .int p3)] := ⟨_, rfl⟩
  rw [← elv1]
  have hlv1_0 : aj_lv lv1 0 = some (.ref 117) := by rw [elv1]; rfl
  have hlv1_1 : aj_lv lv1 1 = some (.int p1) := by rw [elv1]; rfl
  have hlv1_2 : aj_lv lv1 2 = some (.int p2) := by rw [elv1]; rfl
  have hlv1_3 : aj_lv lv1 3 = some (.int p3) := by rw [elv1]; rfl
  refine fx_i0 aj_d295 rfl (Nat.le_succ _) (fun _ => rfl) hlv1_2 ?_
  refine fx_s0 (j := 4) aj_d295 rfl (Nat.le_succ _) (by decide) (fun _ => rfl) ?_
  obtain ⟨lv2, elv2⟩ : ∃ l, l = aj_set1 lv1 4 (.int p2) := ⟨_, rfl⟩
  rw [← elv2]
  have hlv2_0 : aj_lv lv2 0 = some (.ref 117) := fx_e1 elv2 hlv1_0 (by decide) (Or.inl (by decide))
  have hlv2_1 : aj_lv lv2 1 = some (.int p1) := fx_e1 elv2 hlv1_1 (by decide) (Or.inl (by decide))
  have hlv2_3 : aj_lv lv2 3 = some (.int p3) := fx_e1 elv2 hlv1_3 (by decide) (Or.inr rfl)
  have hlv2_4 : aj_lv lv2 4 = some (.int p2) := by rw [elv2]; exact ak_set1_eq _ _ _
  show fx_W _ _ _ 3 lv2 [] _ _
  refine fx_i2 aj_d295 rfl (Nat.le_succ _) (fun _ => rfl) hlv2_0 ?_
  refine fx_gF aj_d295 rfl (Nat.le_succ _) rfl rfl fx_in_11_66 (t := 148) rfl (fun hA3 => ?_)
  refine fx_i0 aj_d295 rfl (Nat.le_succ _) (fun _ => rfl) hlv2_4 ?_
  refine fx_ld aj_d295 (Or.inl rfl) rfl (Nat.le_succ _) (fun g40 g41 => ?_)
  show fx_W _ _ _ 10 lv2 [.int (X.1 148 (p2).toInt.toNat)] _ _
  refine fx_qa (c := 0 ≤ (p2).toInt ∧ (p2).toInt < ((30720 : Nat) : Int)) ⟨g40, fx_lnk g41 hA3⟩ ?_
  refine fx_qxI (fun x5 ex5 => ?_)
  refine fx_s0 (j := 5) aj_d295 rfl (Nat.le_succ _) (by decide) (fun _ => rfl) ?_
  obtain ⟨lv6, elv6⟩ : ∃ l, l = aj_set1 lv2 5 (.int x5) := ⟨_, rfl⟩
  rw [← elv6]
  have hlv6_0 : aj_lv lv6 0 = some (.ref 117) := fx_e1 elv6 hlv2_0 (by decide) (Or.inl (by decide))
  have hlv6_1 : aj_lv lv6 1 = some (.int p1) := fx_e1 elv6 hlv2_1 (by decide) (Or.inl (by decide))
  have hlv6_3 : aj_lv lv6 3 = some (.int p3) := fx_e1 elv6 hlv2_3 (by decide) (Or.inl (by decide))
  have hlv6_4 : aj_lv lv6 4 = some (.int p2) := fx_e1 elv6 hlv2_4 (by decide) (Or.inr rfl)
  have hlv6_5 : aj_lv lv6 5 = some (.int x5) := by rw [elv6]; exact ak_set1_eq _ _ _
  show fx_W _ _ _ 12 lv6 [] _ _
  exact ((gxL_295 p1 p2 p3 N)) lv6 (p2) (x5) X  hlv6_0 hlv6_1 hlv6_3 hlv6_4 hlv6_5
def gxT_294_49 (p1 : Int32) (P : Nat → List Int32 → List Int64 → List Nat → fx_X → Unit → fx_X → Prop) (y2 : Int32) (y3 : Int32) (y4 : Int32) (X : fx_X) (v : Unit) (X' : fx_X) : Prop :=
  (0 ≤ ((X.1 117 0)).toInt ∧ ((X.1 117 0)).toInt < ((2 : Nat) : Int)) ∧ (if (y4).toInt < ((X.1 122 ((X.1 117 0)).toInt.toNat)).toInt then (∃ (w23 : Int32) (X22 : fx_X), gx_247 (X.1 117 0) y4 X w23 X22 ∧ (if (w23).toInt = 0 then (∃ x25 : Int32, x25 = y4 + Int32.ofInt 1 ∧ P 49 [y2, y3, x25] [] [] X22 v X') else (∃ (w28 : Unit) (X27 : fx_X), gx_266 y2 y4 X22 w28 X27 ∧ P 86 [y2, y3, y4, (Int32.ofInt 0)] [] [] X27 v X'))) else (∃ x20 : Int32, x20 = (y3 / (Int32.ofInt 2)) ∧ P 134 [y2, y3, x20] [] [] X v X'))
def gxT_294_86 (p1 : Int32) (P : Nat → List Int32 → List Int64 → List Nat → fx_X → Unit → fx_X → Prop) (y2 : Int32) (y3 : Int32) (y4 : Int32) (y5 : Int32) (X : fx_X) (v : Unit) (X' : fx_X) : Prop :=
  (if (y5).toInt < ((X.1 117 58)).toInt then ((0 ≤ (y5).toInt ∧ (y5).toInt < ((30 : Nat) : Int)) ∧ (0 ≤ (y3).toInt ∧ (y3).toInt < ((30720 : Nat) : Int)) ∧ ∃ X47 : fx_X, X47 = (fx_wI X 148 (y3).toInt.toNat (((X.1 143 (y5).toInt.toNat) <<< (((Int8.ofInt 10).toInt32) &&& 31)) ||| y4)) ∧ ∃ x48 : Int32, x48 = y3 + Int32.ofInt 1 ∧ ∃ x50 : Int32, x50 = y5 + Int32.ofInt 1 ∧ P 86 [y2, x48, y4, x50] [] [] X47 v X') else (∃ x41 : Int32, x41 = y4 + Int32.ofInt 1 ∧ P 49 [y2, y3, x41] [] [] X v X'))
def gxT_294_134 (p1 : Int32) (P : Nat → List Int32 → List Int64 → List Nat → fx_X → Unit → fx_X → Prop) (y2 : Int32) (y3 : Int32) (y4 : Int32) (X : fx_X) (v : Unit) (X' : fx_X) : Prop :=
  (if (y4).toInt < 0 then (∃ x31 : Int32, x31 = (y3 - (Int32.ofInt 1)) ∧ P 162 [y2, y3, x31] [] [] X v X') else ((if 0 < (y3).toInt then (∃ (w37 : Unit) (X36 : fx_X), gx_295 y2 y4 y3 X w37 X36 ∧ ∃ x38 : Int32, x38 = y4 + Int32.ofInt (-1) ∧ P 134 [y2, y3, x38] [] [] X36 v X') else (∃ x34 : Int32, x34 = (y3 - (Int32.ofInt 1)) ∧ P 162 [y2, y3, x34] [] [] X v X'))))
def gxT_294_162 (p1 : Int32) (P : Nat → List Int32 → List Int64 → List Nat → fx_X → Unit → fx_X → Prop) (y2 : Int32) (y3 : Int32) (y4 : Int32) (X : fx_X) (v : Unit) (X' : fx_X) : Prop :=
  (if 0 < (y4).toInt then ((0 ≤ (y4).toInt ∧ (y4).toInt < ((30720 : Nat) : Int)) ∧ ∃ x57 : Int32, x57 = (X.1 148 (y4).toInt.toNat) ∧ (0 ≤ (y4).toInt ∧ (y4).toInt < ((30720 : Nat) : Int)) ∧ ∃ X63 : fx_X, X63 = (fx_wI X 148 (y4).toInt.toNat (X.1 148 0)) ∧ ∃ X66 : fx_X, X66 = (fx_wI X63 148 0 x57) ∧ ∃ (w68 : Unit) (X67 : fx_X), gx_295 y2 (Int32.ofInt 0) y4 X66 w68 X67 ∧ ∃ x69 : Int32, x69 = y4 + Int32.ofInt (-1) ∧ P 162 [y2, y3, x69] [] [] X67 v X') else (∃ X53 : fx_X, X53 = (fx_wI X 117 67 (Int32.ofInt 0)) ∧ P 219 [y2, y3, (Int32.ofInt 0)] [] [] X53 v X'))
def gxT_294_219 (p1 : Int32) (P : Nat → List Int32 → List Int64 → List Nat → fx_X → Unit → fx_X → Prop) (y2 : Int32) (y3 : Int32) (y4 : Int32) (X : fx_X) (v : Unit) (X' : fx_X) : Prop :=
  (if (y4).toInt < (y3).toInt then ((if ((X.1 117 67)).toInt = 0 then ((0 ≤ (y4).toInt ∧ (y4).toInt < ((30720 : Nat) : Int)) ∧ (0 ≤ ((X.1 117 67)).toInt ∧ ((X.1 117 67)).toInt < ((30720 : Nat) : Int)) ∧ ∃ X77 : fx_X, X77 = (fx_wI X 148 ((X.1 117 67)).toInt.toNat (X.1 148 (y4).toInt.toNat)) ∧ ∃ X78 : fx_X, X78 = (fx_wI X77 117 67 ((X77.1 117 67) + (Int32.ofInt 1))) ∧ ∃ x79 : Int32, x79 = y4 + Int32.ofInt 1 ∧ P 219 [y2, y3, x79] [] [] X78 v X') else ((0 ≤ (((X.1 117 67) - (Int32.ofInt 1))).toInt ∧ (((X.1 117 67) - (Int32.ofInt 1))).toInt < ((30720 : Nat) : Int)) ∧ (0 ≤ (y4).toInt ∧ (y4).toInt < ((30720 : Nat) : Int)) ∧ ∃ (w86 : Int32) (X85 : fx_X), gx_296 y2 (X.1 148 (((X.1 117 67) - (Int32.ofInt 1))).toInt.toNat) (X.1 148 (y4).toInt.toNat) X w86 X85 ∧ (if (w86).toInt = 0 then (∃ x88 : Int32, x88 = y4 + Int32.ofInt 1 ∧ P 219 [y2, y3, x88] [] [] X85 v X') else ((0 ≤ (y4).toInt ∧ (y4).toInt < ((30720 : Nat) : Int)) ∧ (0 ≤ ((X85.1 117 67)).toInt ∧ ((X85.1 117 67)).toInt < ((30720 : Nat) : Int)) ∧ ∃ X94 : fx_X, X94 = (fx_wI X85 148 ((X85.1 117 67)).toInt.toNat (X85.1 148 (y4).toInt.toNat)) ∧ ∃ X95 : fx_X, X95 = (fx_wI X94 117 67 ((X94.1 117 67) + (Int32.ofInt 1))) ∧ ∃ x96 : Int32, x96 = y4 + Int32.ofInt 1 ∧ P 219 [y2, y3, x96] [] [] X95 v X'))))) else (X' = X))
def gxE_294 (p1 : Int32) (P : Nat → List Int32 → List Int64 → List Nat → fx_X → Unit → fx_X → Prop) (X : fx_X) (v : Unit) (X' : fx_X) : Prop :=
  (if ((X.1 117 70)).toInt = (p1).toInt then ((if (X.2.1 117 69) = (X.2.1 117 68) then (X' = X) else (∃ X10 : fx_X, X10 = (fx_wI X 117 70 p1) ∧ ∃ X11 : fx_X, X11 = (fx_wL X10 117 69 (X10.2.1 117 68)) ∧ ∃ x12 : Int32, x12 = (((X11.1 117 0) * ((Int8.ofInt 10).toInt32)) + p1) ∧ P 49 [x12, (Int32.ofInt 0), (Int32.ofInt 0)] [] [] X11 v X'))) else (∃ X3 : fx_X, X3 = (fx_wI X 117 70 p1) ∧ ∃ X4 : fx_X, X4 = (fx_wL X3 117 69 (X3.2.1 117 68)) ∧ ∃ x5 : Int32, x5 = (((X4.1 117 0) * ((Int8.ofInt 10).toInt32)) + p1) ∧ P 49 [x5, (Int32.ofInt 0), (Int32.ofInt 0)] [] [] X4 v X'))
noncomputable def gxF_294 (p1 : Int32) (n : Nat) : Nat → List Int32 → List Int64 → List Nat → fx_X → Unit → fx_X → Prop := Nat.rec (motive := fun _ => Nat → List Int32 → List Int64 → List Nat → fx_X → Unit → fx_X → Prop) (fun _ _ _ _ _ _ _ => False) (fun _ P l is ls rs X v X' => (l = 49 ∧ ∃ (y2 : Int32) (y3 : Int32) (y4 : Int32), is = [y2, y3, y4] ∧ ls = [] ∧ rs = [] ∧ gxT_294_49 p1 P y2 y3 y4 X v X') ∨ (l = 86 ∧ ∃ (y2 : Int32) (y3 : Int32) (y4 : Int32) (y5 : Int32), is = [y2, y3, y4, y5] ∧ ls = [] ∧ rs = [] ∧ gxT_294_86 p1 P y2 y3 y4 y5 X v X') ∨ (l = 134 ∧ ∃ (y2 : Int32) (y3 : Int32) (y4 : Int32), is = [y2, y3, y4] ∧ ls = [] ∧ rs = [] ∧ gxT_294_134 p1 P y2 y3 y4 X v X') ∨ (l = 162 ∧ ∃ (y2 : Int32) (y3 : Int32) (y4 : Int32), is = [y2, y3, y4] ∧ ls = [] ∧ rs = [] ∧ gxT_294_162 p1 P y2 y3 y4 X v X') ∨ (l = 219 ∧ ∃ (y2 : Int32) (y3 : Int32) (y4 : Int32), is = [y2, y3, y4] ∧ ls = [] ∧ rs = [] ∧ gxT_294_219 p1 P y2 y3 y4 X v X')) n
theorem gxI_294_49 {p1 : Int32} {n : Nat} {y2 : Int32} {y3 : Int32} {y4 : Int32} {X : fx_X} {v : Unit} {X' : fx_X} (h : gxT_294_49 p1 (gxF_294 p1 n) y2 y3 y4 X v X') : gxF_294 p1 (n + 1) 49 [y2, y3, y4] [] [] X v X' := Or.inl ⟨rfl, y2, y3, y4, rfl, rfl, rfl, h⟩
theorem gxO_294_49 {p1 : Int32} {n : Nat} {y2 : Int32} {y3 : Int32} {y4 : Int32} {X : fx_X} {v : Unit} {X' : fx_X} (h : gxF_294 p1 (n + 1) 49 [y2, y3, y4] [] [] X v X') : gxT_294_49 p1 (gxF_294 p1 n) y2 y3 y4 X v X' := by
  rcases h with ⟨-, _, _, _, e1, e2, e3, h⟩ | ⟨e, -⟩ | ⟨e, -⟩ | ⟨e, -⟩ | ⟨e, -⟩
  · cases e1; cases e2; cases e3; exact h
  · exact absurd e (by decide)
  · exact absurd e (by decide)
  · exact absurd e (by decide)
  · exact absurd e (by decide)
theorem gxI_294_86 {p1 : Int32} {n : Nat} {y2 : Int32} {y3 : Int32} {y4 : Int32} {y5 : Int32} {X : fx_X} {v : Unit} {X' : fx_X} (h : gxT_294_86 p1 (gxF_294 p1 n) y2 y3 y4 y5 X v X') : gxF_294 p1 (n + 1) 86 [y2, y3, y4, y5] [] [] X v X' := Or.inr (Or.inl ⟨rfl, y2, y3, y4, y5, rfl, rfl, rfl, h⟩)
theorem gxO_294_86 {p1 : Int32} {n : Nat} {y2 : Int32} {y3 : Int32} {y4 : Int32} {y5 : Int32} {X : fx_X} {v : Unit} {X' : fx_X} (h : gxF_294 p1 (n + 1) 86 [y2, y3, y4, y5] [] [] X v X') : gxT_294_86 p1 (gxF_294 p1 n) y2 y3 y4 y5 X v X' := by
  rcases h with ⟨e, -⟩ | ⟨-, _, _, _, _, e1, e2, e3, h⟩ | ⟨e, -⟩ | ⟨e, -⟩ | ⟨e, -⟩
  · exact absurd e (by decide)
  · cases e1; cases e2; cases e3; exact h
  · exact absurd e (by decide)
  · exact absurd e (by decide)
  · exact absurd e (by decide)
theorem gxI_294_134 {p1 : Int32} {n : Nat} {y2 : Int32} {y3 : Int32} {y4 : Int32} {X : fx_X} {v : Unit} {X' : fx_X} (h : gxT_294_134 p1 (gxF_294 p1 n) y2 y3 y4 X v X') : gxF_294 p1 (n + 1) 134 [y2, y3, y4] [] [] X v X' := Or.inr (Or.inr (Or.inl ⟨rfl, y2, y3, y4, rfl, rfl, rfl, h⟩))
theorem gxO_294_134 {p1 : Int32} {n : Nat} {y2 : Int32} {y3 : Int32} {y4 : Int32} {X : fx_X} {v : Unit} {X' : fx_X} (h : gxF_294 p1 (n + 1) 134 [y2, y3, y4] [] [] X v X') : gxT_294_134 p1 (gxF_294 p1 n) y2 y3 y4 X v X' := by
  rcases h with ⟨e, -⟩ | ⟨e, -⟩ | ⟨-, _, _, _, e1, e2, e3, h⟩ | ⟨e, -⟩ | ⟨e, -⟩
  · exact absurd e (by decide)
  · exact absurd e (by decide)
  · cases e1; cases e2; cases e3; exact h
  · exact absurd e (by decide)
  · exact absurd e (by decide)
theorem gxI_294_162 {p1 : Int32} {n : Nat} {y2 : Int32} {y3 : Int32} {y4 : Int32} {X : fx_X} {v : Unit} {X' : fx_X} (h : gxT_294_162 p1 (gxF_294 p1 n) y2 y3 y4 X v X') : gxF_294 p1 (n + 1) 162 [y2, y3, y4] [] [] X v X' := Or.inr (Or.inr (Or.inr (Or.inl ⟨rfl, y2, y3, y4, rfl, rfl, rfl, h⟩)))
theorem gxO_294_162 {p1 : Int32} {n : Nat} {y2 : Int32} {y3 : Int32} {y4 : Int32} {X : fx_X} {v : Unit} {X' : fx_X} (h : gxF_294 p1 (n + 1) 162 [y2, y3, y4] [] [] X v X') : gxT_294_162 p1 (gxF_294 p1 n) y2 y3 y4 X v X' := by
  rcases h with ⟨e, -⟩ | ⟨e, -⟩ | ⟨e, -⟩ | ⟨-, _, _, _, e1, e2, e3, h⟩ | ⟨e, -⟩
  · exact absurd e (by decide)
  · exact absurd e (by decide)
  · exact absurd e (by decide)
  · cases e1; cases e2; cases e3; exact h
  · exact absurd e (by decide)
theorem gxI_294_219 {p1 : Int32} {n : Nat} {y2 : Int32} {y3 : Int32} {y4 : Int32} {X : fx_X} {v : Unit} {X' : fx_X} (h : gxT_294_219 p1 (gxF_294 p1 n) y2 y3 y4 X v X') : gxF_294 p1 (n + 1) 219 [y2, y3, y4] [] [] X v X' := Or.inr (Or.inr (Or.inr (Or.inr (⟨rfl, y2, y3, y4, rfl, rfl, rfl, h⟩))))
theorem gxO_294_219 {p1 : Int32} {n : Nat} {y2 : Int32} {y3 : Int32} {y4 : Int32} {X : fx_X} {v : Unit} {X' : fx_X} (h : gxF_294 p1 (n + 1) 219 [y2, y3, y4] [] [] X v X') : gxT_294_219 p1 (gxF_294 p1 n) y2 y3 y4 X v X' := by
  rcases h with ⟨e, -⟩ | ⟨e, -⟩ | ⟨e, -⟩ | ⟨e, -⟩ | ⟨-, _, _, _, e1, e2, e3, h⟩
  · exact absurd e (by decide)
  · exact absurd e (by decide)
  · exact absurd e (by decide)
  · exact absurd e (by decide)
  · cases e1; cases e2; cases e3; exact h
def gx_294 (p1 : Int32) (X : fx_X) (v : Unit) (X' : fx_X) : Prop := ∃ n : Nat, gxE_294 p1 (gxF_294 p1 n) X v X'
theorem gxL_294 {tb : aj_T} (p1 : Int32) : ∀ N : Nat, (∀ (lv : aj_V) (y2 : Int32) (y3 : Int32) (y4 : Int32) (X : fx_X), aj_lv lv 0 = some (.ref 117) → aj_lv lv 2 = some (.int y2) → aj_lv lv 3 = some (.int y3) → aj_lv lv 4 = some (.int y4) → fx_W tb aj_m294 N 49 lv [] X (fx_Q fx_qN (fun v X' => ∃ n : Nat, gxF_294 p1 n 49 [y2, y3, y4] [] [] X v X'))) ∧ (∀ (lv : aj_V) (y2 : Int32) (y3 : Int32) (y4 : Int32) (y5 : Int32) (X : fx_X), aj_lv lv 0 = some (.ref 117) → aj_lv lv 2 = some (.int y2) → aj_lv lv 3 = some (.int y3) → aj_lv lv 4 = some (.int y4) → aj_lv lv 5 = some (.int y5) → fx_W tb aj_m294 N 86 lv [] X (fx_Q fx_qN (fun v X' => ∃ n : Nat, gxF_294 p1 n 86 [y2, y3, y4, y5] [] [] X v X'))) ∧ (∀ (lv : aj_V) (y2 : Int32) (y3 : Int32) (y4 : Int32) (X : fx_X), aj_lv lv 0 = some (.ref 117) → aj_lv lv 2 = some (.int y2) → aj_lv lv 3 = some (.int y3) → aj_lv lv 4 = some (.int y4) → fx_W tb aj_m294 N 134 lv [] X (fx_Q fx_qN (fun v X' => ∃ n : Nat, gxF_294 p1 n 134 [y2, y3, y4] [] [] X v X'))) ∧ (∀ (lv : aj_V) (y2 : Int32) (y3 : Int32) (y4 : Int32) (X : fx_X), aj_lv lv 0 = some (.ref 117) → aj_lv lv 2 = some (.int y2) → aj_lv lv 3 = some (.int y3) → aj_lv lv 4 = some (.int y4) → fx_W tb aj_m294 N 162 lv [] X (fx_Q fx_qN (fun v X' => ∃ n : Nat, gxF_294 p1 n 162 [y2, y3, y4] [] [] X v X'))) ∧ (∀ (lv : aj_V) (y2 : Int32) (y3 : Int32) (y4 : Int32) (X : fx_X), aj_lv lv 0 = some (.ref 117) → aj_lv lv 2 = some (.int y2) → aj_lv lv 3 = some (.int y3) → aj_lv lv 4 = some (.int y4) → fx_W tb aj_m294 N 219 lv [] X (fx_Q fx_qN (fun v X' => ∃ n : Nat, gxF_294 p1 n 219 [y2, y3, y4] [] [] X v X'))) := by
  intro N
  induction N with
  | zero => exact ⟨(by intros; exact fx_z), (by intros; exact fx_z), (by intros; exact fx_z), (by intros; exact fx_z), (by intros; exact fx_z)⟩
  | succ N ih =>
    refine ⟨?_, ?_, ?_, ?_, ?_⟩
    · intro lv y2 y3 y4 X hlv_0 hlv_2 hlv_3 hlv_4
      refine fx_mono (Q := fx_Q fx_qN (fun v X' => ∃ n : Nat, gxT_294_49 p1 (gxF_294 p1 n) y2 y3 y4 X v X')) (fun r X' ⟨v, e, n, z⟩ => ⟨v, e, n + 1, gxI_294_49 z⟩) ?_
      unfold gxT_294_49
      refine fx_i0 aj_d294 rfl (Nat.le_refl _) (fun _ => rfl) hlv_4 ?_
      refine fx_i2 aj_d294 rfl (Nat.le_succ _) (fun _ => rfl) hlv_0 ?_
      refine fx_gF aj_d294 rfl (Nat.le_succ _) rfl rfl fx_in_11_5 (t := 122) rfl (fun hA16 => ?_)
      refine fx_i2 aj_d294 rfl (Nat.le_succ _) (fun _ => rfl) hlv_0 ?_
      refine fx_gI aj_d294 rfl (Nat.le_succ _) rfl rfl (Or.inl rfl) ?_
      refine fx_ld aj_d294 (Or.inl rfl) rfl (Nat.le_succ _) (fun g170 g171 => ?_)
      show fx_W _ _ _ 60 lv [.int (X.1 122 ((X.1 117 0)).toInt.toNat), .int y4] _ _
      refine fx_qa (c := 0 ≤ ((X.1 117 0)).toInt ∧ ((X.1 117 0)).toInt < ((2 : Nat) : Int)) ⟨g170, fx_lnk g171 hA16⟩ ?_
      refine fx_b (tgt := 129) aj_d294 rfl (Nat.le_succ _) rfl (fun q18 => ?_) (fun q18 => ?_)
      · skip
        refine fx_qe (c := (y4).toInt < ((X.1 122 ((X.1 117 0)).toInt.toNat)).toInt) (fx_t_ge q18) ?_
        show fx_W _ _ _ 129 lv [] _ _
        refine fx_i0 aj_d294 rfl (Nat.le_succ _) (fun _ => rfl) hlv_3 ?_
        refine fx_n (pc' := 131) (lv' := lv) (st' := [.int (Int32.ofInt 2), .int y3]) aj_d294 rfl (Nat.le_succ _) (fun _ => rfl) ?_
        refine fx_dv aj_d294 rfl (Nat.le_succ _) (fun q19 => ?_)
        refine fx_qxI (fun x20 ex20 => ?_)
        refine fx_s0 (j := 4) aj_d294 rfl (Nat.le_succ _) (by decide) (fun _ => rfl) ?_
        obtain ⟨lv21, elv21⟩ : ∃ l, l = aj_set1 lv 4 (.int x20) := ⟨_, rfl⟩
        rw [← elv21]
        have hlv21_0 : aj_lv lv21 0 = some (.ref 117) := fx_e1 elv21 hlv_0 (by decide) (Or.inl (by decide))
        have hlv21_2 : aj_lv lv21 2 = some (.int y2) := fx_e1 elv21 hlv_2 (by decide) (Or.inl (by decide))
        have hlv21_3 : aj_lv lv21 3 = some (.int y3) := fx_e1 elv21 hlv_3 (by decide) (Or.inr rfl)
        have hlv21_4 : aj_lv lv21 4 = some (.int x20) := by rw [elv21]; exact ak_set1_eq _ _ _
        show fx_W _ _ _ 134 lv21 [] _ _
        exact (ih.2.2.1) lv21 (y2) (y3) (x20) X  hlv21_0 hlv21_2 hlv21_3 hlv21_4
      · skip
        refine fx_qi (c := (y4).toInt < ((X.1 122 ((X.1 117 0)).toInt.toNat)).toInt) (fx_f_ge q18) ?_
        show fx_W _ _ _ 63 lv [] _ _
        refine fx_i2 aj_d294 rfl (Nat.le_succ _) (fun _ => rfl) hlv_0 ?_
        refine fx_i2 aj_d294 rfl (Nat.le_succ _) (fun _ => rfl) hlv_0 ?_
        refine fx_gI aj_d294 rfl (Nat.le_succ _) rfl rfl (Or.inl rfl) ?_
        refine fx_i0 aj_d294 rfl (Nat.le_succ _) (fun _ => rfl) hlv_4 ?_
        refine fx_cv aj_d294 rfl (Nat.le_succ _) rfl [_, _] rfl rfl (gx_247_ok (X.1 117 0) y4) ?_
        rintro _ X22 ⟨w23, rfl, hR22⟩ hok22 hle22
        refine fx_qc hR22 ?_
        show fx_W _ _ _ 73 lv [.int w23] _ _
        refine fx_b0 (tgt := 123) aj_d294 rfl (Nat.le_succ _) rfl (fun q24 => ?_) (fun q24 => ?_)
        · skip
          refine fx_qi (c := (w23).toInt = 0) (fx_t_eq q24) ?_
          show fx_W _ _ _ 123 lv [] _ _
          refine fx_incq aj_d294 rfl (Nat.le_succ _) hlv_4 (by decide) (fun x25 ex25 => ?_)
          obtain ⟨lv26, elv26⟩ : ∃ l, l = aj_set1 lv 4 (.int x25) := ⟨_, rfl⟩
          rw [← elv26]
          have hlv26_0 : aj_lv lv26 0 = some (.ref 117) := fx_e1 elv26 hlv_0 (by decide) (Or.inl (by decide))
          have hlv26_2 : aj_lv lv26 2 = some (.int y2) := fx_e1 elv26 hlv_2 (by decide) (Or.inl (by decide))
          have hlv26_3 : aj_lv lv26 3 = some (.int y3) := fx_e1 elv26 hlv_3 (by decide) (Or.inr rfl)
          have hlv26_4 : aj_lv lv26 4 = some (.int x25) := by rw [elv26]; exact ak_set1_eq _ _ _
          show fx_W _ _ _ 126 lv26 [] _ _
          refine fx_n (pc' := 49) (lv' := lv26) (st' := []) aj_d294 rfl (Nat.le_succ _) (fun _ => rfl) ?_
          exact (ih.1) lv26 (y2) (y3) (x25) X22  hlv26_0 hlv26_2 hlv26_3 hlv26_4
        · skip
          refine fx_qe (c := (w23).toInt = 0) (fx_f_eq q24) ?_
          show fx_W _ _ _ 76 lv [] _ _
          refine fx_i2 aj_d294 rfl (Nat.le_succ _) (fun _ => rfl) hlv_0 ?_
          refine fx_i0 aj_d294 rfl (Nat.le_succ _) (fun _ => rfl) hlv_2 ?_
          refine fx_i0 aj_d294 rfl (Nat.le_succ _) (fun _ => rfl) hlv_4 ?_
          refine fx_cv aj_d294 rfl (Nat.le_succ _) rfl [_, _] rfl rfl (gx_266_ok y2 y4) ?_
          rintro _ X27 ⟨w28, rfl, hR27⟩ hok27 hle27
          refine fx_qc hR27 ?_
          show fx_W _ _ _ 83 lv [] _ _
          refine fx_n (pc' := 84) (lv' := lv) (st' := [.int (Int32.ofInt 0)]) aj_d294 rfl (Nat.le_succ _) (fun _ => rfl) ?_
          refine fx_s0 (j := 5) aj_d294 rfl (Nat.le_succ _) (by decide) (fun _ => rfl) ?_
          obtain ⟨lv29, elv29⟩ : ∃ l, l = aj_set1 lv 5 (.int (Int32.ofInt 0)) := ⟨_, rfl⟩
          rw [← elv29]
          have hlv29_0 : aj_lv lv29 0 = some (.ref 117) := fx_e1 elv29 hlv_0 (by decide) (Or.inl (by decide))
          have hlv29_2 : aj_lv lv29 2 = some (.int y2) := fx_e1 elv29 hlv_2 (by decide) (Or.inl (by decide))
          have hlv29_3 : aj_lv lv29 3 = some (.int y3) := fx_e1 elv29 hlv_3 (by decide) (Or.inl (by decide))
          have hlv29_4 : aj_lv lv29 4 = some (.int y4) := fx_e1 elv29 hlv_4 (by decide) (Or.inr rfl)
          have hlv29_5 : aj_lv lv29 5 = some (.int (Int32.ofInt 0)) := by rw [elv29]; exact ak_set1_eq _ _ _
          show fx_W _ _ _ 86 lv29 [] _ _
          exact (ih.2.1) lv29 (y2) (y3) (y4) ((Int32.ofInt 0)) X27  hlv29_0 hlv29_2 hlv29_3 hlv29_4 hlv29_5
    · intro lv y2 y3 y4 y5 X hlv_0 hlv_2 hlv_3 hlv_4 hlv_5
      refine fx_mono (Q := fx_Q fx_qN (fun v X' => ∃ n : Nat, gxT_294_86 p1 (gxF_294 p1 n) y2 y3 y4 y5 X v X')) (fun r X' ⟨v, e, n, z⟩ => ⟨v, e, n + 1, gxI_294_86 z⟩) ?_
      unfold gxT_294_86
      refine fx_i0 aj_d294 rfl (Nat.le_refl _) (fun _ => rfl) hlv_5 ?_
      refine fx_i2 aj_d294 rfl (Nat.le_succ _) (fun _ => rfl) hlv_0 ?_
      refine fx_gI aj_d294 rfl (Nat.le_succ _) rfl rfl (Or.inl rfl) ?_
      refine fx_b (tgt := 123) aj_d294 rfl (Nat.le_succ _) rfl (fun q40 => ?_) (fun q40 => ?_)
      · skip
        refine fx_qe (c := (y5).toInt < ((X.1 117 58)).toInt) (fx_t_ge q40) ?_
        show fx_W _ _ _ 123 lv [] _ _
        refine fx_incq aj_d294 rfl (Nat.le_succ _) hlv_4 (by decide) (fun x41 ex41 => ?_)
        obtain ⟨lv42, elv42⟩ : ∃ l, l = aj_set1 lv 4 (.int x41) := ⟨_, rfl⟩
        rw [← elv42]
        have hlv42_0 : aj_lv lv42 0 = some (.ref 117) := fx_e1 elv42 hlv_0 (by decide) (Or.inl (by decide))
        have hlv42_2 : aj_lv lv42 2 = some (.int y2) := fx_e1 elv42 hlv_2 (by decide) (Or.inl (by decide))
        have hlv42_3 : aj_lv lv42 3 = some (.int y3) := fx_e1 elv42 hlv_3 (by decide) (Or.inr rfl)
        have hlv42_4 : aj_lv lv42 4 = some (.int x41) := by rw [elv42]; exact ak_set1_eq _ _ _
        show fx_W _ _ _ 126 lv42 [] _ _
        refine fx_n (pc' := 49) (lv' := lv42) (st' := []) aj_d294 rfl (Nat.le_succ _) (fun _ => rfl) ?_
        exact (ih.1) lv42 (y2) (y3) (x41) X  hlv42_0 hlv42_2 hlv42_3 hlv42_4
      · skip
        refine fx_qi (c := (y5).toInt < ((X.1 117 58)).toInt) (fx_f_ge q40) ?_
        show fx_W _ _ _ 95 lv [] _ _
        refine fx_i2 aj_d294 rfl (Nat.le_succ _) (fun _ => rfl) hlv_0 ?_
        refine fx_gF aj_d294 rfl (Nat.le_succ _) rfl rfl fx_in_11_66 (t := 148) rfl (fun hA43 => ?_)
        refine fx_i0 aj_d294 rfl (Nat.le_succ _) (fun _ => rfl) hlv_3 ?_
        refine fx_i2 aj_d294 rfl (Nat.le_succ _) (fun _ => rfl) hlv_0 ?_
        refine fx_gF aj_d294 rfl (Nat.le_succ _) rfl rfl fx_in_11_57 (t := 143) rfl (fun hA44 => ?_)
        refine fx_i0 aj_d294 rfl (Nat.le_succ _) (fun _ => rfl) hlv_5 ?_
        refine fx_ld aj_d294 (Or.inl rfl) rfl (Nat.le_succ _) (fun g450 g451 => ?_)
        show fx_W _ _ _ 107 lv [.int (X.1 143 (y5).toInt.toNat), .int y3, .ref 148] _ _
        refine fx_qa (c := 0 ≤ (y5).toInt ∧ (y5).toInt < ((30 : Nat) : Int)) ⟨g450, fx_lnk g451 hA44⟩ ?_
        refine fx_n (pc' := 109) (lv' := lv) (st' := [.int ((Int8.ofInt 10).toInt32), .int (X.1 143 (y5).toInt.toNat), .int y3, .ref 148]) aj_d294 rfl (Nat.le_succ _) (fun _ => rfl) ?_
        refine fx_n (pc' := 110) (lv' := lv) (st' := [.int ((X.1 143 (y5).toInt.toNat) <<< (((Int8.ofInt 10).toInt32) &&& 31)), .int y3, .ref 148]) aj_d294 rfl (Nat.le_succ _) (fun _ => rfl) ?_
        refine fx_i0 aj_d294 rfl (Nat.le_succ _) (fun _ => rfl) hlv_4 ?_
        refine fx_n (pc' := 113) (lv' := lv) (st' := [.int (((X.1 143 (y5).toInt.toNat) <<< (((Int8.ofInt 10).toInt32) &&& 31)) ||| y4), .int y3, .ref 148]) aj_d294 rfl (Nat.le_succ _) (fun _ => rfl) ?_
        refine fx_st aj_d294 (Or.inl ⟨rfl, rfl⟩) rfl (Nat.le_succ _) (fun g460 g461 => ?_)
        show fx_W _ _ _ _ _ _ (fx_wI X 148 (y3).toInt.toNat (((X.1 143 (y5).toInt.toNat) <<< (((Int8.ofInt 10).toInt32) &&& 31)) ||| y4)) _
        refine fx_qa (c := 0 ≤ (y3).toInt ∧ (y3).toInt < ((30720 : Nat) : Int)) ⟨g460, fx_lnk g461 hA43⟩ ?_
        refine fx_qX (fun X47 eX47 => ?_)
        show fx_W _ _ _ 114 lv [] _ _
        refine fx_incq aj_d294 rfl (Nat.le_succ _) hlv_3 (by decide) (fun x48 ex48 => ?_)
        obtain ⟨lv49, elv49⟩ : ∃ l, l = aj_set1 lv 3 (.int x48) := ⟨_, rfl⟩
        rw [← elv49]
        have hlv49_0 : aj_lv lv49 0 = some (.ref 117) := fx_e1 elv49 hlv_0 (by decide) (Or.inl (by decide))
        have hlv49_2 : aj_lv lv49 2 = some (.int y2) := fx_e1 elv49 hlv_2 (by decide) (Or.inr rfl)
        have hlv49_4 : aj_lv lv49 4 = some (.int y4) := fx_e1 elv49 hlv_4 (by decide) (Or.inl (by decide))
        have hlv49_5 : aj_lv lv49 5 = some (.int y5) := fx_e1 elv49 hlv_5 (by decide) (Or.inl (by decide))
        have hlv49_3 : aj_lv lv49 3 = some (.int x48) := by rw [elv49]; exact ak_set1_eq _ _ _
        show fx_W _ _ _ 117 lv49 [] _ _
        refine fx_incq aj_d294 rfl (Nat.le_succ _) hlv49_5 (by decide) (fun x50 ex50 => ?_)
        obtain ⟨lv51, elv51⟩ : ∃ l, l = aj_set1 lv49 5 (.int x50) := ⟨_, rfl⟩
        rw [← elv51]
        have hlv51_0 : aj_lv lv51 0 = some (.ref 117) := fx_e1 elv51 hlv49_0 (by decide) (Or.inl (by decide))
        have hlv51_2 : aj_lv lv51 2 = some (.int y2) := fx_e1 elv51 hlv49_2 (by decide) (Or.inl (by decide))
        have hlv51_4 : aj_lv lv51 4 = some (.int y4) := fx_e1 elv51 hlv49_4 (by decide) (Or.inr rfl)
        have hlv51_3 : aj_lv lv51 3 = some (.int x48) := fx_e1 elv51 hlv49_3 (by decide) (Or.inl (by decide))
        have hlv51_5 : aj_lv lv51 5 = some (.int x50) := by rw [elv51]; exact ak_set1_eq _ _ _
        show fx_W _ _ _ 120 lv51 [] _ _
        refine fx_n (pc' := 86) (lv' := lv51) (st' := []) aj_d294 rfl (Nat.le_succ _) (fun _ => rfl) ?_
        exact (ih.2.1) lv51 (y2) (x48) (y4) (x50) X47  hlv51_0 hlv51_2 hlv51_3 hlv51_4 hlv51_5
    · intro lv y2 y3 y4 X hlv_0 hlv_2 hlv_3 hlv_4
      refine fx_mono (Q := fx_Q fx_qN (fun v X' => ∃ n : Nat, gxT_294_134 p1 (gxF_294 p1 n) y2 y3 y4 X v X')) (fun r X' ⟨v, e, n, z⟩ => ⟨v, e, n + 1, gxI_294_134 z⟩) ?_
      unfold gxT_294_134
      refine fx_i0 aj_d294 rfl (Nat.le_refl _) (fun _ => rfl) hlv_4 ?_
      refine fx_b0 (tgt := 157) aj_d294 rfl (Nat.le_succ _) rfl (fun q30 => ?_) (fun q30 => ?_)
      · skip
        refine fx_qi (c := (y4).toInt < 0) (fx_t_lt q30) ?_
        show fx_W _ _ _ 157 lv [] _ _
        refine fx_i0 aj_d294 rfl (Nat.le_succ _) (fun _ => rfl) hlv_3 ?_
        refine fx_n (pc' := 159) (lv' := lv) (st' := [.int (Int32.ofInt 1), .int y3]) aj_d294 rfl (Nat.le_succ _) (fun _ => rfl) ?_
        refine fx_n (pc' := 160) (lv' := lv) (st' := [.int (y3 - (Int32.ofInt 1))]) aj_d294 rfl (Nat.le_succ _) (fun _ => rfl) ?_
        refine fx_qxI (fun x31 ex31 => ?_)
        refine fx_s0 (j := 4) aj_d294 rfl (Nat.le_succ _) (by decide) (fun _ => rfl) ?_
        obtain ⟨lv32, elv32⟩ : ∃ l, l = aj_set1 lv 4 (.int x31) := ⟨_, rfl⟩
        rw [← elv32]
        have hlv32_0 : aj_lv lv32 0 = some (.ref 117) := fx_e1 elv32 hlv_0 (by decide) (Or.inl (by decide))
        have hlv32_2 : aj_lv lv32 2 = some (.int y2) := fx_e1 elv32 hlv_2 (by decide) (Or.inl (by decide))
        have hlv32_3 : aj_lv lv32 3 = some (.int y3) := fx_e1 elv32 hlv_3 (by decide) (Or.inr rfl)
        have hlv32_4 : aj_lv lv32 4 = some (.int x31) := by rw [elv32]; exact ak_set1_eq _ _ _
        show fx_W _ _ _ 162 lv32 [] _ _
        exact (ih.2.2.2.1) lv32 (y2) (y3) (x31) X  hlv32_0 hlv32_2 hlv32_3 hlv32_4
      · skip
        refine fx_qe (c := (y4).toInt < 0) (fx_f_lt q30) ?_
        show fx_W _ _ _ 139 lv [] _ _
        refine fx_i0 aj_d294 rfl (Nat.le_succ _) (fun _ => rfl) hlv_3 ?_
        refine fx_b0 (tgt := 157) aj_d294 rfl (Nat.le_succ _) rfl (fun q33 => ?_) (fun q33 => ?_)
        · skip
          refine fx_qe (c := 0 < (y3).toInt) (fx_t_le q33) ?_
          show fx_W _ _ _ 157 lv [] _ _
          refine fx_i0 aj_d294 rfl (Nat.le_succ _) (fun _ => rfl) hlv_3 ?_
          refine fx_n (pc' := 159) (lv' := lv) (st' := [.int (Int32.ofInt 1), .int y3]) aj_d294 rfl (Nat.le_succ _) (fun _ => rfl) ?_
          refine fx_n (pc' := 160) (lv' := lv) (st' := [.int (y3 - (Int32.ofInt 1))]) aj_d294 rfl (Nat.le_succ _) (fun _ => rfl) ?_
          refine fx_qxI (fun x34 ex34 => ?_)
          refine fx_s0 (j := 4) aj_d294 rfl (Nat.le_succ _) (by decide) (fun _ => rfl) ?_
          obtain ⟨lv35, elv35⟩ : ∃ l, l = aj_set1 lv 4 (.int x34) := ⟨_, rfl⟩
          rw [← elv35]
          have hlv35_0 : aj_lv lv35 0 = some (.ref 117) := fx_e1 elv35 hlv_0 (by decide) (Or.inl (by decide))
          have hlv35_2 : aj_lv lv35 2 = some (.int y2) := fx_e1 elv35 hlv_2 (by decide) (Or.inl (by decide))
          have hlv35_3 : aj_lv lv35 3 = some (.int y3) := fx_e1 elv35 hlv_3 (by decide) (Or.inr rfl)
          have hlv35_4 : aj_lv lv35 4 = some (.int x34) := by rw [elv35]; exact ak_set1_eq _ _ _
          show fx_W _ _ _ 162 lv35 [] _ _
          exact (ih.2.2.2.1) lv35 (y2) (y3) (x34) X  hlv35_0 hlv35_2 hlv35_3 hlv35_4
        · skip
          refine fx_qi (c := 0 < (y3).toInt) (fx_f_le q33) ?_
          show fx_W _ _ _ 143 lv [] _ _
          refine fx_i2 aj_d294 rfl (Nat.le_succ _) (fun _ => rfl) hlv_0 ?_
          refine fx_i0 aj_d294 rfl (Nat.le_succ _) (fun _ => rfl) hlv_2 ?_
          refine fx_i0 aj_d294 rfl (Nat.le_succ _) (fun _ => rfl) hlv_4 ?_
          refine fx_i0 aj_d294 rfl (Nat.le_succ _) (fun _ => rfl) hlv_3 ?_
          refine fx_cv aj_d294 rfl (Nat.le_succ _) rfl [_, _, _] rfl rfl (gx_295_ok y2 y4 y3) ?_
          rintro _ X36 ⟨w37, rfl, hR36⟩ hok36 hle36
          refine fx_qc hR36 ?_
          show fx_W _ _ _ 151 lv [] _ _
          refine fx_incq aj_d294 rfl (Nat.le_succ _) hlv_4 (by decide) (fun x38 ex38 => ?_)
          obtain ⟨lv39, elv39⟩ : ∃ l, l = aj_set1 lv 4 (.int x38) := ⟨_, rfl⟩
          rw [← elv39]
          have hlv39_0 : aj_lv lv39 0 = some (.ref 117) := fx_e1 elv39 hlv_0 (by decide) (Or.inl (by decide))
          have hlv39_2 : aj_lv lv39 2 = some (.int y2) := fx_e1 elv39 hlv_2 (by decide) (Or.inl (by decide))
          have hlv39_3 : aj_lv lv39 3 = some (.int y3) := fx_e1 elv39 hlv_3 (by decide) (Or.inr rfl)
          have hlv39_4 : aj_lv lv39 4 = some (.int x38) := by rw [elv39]; exact ak_set1_eq _ _ _
          show fx_W _ _ _ 154 lv39 [] _ _
          refine fx_n (pc' := 134) (lv' := lv39) (st' := []) aj_d294 rfl (Nat.le_succ _) (fun _ => rfl) ?_
          exact (ih.2.2.1) lv39 (y2) (y3) (x38) X36  hlv39_0 hlv39_2 hlv39_3 hlv39_4
    · intro lv y2 y3 y4 X hlv_0 hlv_2 hlv_3 hlv_4
      refine fx_mono (Q := fx_Q fx_qN (fun v X' => ∃ n : Nat, gxT_294_162 p1 (gxF_294 p1 n) y2 y3 y4 X v X')) (fun r X' ⟨v, e, n, z⟩ => ⟨v, e, n + 1, gxI_294_162 z⟩) ?_
      unfold gxT_294_162
      refine fx_i0 aj_d294 rfl (Nat.le_refl _) (fun _ => rfl) hlv_4 ?_
      refine fx_b0 (tgt := 211) aj_d294 rfl (Nat.le_succ _) rfl (fun q52 => ?_) (fun q52 => ?_)
      · skip
        refine fx_qe (c := 0 < (y4).toInt) (fx_t_le q52) ?_
        show fx_W _ _ _ 211 lv [] _ _
        refine fx_i2 aj_d294 rfl (Nat.le_succ _) (fun _ => rfl) hlv_0 ?_
        refine fx_n (pc' := 213) (lv' := lv) (st' := [.int (Int32.ofInt 0), .ref 117]) aj_d294 rfl (Nat.le_succ _) (fun _ => rfl) ?_
        refine fx_pI aj_d294 rfl (Nat.le_succ _) rfl rfl (Or.inl rfl) fx_no_11_67 (by decide) ?_
        refine fx_qX (fun X53 eX53 => ?_)
        show fx_W _ _ _ 216 lv [] _ _
        refine fx_n (pc' := 217) (lv' := lv) (st' := [.int (Int32.ofInt 0)]) aj_d294 rfl (Nat.le_succ _) (fun _ => rfl) ?_
        refine fx_s0 (j := 4) aj_d294 rfl (Nat.le_succ _) (by decide) (fun _ => rfl) ?_
        obtain ⟨lv54, elv54⟩ : ∃ l, l = aj_set1 lv 4 (.int (Int32.ofInt 0)) := ⟨_, rfl⟩
        rw [← elv54]
        have hlv54_0 : aj_lv lv54 0 = some (.ref 117) := fx_e1 elv54 hlv_0 (by decide) (Or.inl (by decide))
        have hlv54_2 : aj_lv lv54 2 = some (.int y2) := fx_e1 elv54 hlv_2 (by decide) (Or.inl (by decide))
        have hlv54_3 : aj_lv lv54 3 = some (.int y3) := fx_e1 elv54 hlv_3 (by decide) (Or.inr rfl)
        have hlv54_4 : aj_lv lv54 4 = some (.int (Int32.ofInt 0)) := by rw [elv54]; exact ak_set1_eq _ _ _
        show fx_W _ _ _ 219 lv54 [] _ _
        exact (ih.2.2.2.2) lv54 (y2) (y3) ((Int32.ofInt 0)) X53  hlv54_0 hlv54_2 hlv54_3 hlv54_4
      · skip
        refine fx_qi (c := 0 < (y4).toInt) (fx_f_le q52) ?_
        show fx_W _ _ _ 167 lv [] _ _
        refine fx_i2 aj_d294 rfl (Nat.le_succ _) (fun _ => rfl) hlv_0 ?_
        refine fx_gF aj_d294 rfl (Nat.le_succ _) rfl rfl fx_in_11_66 (t := 148) rfl (fun hA55 => ?_)
        refine fx_i0 aj_d294 rfl (Nat.le_succ _) (fun _ => rfl) hlv_4 ?_
        refine fx_ld aj_d294 (Or.inl rfl) rfl (Nat.le_succ _) (fun g560 g561 => ?_)
        show fx_W _ _ _ 174 lv [.int (X.1 148 (y4).toInt.toNat)] _ _
        refine fx_qa (c := 0 ≤ (y4).toInt ∧ (y4).toInt < ((30720 : Nat) : Int)) ⟨g560, fx_lnk g561 hA55⟩ ?_
        refine fx_qxI (fun x57 ex57 => ?_)
        refine fx_s0 (j := 5) aj_d294 rfl (Nat.le_succ _) (by decide) (fun _ => rfl) ?_
        obtain ⟨lv58, elv58⟩ : ∃ l, l = aj_set1 lv 5 (.int x57) := ⟨_, rfl⟩
        rw [← elv58]
        have hlv58_0 : aj_lv lv58 0 = some (.ref 117) := fx_e1 elv58 hlv_0 (by decide) (Or.inl (by decide))
        have hlv58_2 : aj_lv lv58 2 = some (.int y2) := fx_e1 elv58 hlv_2 (by decide) (Or.inl (by decide))
        have hlv58_3 : aj_lv lv58 3 = some (.int y3) := fx_e1 elv58 hlv_3 (by decide) (Or.inl (by decide))
        have hlv58_4 : aj_lv lv58 4 = some (.int y4) := fx_e1 elv58 hlv_4 (by decide) (Or.inr rfl)
        have hlv58_5 : aj_lv lv58 5 = some (.int x57) := by rw [elv58]; exact ak_set1_eq _ _ _
        show fx_W _ _ _ 176 lv58 [] _ _
        refine fx_i2 aj_d294 rfl (Nat.le_succ _) (fun _ => rfl) hlv58_0 ?_
        refine fx_gF aj_d294 rfl (Nat.le_succ _) rfl rfl fx_in_11_66 (t := 148) rfl (fun hA59 => ?_)
        refine fx_i0 aj_d294 rfl (Nat.le_succ _) (fun _ => rfl) hlv58_4 ?_
        refine fx_i2 aj_d294 rfl (Nat.le_succ _) (fun _ => rfl) hlv58_0 ?_
        refine fx_gF aj_d294 rfl (Nat.le_succ _) rfl rfl fx_in_11_66 (t := 148) rfl (fun hA60 => ?_)
        refine fx_n (pc' := 187) (lv' := lv58) (st' := [.int (Int32.ofInt 0), .ref 148, .int y4, .ref 148]) aj_d294 rfl (Nat.le_succ _) (fun _ => rfl) ?_
        refine fx_ld aj_d294 (Or.inl rfl) rfl (Nat.le_succ _) (fun g610 g611 => ?_)
        show fx_W _ _ _ 188 lv58 [.int (X.1 148 0), .int y4, .ref 148] _ _
        refine fx_st aj_d294 (Or.inl ⟨rfl, rfl⟩) rfl (Nat.le_succ _) (fun g620 g621 => ?_)
        show fx_W _ _ _ _ _ _ (fx_wI X 148 (y4).toInt.toNat (X.1 148 0)) _
        refine fx_qa (c := 0 ≤ (y4).toInt ∧ (y4).toInt < ((30720 : Nat) : Int)) ⟨g620, fx_lnk g621 hA59⟩ ?_
        refine fx_qX (fun X63 eX63 => ?_)
        show fx_W _ _ _ 189 lv58 [] _ _
        refine fx_i2 aj_d294 rfl (Nat.le_succ _) (fun _ => rfl) hlv58_0 ?_
        refine fx_gF aj_d294 rfl (Nat.le_succ _) rfl rfl fx_in_11_66 (t := 148) rfl (fun hA64 => ?_)
        refine fx_n (pc' := 194) (lv' := lv58) (st' := [.int (Int32.ofInt 0), .ref 148]) aj_d294 rfl (Nat.le_succ _) (fun _ => rfl) ?_
        refine fx_i0 aj_d294 rfl (Nat.le_succ _) (fun _ => rfl) hlv58_5 ?_
        refine fx_st aj_d294 (Or.inl ⟨rfl, rfl⟩) rfl (Nat.le_succ _) (fun g650 g651 => ?_)
        show fx_W _ _ _ _ _ _ (fx_wI X63 148 0 x57) _
        refine fx_qX (fun X66 eX66 => ?_)
        show fx_W _ _ _ 197 lv58 [] _ _
        refine fx_i2 aj_d294 rfl (Nat.le_succ _) (fun _ => rfl) hlv58_0 ?_
        refine fx_i0 aj_d294 rfl (Nat.le_succ _) (fun _ => rfl) hlv58_2 ?_
        refine fx_n (pc' := 200) (lv' := lv58) (st' := [.int (Int32.ofInt 0), .int y2, .ref 117]) aj_d294 rfl (Nat.le_succ _) (fun _ => rfl) ?_
        refine fx_i0 aj_d294 rfl (Nat.le_succ _) (fun _ => rfl) hlv58_4 ?_
        refine fx_cv aj_d294 rfl (Nat.le_succ _) rfl [_, _, _] rfl rfl (gx_295_ok y2 (Int32.ofInt 0) y4) ?_
        rintro _ X67 ⟨w68, rfl, hR67⟩ hok67 hle67
        refine fx_qc hR67 ?_
        show fx_W _ _ _ 205 lv58 [] _ _
        refine fx_incq aj_d294 rfl (Nat.le_succ _) hlv58_4 (by decide) (fun x69 ex69 => ?_)
        obtain ⟨lv70, elv70⟩ : ∃ l, l = aj_set1 lv58 4 (.int x69) := ⟨_, rfl⟩
        rw [← elv70]
        have hlv70_0 : aj_lv lv70 0 = some (.ref 117) := fx_e1 elv70 hlv58_0 (by decide) (Or.inl (by decide))
        have hlv70_2 : aj_lv lv70 2 = some (.int y2) := fx_e1 elv70 hlv58_2 (by decide) (Or.inl (by decide))
        have hlv70_3 : aj_lv lv70 3 = some (.int y3) := fx_e1 elv70 hlv58_3 (by decide) (Or.inr rfl)
        have hlv70_4 : aj_lv lv70 4 = some (.int x69) := by rw [elv70]; exact ak_set1_eq _ _ _
        show fx_W _ _ _ 208 lv70 [] _ _
        refine fx_n (pc' := 162) (lv' := lv70) (st' := []) aj_d294 rfl (Nat.le_succ _) (fun _ => rfl) ?_
        exact (ih.2.2.2.1) lv70 (y2) (y3) (x69) X67  hlv70_0 hlv70_2 hlv70_3 hlv70_4
    · intro lv y2 y3 y4 X hlv_0 hlv_2 hlv_3 hlv_4
      refine fx_mono (Q := fx_Q fx_qN (fun v X' => ∃ n : Nat, gxT_294_219 p1 (gxF_294 p1 n) y2 y3 y4 X v X')) (fun r X' ⟨v, e, n, z⟩ => ⟨v, e, n + 1, gxI_294_219 z⟩) ?_
      unfold gxT_294_219
      refine fx_i0 aj_d294 rfl (Nat.le_refl _) (fun _ => rfl) hlv_4 ?_
      refine fx_i0 aj_d294 rfl (Nat.le_succ _) (fun _ => rfl) hlv_3 ?_
      refine fx_b (tgt := 290) aj_d294 rfl (Nat.le_succ _) rfl (fun q71 => ?_) (fun q71 => ?_)
      · skip
        refine fx_qe (c := (y4).toInt < (y3).toInt) (fx_t_ge q71) ?_
        show fx_W _ _ _ 290 lv [] _ _
        exact fx_rn aj_d294 rfl ⟨(), rfl, 0, rfl⟩
      · skip
        refine fx_qi (c := (y4).toInt < (y3).toInt) (fx_f_ge q71) ?_
        show fx_W _ _ _ 225 lv [] _ _
        refine fx_i2 aj_d294 rfl (Nat.le_succ _) (fun _ => rfl) hlv_0 ?_
        refine fx_gI aj_d294 rfl (Nat.le_succ _) rfl rfl (Or.inl rfl) ?_
        refine fx_b0 (tgt := 258) aj_d294 rfl (Nat.le_succ _) rfl (fun q72 => ?_) (fun q72 => ?_)
        · skip
          refine fx_qi (c := ((X.1 117 67)).toInt = 0) (fx_t_eq q72) ?_
          show fx_W _ _ _ 258 lv [] _ _
          refine fx_i2 aj_d294 rfl (Nat.le_succ _) (fun _ => rfl) hlv_0 ?_
          refine fx_gF aj_d294 rfl (Nat.le_succ _) rfl rfl fx_in_11_66 (t := 148) rfl (fun hA73 => ?_)
          refine fx_i2 aj_d294 rfl (Nat.le_succ _) (fun _ => rfl) hlv_0 ?_
          refine fx_gI aj_d294 rfl (Nat.le_succ _) rfl rfl (Or.inl rfl) ?_
          refine fx_i2 aj_d294 rfl (Nat.le_succ _) (fun _ => rfl) hlv_0 ?_
          refine fx_gF aj_d294 rfl (Nat.le_succ _) rfl rfl fx_in_11_66 (t := 148) rfl (fun hA74 => ?_)
          refine fx_i0 aj_d294 rfl (Nat.le_succ _) (fun _ => rfl) hlv_4 ?_
          refine fx_ld aj_d294 (Or.inl rfl) rfl (Nat.le_succ _) (fun g750 g751 => ?_)
          show fx_W _ _ _ 273 lv [.int (X.1 148 (y4).toInt.toNat), .int (X.1 117 67), .ref 148] _ _
          refine fx_qa (c := 0 ≤ (y4).toInt ∧ (y4).toInt < ((30720 : Nat) : Int)) ⟨g750, fx_lnk g751 hA74⟩ ?_
          refine fx_st aj_d294 (Or.inl ⟨rfl, rfl⟩) rfl (Nat.le_succ _) (fun g760 g761 => ?_)
          show fx_W _ _ _ _ _ _ (fx_wI X 148 ((X.1 117 67)).toInt.toNat (X.1 148 (y4).toInt.toNat)) _
          refine fx_qa (c := 0 ≤ ((X.1 117 67)).toInt ∧ ((X.1 117 67)).toInt < ((30720 : Nat) : Int)) ⟨g760, fx_lnk g761 hA73⟩ ?_
          refine fx_qX (fun X77 eX77 => ?_)
          show fx_W _ _ _ 274 lv [] _ _
          refine fx_i2 aj_d294 rfl (Nat.le_succ _) (fun _ => rfl) hlv_0 ?_
          refine fx_n (pc' := 276) (lv' := lv) (st' := [.ref 117, .ref 117]) aj_d294 rfl (Nat.le_succ _) (fun _ => rfl) ?_
          refine fx_gI aj_d294 rfl (Nat.le_succ _) rfl rfl (Or.inl rfl) ?_
          refine fx_n (pc' := 280) (lv' := lv) (st' := [.int (Int32.ofInt 1), .int (X77.1 117 67), .ref 117]) aj_d294 rfl (Nat.le_succ _) (fun _ => rfl) ?_
          refine fx_n (pc' := 281) (lv' := lv) (st' := [.int ((X77.1 117 67) + (Int32.ofInt 1)), .ref 117]) aj_d294 rfl (Nat.le_succ _) (fun _ => rfl) ?_
          refine fx_pI aj_d294 rfl (Nat.le_succ _) rfl rfl (Or.inl rfl) fx_no_11_67 (by decide) ?_
          refine fx_qX (fun X78 eX78 => ?_)
          show fx_W _ _ _ 284 lv [] _ _
          refine fx_incq aj_d294 rfl (Nat.le_succ _) hlv_4 (by decide) (fun x79 ex79 => ?_)
          obtain ⟨lv80, elv80⟩ : ∃ l, l = aj_set1 lv 4 (.int x79) := ⟨_, rfl⟩
          rw [← elv80]
          have hlv80_0 : aj_lv lv80 0 = some (.ref 117) := fx_e1 elv80 hlv_0 (by decide) (Or.inl (by decide))
          have hlv80_2 : aj_lv lv80 2 = some (.int y2) := fx_e1 elv80 hlv_2 (by decide) (Or.inl (by decide))
          have hlv80_3 : aj_lv lv80 3 = some (.int y3) := fx_e1 elv80 hlv_3 (by decide) (Or.inr rfl)
          have hlv80_4 : aj_lv lv80 4 = some (.int x79) := by rw [elv80]; exact ak_set1_eq _ _ _
          show fx_W _ _ _ 287 lv80 [] _ _
          refine fx_n (pc' := 219) (lv' := lv80) (st' := []) aj_d294 rfl (Nat.le_succ _) (fun _ => rfl) ?_
          exact (ih.2.2.2.2) lv80 (y2) (y3) (x79) X78  hlv80_0 hlv80_2 hlv80_3 hlv80_4
        · skip
          refine fx_qe (c := ((X.1 117 67)).toInt = 0) (fx_f_eq q72) ?_
          show fx_W _ _ _ 232 lv [] _ _
          refine fx_i2 aj_d294 rfl (Nat.le_succ _) (fun _ => rfl) hlv_0 ?_
          refine fx_i0 aj_d294 rfl (Nat.le_succ _) (fun _ => rfl) hlv_2 ?_
          refine fx_i2 aj_d294 rfl (Nat.le_succ _) (fun _ => rfl) hlv_0 ?_
          refine fx_gF aj_d294 rfl (Nat.le_succ _) rfl rfl fx_in_11_66 (t := 148) rfl (fun hA81 => ?_)
          refine fx_i2 aj_d294 rfl (Nat.le_succ _) (fun _ => rfl) hlv_0 ?_
          refine fx_gI aj_d294 rfl (Nat.le_succ _) rfl rfl (Or.inl rfl) ?_
          refine fx_n (pc' := 243) (lv' := lv) (st' := [.int (Int32.ofInt 1), .int (X.1 117 67), .ref 148, .int y2, .ref 117]) aj_d294 rfl (Nat.le_succ _) (fun _ => rfl) ?_
          refine fx_n (pc' := 244) (lv' := lv) (st' := [.int ((X.1 117 67) - (Int32.ofInt 1)), .ref 148, .int y2, .ref 117]) aj_d294 rfl (Nat.le_succ _) (fun _ => rfl) ?_
          refine fx_ld aj_d294 (Or.inl rfl) rfl (Nat.le_succ _) (fun g820 g821 => ?_)
          show fx_W _ _ _ 245 lv [.int (X.1 148 (((X.1 117 67) - (Int32.ofInt 1))).toInt.toNat), .int y2, .ref 117] _ _
          refine fx_qa (c := 0 ≤ (((X.1 117 67) - (Int32.ofInt 1))).toInt ∧ (((X.1 117 67) - (Int32.ofInt 1))).toInt < ((30720 : Nat) : Int)) ⟨g820, fx_lnk g821 hA81⟩ ?_
          refine fx_i2 aj_d294 rfl (Nat.le_succ _) (fun _ => rfl) hlv_0 ?_
          refine fx_gF aj_d294 rfl (Nat.le_succ _) rfl rfl fx_in_11_66 (t := 148) rfl (fun hA83 => ?_)
          refine fx_i0 aj_d294 rfl (Nat.le_succ _) (fun _ => rfl) hlv_4 ?_
          refine fx_ld aj_d294 (Or.inl rfl) rfl (Nat.le_succ _) (fun g840 g841 => ?_)
          show fx_W _ _ _ 252 lv [.int (X.1 148 (y4).toInt.toNat), .int (X.1 148 (((X.1 117 67) - (Int32.ofInt 1))).toInt.toNat), .int y2, .ref 117] _ _
          refine fx_qa (c := 0 ≤ (y4).toInt ∧ (y4).toInt < ((30720 : Nat) : Int)) ⟨g840, fx_lnk g841 hA83⟩ ?_
          refine fx_cv aj_d294 rfl (Nat.le_succ _) rfl [_, _, _] rfl rfl (gx_296_ok y2 (X.1 148 (((X.1 117 67) - (Int32.ofInt 1))).toInt.toNat) (X.1 148 (y4).toInt.toNat)) ?_
          rintro _ X85 ⟨w86, rfl, hR85⟩ hok85 hle85
          refine fx_qc hR85 ?_
          show fx_W _ _ _ 255 lv [.int w86] _ _
          refine fx_b0 (tgt := 284) aj_d294 rfl (Nat.le_succ _) rfl (fun q87 => ?_) (fun q87 => ?_)
          · skip
            refine fx_qi (c := (w86).toInt = 0) (fx_t_eq q87) ?_
            show fx_W _ _ _ 284 lv [] _ _
            refine fx_incq aj_d294 rfl (Nat.le_succ _) hlv_4 (by decide) (fun x88 ex88 => ?_)
            obtain ⟨lv89, elv89⟩ : ∃ l, l = aj_set1 lv 4 (.int x88) := ⟨_, rfl⟩
            rw [← elv89]
            have hlv89_0 : aj_lv lv89 0 = some (.ref 117) := fx_e1 elv89 hlv_0 (by decide) (Or.inl (by decide))
            have hlv89_2 : aj_lv lv89 2 = some (.int y2) := fx_e1 elv89 hlv_2 (by decide) (Or.inl (by decide))
            have hlv89_3 : aj_lv lv89 3 = some (.int y3) := fx_e1 elv89 hlv_3 (by decide) (Or.inr rfl)
            have hlv89_4 : aj_lv lv89 4 = some (.int x88) := by rw [elv89]; exact ak_set1_eq _ _ _
            show fx_W _ _ _ 287 lv89 [] _ _
            refine fx_n (pc' := 219) (lv' := lv89) (st' := []) aj_d294 rfl (Nat.le_succ _) (fun _ => rfl) ?_
            exact (ih.2.2.2.2) lv89 (y2) (y3) (x88) X85  hlv89_0 hlv89_2 hlv89_3 hlv89_4
          · skip
            refine fx_qe (c := (w86).toInt = 0) (fx_f_eq q87) ?_
            show fx_W _ _ _ 258 lv [] _ _
            refine fx_i2 aj_d294 rfl (Nat.le_succ _) (fun _ => rfl) hlv_0 ?_
            refine fx_gF aj_d294 rfl (Nat.le_succ _) rfl rfl fx_in_11_66 (t := 148) rfl (fun hA90 => ?_)
            refine fx_i2 aj_d294 rfl (Nat.le_succ _) (fun _ => rfl) hlv_0 ?_
            refine fx_gI aj_d294 rfl (Nat.le_succ _) rfl rfl (Or.inl rfl) ?_
            refine fx_i2 aj_d294 rfl (Nat.le_succ _) (fun _ => rfl) hlv_0 ?_
            refine fx_gF aj_d294 rfl (Nat.le_succ _) rfl rfl fx_in_11_66 (t := 148) rfl (fun hA91 => ?_)
            refine fx_i0 aj_d294 rfl (Nat.le_succ _) (fun _ => rfl) hlv_4 ?_
            refine fx_ld aj_d294 (Or.inl rfl) rfl (Nat.le_succ _) (fun g920 g921 => ?_)
            show fx_W _ _ _ 273 lv [.int (X85.1 148 (y4).toInt.toNat), .int (X85.1 117 67), .ref 148] _ _
            refine fx_qa (c := 0 ≤ (y4).toInt ∧ (y4).toInt < ((30720 : Nat) : Int)) ⟨g920, fx_lnk g921 hA91⟩ ?_
            refine fx_st aj_d294 (Or.inl ⟨rfl, rfl⟩) rfl (Nat.le_succ _) (fun g930 g931 => ?_)
            show fx_W _ _ _ _ _ _ (fx_wI X85 148 ((X85.1 117 67)).toInt.toNat (X85.1 148 (y4).toInt.toNat)) _
            refine fx_qa (c := 0 ≤ ((X85.1 117 67)).toInt ∧ ((X85.1 117 67)).toInt < ((30720 : Nat) : Int)) ⟨g930, fx_lnk g931 hA90⟩ ?_
            refine fx_qX (fun X94 eX94 => ?_)
            show fx_W _ _ _ 274 lv [] _ _
            refine fx_i2 aj_d294 rfl (Nat.le_succ _) (fun _ => rfl) hlv_0 ?_
            refine fx_n (pc' := 276) (lv' := lv) (st' := [.ref 117, .ref 117]) aj_d294 rfl (Nat.le_succ _) (fun _ => rfl) ?_
            refine fx_gI aj_d294 rfl (Nat.le_succ _) rfl rfl (Or.inl rfl) ?_
            refine fx_n (pc' := 280) (lv' := lv) (st' := [.int (Int32.ofInt 1), .int (X94.1 117 67), .ref 117]) aj_d294 rfl (Nat.le_succ _) (fun _ => rfl) ?_
            refine fx_n (pc' := 281) (lv' := lv) (st' := [.int ((X94.1 117 67) + (Int32.ofInt 1)), .ref 117]) aj_d294 rfl (Nat.le_succ _) (fun _ => rfl) ?_
            refine fx_pI aj_d294 rfl (Nat.le_succ _) rfl rfl (Or.inl rfl) fx_no_11_67 (by decide) ?_
            refine fx_qX (fun X95 eX95 => ?_)
            show fx_W _ _ _ 284 lv [] _ _
            refine fx_incq aj_d294 rfl (Nat.le_succ _) hlv_4 (by decide) (fun x96 ex96 => ?_)
            obtain ⟨lv97, elv97⟩ : ∃ l, l = aj_set1 lv 4 (.int x96) := ⟨_, rfl⟩
            rw [← elv97]
            have hlv97_0 : aj_lv lv97 0 = some (.ref 117) := fx_e1 elv97 hlv_0 (by decide) (Or.inl (by decide))
            have hlv97_2 : aj_lv lv97 2 = some (.int y2) := fx_e1 elv97 hlv_2 (by decide) (Or.inl (by decide))
            have hlv97_3 : aj_lv lv97 3 = some (.int y3) := fx_e1 elv97 hlv_3 (by decide) (Or.inr rfl)
            have hlv97_4 : aj_lv lv97 4 = some (.int x96) := by rw [elv97]; exact ak_set1_eq _ _ _
            show fx_W _ _ _ 287 lv97 [] _ _
            refine fx_n (pc' := 219) (lv' := lv97) (st' := []) aj_d294 rfl (Nat.le_succ _) (fun _ => rfl) ?_
            exact (ih.2.2.2.2) lv97 (y2) (y3) (x96) X95  hlv97_0 hlv97_2 hlv97_3 hlv97_4
theorem gx_294_ok {tb : aj_T} (p1 : Int32) {X : fx_X} : fx_K tb 294 [.ref 117, .int p1] X (fx_Q fx_qN (fun v X' => gx_294 p1 X v X')) := by
  refine fx_m aj_m294_at rfl (fun N => ?_)
  refine fx_mono (Q := fx_Q fx_qN (fun v X' => ∃ n : Nat, gxE_294 p1 (gxF_294 p1 n) X v X')) (fun r X' h => h) ?_
  unfold gxE_294
  show fx_W _ _ _ 0 [(0, .ref 117), (1, .int p1)] [] _ _
  obtain ⟨lv1, elv1⟩ : ∃ l : aj_V, l = [(0, .ref 117), (1, .int p1)] := ⟨_, rfl⟩
  rw [← elv1]
  have hlv1_0 : aj_lv lv1 0 = some (.ref 117) := by rw [elv1]; rfl
  have hlv1_1 : aj_lv lv1 1 = some (.int p1) := by rw [elv1]; rfl
  refine fx_i2 aj_d294 rfl (Nat.le_succ _) (fun _ => rfl) hlv1_0 ?_
  refine fx_gI aj_d294 rfl (Nat.le_succ _) rfl rfl (Or.inl rfl) ?_
  refine fx_i0 aj_d294 rfl (Nat.le_succ _) (fun _ => rfl) hlv1_1 ?_
  refine fx_b (tgt := 21) aj_d294 rfl (Nat.le_succ _) rfl (fun q2 => ?_) (fun q2 => ?_)
  · skip
    refine fx_qe (c := ((X.1 117 70)).toInt = (p1).toInt) (fx_t_ne q2) ?_
    show fx_W _ _ _ 21 lv1 [] _ _
    refine fx_i2 aj_d294 rfl (Nat.le_succ _) (fun _ => rfl) hlv1_0 ?_
    refine fx_i0 aj_d294 rfl (Nat.le_succ _) (fun _ => rfl) hlv1_1 ?_
    refine fx_pI aj_d294 rfl (Nat.le_succ _) rfl rfl (Or.inl rfl) fx_no_11_70 (by decide) ?_
    refine fx_qX (fun X3 eX3 => ?_)
    show fx_W _ _ _ 26 lv1 [] _ _
    refine fx_i2 aj_d294 rfl (Nat.le_succ _) (fun _ => rfl) hlv1_0 ?_
    refine fx_i2 aj_d294 rfl (Nat.le_succ _) (fun _ => rfl) hlv1_0 ?_
    refine fx_gL aj_d294 rfl (Nat.le_succ _) rfl rfl rfl ?_
    refine fx_pL aj_d294 rfl (Nat.le_succ _) rfl rfl rfl fx_no_11_69 (by decide) ?_
    refine fx_qX (fun X4 eX4 => ?_)
    show fx_W _ _ _ 34 lv1 [] _ _
    refine fx_i2 aj_d294 rfl (Nat.le_succ _) (fun _ => rfl) hlv1_0 ?_
    refine fx_gI aj_d294 rfl (Nat.le_succ _) rfl rfl (Or.inl rfl) ?_
    refine fx_n (pc' := 40) (lv' := lv1) (st' := [.int ((Int8.ofInt 10).toInt32), .int (X4.1 117 0)]) aj_d294 rfl (Nat.le_succ _) (fun _ => rfl) ?_
    refine fx_n (pc' := 41) (lv' := lv1) (st' := [.int ((X4.1 117 0) * ((Int8.ofInt 10).toInt32))]) aj_d294 rfl (Nat.le_succ _) (fun _ => rfl) ?_
    refine fx_i0 aj_d294 rfl (Nat.le_succ _) (fun _ => rfl) hlv1_1 ?_
    refine fx_n (pc' := 43) (lv' := lv1) (st' := [.int (((X4.1 117 0) * ((Int8.ofInt 10).toInt32)) + p1)]) aj_d294 rfl (Nat.le_succ _) (fun _ => rfl) ?_
    refine fx_qxI (fun x5 ex5 => ?_)
    refine fx_s0 (j := 2) aj_d294 rfl (Nat.le_succ _) (by decide) (fun _ => rfl) ?_
    obtain ⟨lv6, elv6⟩ : ∃ l, l = aj_set1 lv1 2 (.int x5) := ⟨_, rfl⟩
    rw [← elv6]
    have hlv6_0 : aj_lv lv6 0 = some (.ref 117) := fx_e1 elv6 hlv1_0 (by decide) (Or.inl (by decide))
    have hlv6_2 : aj_lv lv6 2 = some (.int x5) := by rw [elv6]; exact ak_set1_eq _ _ _
    show fx_W _ _ _ 44 lv6 [] _ _
    refine fx_n (pc' := 45) (lv' := lv6) (st' := [.int (Int32.ofInt 0)]) aj_d294 rfl (Nat.le_succ _) (fun _ => rfl) ?_
    refine fx_s0 (j := 3) aj_d294 rfl (Nat.le_succ _) (by decide) (fun _ => rfl) ?_
    obtain ⟨lv7, elv7⟩ : ∃ l, l = aj_set1 lv6 3 (.int (Int32.ofInt 0)) := ⟨_, rfl⟩
    rw [← elv7]
    have hlv7_0 : aj_lv lv7 0 = some (.ref 117) := fx_e1 elv7 hlv6_0 (by decide) (Or.inl (by decide))
    have hlv7_2 : aj_lv lv7 2 = some (.int x5) := fx_e1 elv7 hlv6_2 (by decide) (Or.inr rfl)
    have hlv7_3 : aj_lv lv7 3 = some (.int (Int32.ofInt 0)) := by rw [elv7]; exact ak_set1_eq _ _ _
    show fx_W _ _ _ 46 lv7 [] _ _
    refine fx_n (pc' := 47) (lv' := lv7) (st' := [.int (Int32.ofInt 0)]) aj_d294 rfl (Nat.le_succ _) (fun _ => rfl) ?_
    refine fx_s0 (j := 4) aj_d294 rfl (Nat.le_succ _) (by decide) (fun _ => rfl) ?_
    obtain ⟨lv8, elv8⟩ : ∃ l, l = aj_set1 lv7 4 (.int (Int32.ofInt 0)) := ⟨_, rfl⟩
    rw [← elv8]
    have hlv8_0 : aj_lv lv8 0 = some (.ref 117) := fx_e1 elv8 hlv7_0 (by decide) (Or.inl (by decide))
    have hlv8_2 : aj_lv lv8 2 = some (.int x5) := fx_e1 elv8 hlv7_2 (by decide) (Or.inl (by decide))
    have hlv8_3 : aj_lv lv8 3 = some (.int (Int32.ofInt 0)) := fx_e1 elv8 hlv7_3 (by decide) (Or.inr rfl)
    have hlv8_4 : aj_lv lv8 4 = some (.int (Int32.ofInt 0)) := by rw [elv8]; exact ak_set1_eq _ _ _
    show fx_W _ _ _ 49 lv8 [] _ _
    exact ((gxL_294 p1 N).1) lv8 (x5) ((Int32.ofInt 0)) ((Int32.ofInt 0)) X4  hlv8_0 hlv8_2 hlv8_3 hlv8_4
  · skip
    refine fx_qi (c := ((X.1 117 70)).toInt = (p1).toInt) (fx_f_ne q2) ?_
    show fx_W _ _ _ 8 lv1 [] _ _
    refine fx_i2 aj_d294 rfl (Nat.le_succ _) (fun _ => rfl) hlv1_0 ?_
    refine fx_gL aj_d294 rfl (Nat.le_succ _) rfl rfl rfl ?_
    refine fx_i2 aj_d294 rfl (Nat.le_succ _) (fun _ => rfl) hlv1_0 ?_
    refine fx_gL aj_d294 rfl (Nat.le_succ _) rfl rfl rfl ?_
    refine fx_n (pc' := 17) (lv' := lv1) (st' := [.int (lg_cmp (X.2.1 117 69) (X.2.1 117 68))]) aj_d294 rfl (Nat.le_succ _) (fun _ => rfl) ?_
    refine fx_b0 (tgt := 21) aj_d294 rfl (Nat.le_succ _) rfl (fun q9 => ?_) (fun q9 => ?_)
    · skip
      refine fx_qe (c := (X.2.1 117 69) = (X.2.1 117 68)) (fun z => (fx_t_ne q9) (fx_lc.mpr z)) ?_
      show fx_W _ _ _ 21 lv1 [] _ _
      refine fx_i2 aj_d294 rfl (Nat.le_succ _) (fun _ => rfl) hlv1_0 ?_
      refine fx_i0 aj_d294 rfl (Nat.le_succ _) (fun _ => rfl) hlv1_1 ?_
      refine fx_pI aj_d294 rfl (Nat.le_succ _) rfl rfl (Or.inl rfl) fx_no_11_70 (by decide) ?_
      refine fx_qX (fun X10 eX10 => ?_)
      show fx_W _ _ _ 26 lv1 [] _ _
      refine fx_i2 aj_d294 rfl (Nat.le_succ _) (fun _ => rfl) hlv1_0 ?_
      refine fx_i2 aj_d294 rfl (Nat.le_succ _) (fun _ => rfl) hlv1_0 ?_
      refine fx_gL aj_d294 rfl (Nat.le_succ _) rfl rfl rfl ?_
      refine fx_pL aj_d294 rfl (Nat.le_succ _) rfl rfl rfl fx_no_11_69 (by decide) ?_
      refine fx_qX (fun X11 eX11 => ?_)
      show fx_W _ _ _ 34 lv1 [] _ _
      refine fx_i2 aj_d294 rfl (Nat.le_succ _) (fun _ => rfl) hlv1_0 ?_
      refine fx_gI aj_d294 rfl (Nat.le_succ _) rfl rfl (Or.inl rfl) ?_
      refine fx_n (pc' := 40) (lv' := lv1) (st' := [.int ((Int8.ofInt 10).toInt32), .int (X11.1 117 0)]) aj_d294 rfl (Nat.le_succ _) (fun _ => rfl) ?_
      refine fx_n (pc' := 41) (lv' := lv1) (st' := [.int ((X11.1 117 0) * ((Int8.ofInt 10).toInt32))]) aj_d294 rfl (Nat.le_succ _) (fun _ => rfl) ?_
      refine fx_i0 aj_d294 rfl (Nat.le_succ _) (fun _ => rfl) hlv1_1 ?_
      refine fx_n (pc' := 43) (lv' := lv1) (st' := [.int (((X11.1 117 0) * ((Int8.ofInt 10).toInt32)) + p1)]) aj_d294 rfl (Nat.le_succ _) (fun _ => rfl) ?_
      refine fx_qxI (fun x12 ex12 => ?_)
      refine fx_s0 (j := 2) aj_d294 rfl (Nat.le_succ _) (by decide) (fun _ => rfl) ?_
      obtain ⟨lv13, elv13⟩ : ∃ l, l = aj_set1 lv1 2 (.int x12) := ⟨_, rfl⟩
      rw [← elv13]
      have hlv13_0 : aj_lv lv13 0 = some (.ref 117) := fx_e1 elv13 hlv1_0 (by decide) (Or.inl (by decide))
      have hlv13_2 : aj_lv lv13 2 = some (.int x12) := by rw [elv13]; exact ak_set1_eq _ _ _
      show fx_W _ _ _ 44 lv13 [] _ _
      refine fx_n (pc' := 45) (lv' := lv13) (st' := [.int (Int32.ofInt 0)]) aj_d294 rfl (Nat.le_succ _) (fun _ => rfl) ?_
      refine fx_s0 (j := 3) aj_d294 rfl (Nat.le_succ _) (by decide) (fun _ => rfl) ?_
      obtain ⟨lv14, elv14⟩ : ∃ l, l = aj_set1 lv13 3 (.int (Int32.ofInt 0)) := ⟨_, rfl⟩
      rw [← elv14]
      have hlv14_0 : aj_lv lv14 0 = some (.ref 117) := fx_e1 elv14 hlv13_0 (by decide) (Or.inl (by decide))
      have hlv14_2 : aj_lv lv14 2 = some (.int x12) := fx_e1 elv14 hlv13_2 (by decide) (Or.inr rfl)
      have hlv14_3 : aj_lv lv14 3 = some (.int (Int32.ofInt 0)) := by rw [elv14]; exact ak_set1_eq _ _ _
      show fx_W _ _ _ 46 lv14 [] _ _
      refine fx_n (pc' := 47) (lv' := lv14) (st' := [.int (Int32.ofInt 0)]) aj_d294 rfl (Nat.le_succ _) (fun _ => rfl) ?_
      refine fx_s0 (j := 4) aj_d294 rfl (Nat.le_succ _) (by decide) (fun _ => rfl) ?_
      obtain ⟨lv15, elv15⟩ : ∃ l, l = aj_set1 lv14 4 (.int (Int32.ofInt 0)) := ⟨_, rfl⟩
      rw [← elv15]
      have hlv15_0 : aj_lv lv15 0 = some (.ref 117) := fx_e1 elv15 hlv14_0 (by decide) (Or.inl (by decide))
      have hlv15_2 : aj_lv lv15 2 = some (.int x12) := fx_e1 elv15 hlv14_2 (by decide) (Or.inl (by decide))
      have hlv15_3 : aj_lv lv15 3 = some (.int (Int32.ofInt 0)) := fx_e1 elv15 hlv14_3 (by decide) (Or.inr rfl)
      have hlv15_4 : aj_lv lv15 4 = some (.int (Int32.ofInt 0)) := by rw [elv15]; exact ak_set1_eq _ _ _
      show fx_W _ _ _ 49 lv15 [] _ _
      exact ((gxL_294 p1 N).1) lv15 (x12) ((Int32.ofInt 0)) ((Int32.ofInt 0)) X11  hlv15_0 hlv15_2 hlv15_3 hlv15_4
    · skip
      refine fx_qi (c := (X.2.1 117 69) = (X.2.1 117 68)) (fx_lc.mp (fx_f_ne q9)) ?_
      show fx_W _ _ _ 20 lv1 [] _ _
      exact fx_rn aj_d294 rfl ⟨(), rfl, 0, rfl⟩
def gxT_293_3 (p1 : Int32) (p2 : Int32) (p3 : Int32) (p4 : Int32) (P : Nat → List Int32 → List Int64 → List Nat → fx_X → Int32 → fx_X → Prop) (y5 : Int32) (X : fx_X) (v : Int32) (X' : fx_X) : Prop :=
  (0 ≤ (p1).toInt ∧ (p1).toInt < ((50 : Nat) : Int)) ∧ (if (y5).toInt < ((X.1 131 (p1).toInt.toNat)).toInt then (∃ (w8 : Int32) (X7 : fx_X), gx_225 p1 y5 X w8 X7 ∧ ∃ (w10 : Int32) (X9 : fx_X), gx_227 136 w8 p4 X7 w10 X9 ∧ (if (w10).toInt = 0 then (∃ x12 : Int32, x12 = y5 + Int32.ofInt 1 ∧ P 3 [x12] [] [] X9 v X') else (∃ (w15 : Int32) (X14 : fx_X), gx_267 p1 p2 y5 p3 p4 X9 w15 X14 ∧ (if (w15).toInt = 0 then (v = (Int32.ofInt 1) ∧ X' = X14) else (∃ x17 : Int32, x17 = y5 + Int32.ofInt 1 ∧ P 3 [x17] [] [] X14 v X'))))) else (v = (Int32.ofInt 0) ∧ X' = X))
def gxE_293 (p1 : Int32) (p2 : Int32) (p3 : Int32) (p4 : Int32) (P : Nat → List Int32 → List Int64 → List Nat → fx_X → Int32 → fx_X → Prop) (X : fx_X) (v : Int32) (X' : fx_X) : Prop :=
  P 3 [(Int32.ofInt 0)] [] [] X v X'
noncomputable def gxF_293 (p1 : Int32) (p2 : Int32) (p3 : Int32) (p4 : Int32) (n : Nat) : Nat → List Int32 → List Int64 → List Nat → fx_X → Int32 → fx_X → Prop := Nat.rec (motive := fun _ => Nat → List Int32 → List Int64 → List Nat → fx_X → Int32 → fx_X → Prop) (fun _ _ _ _ _ _ _ => False) (fun _ P l is ls rs X v X' => (l = 3 ∧ ∃ (y5 : Int32), is = [y5] ∧ ls = [] ∧ rs = [] ∧ gxT_293_3 p1 p2 p3 p4 P y5 X v X')) n
theorem gxI_293_3 {p1 : Int32} {p2 : Int32} {p3 : Int32} {p4 : Int32} {n : Nat} {y5 : Int32} {X : fx_X} {v : Int32} {X' : fx_X} (h : gxT_293_3 p1 p2 p3 p4 (gxF_293 p1 p2 p3 p4 n) y5 X v X') : gxF_293 p1 p2 p3 p4 (n + 1) 3 [y5] [] [] X v X' := ⟨rfl, y5, rfl, rfl, rfl, h⟩
theorem gxO_293_3 {p1 : Int32} {p2 : Int32} {p3 : Int32} {p4 : Int32} {n : Nat} {y5 : Int32} {X : fx_X} {v : Int32} {X' : fx_X} (h : gxF_293 p1 p2 p3 p4 (n + 1) 3 [y5] [] [] X v X') : gxT_293_3 p1 p2 p3 p4 (gxF_293 p1 p2 p3 p4 n) y5 X v X' := by
  rcases h with ⟨-, _, e1, e2, e3, h⟩
  · cases e1; cases e2; cases e3; exact h
def gx_293 (p1 : Int32) (p2 : Int32) (p3 : Int32) (p4 : Int32) (X : fx_X) (v : Int32) (X' : fx_X) : Prop := ∃ n : Nat, gxE_293 p1 p2 p3 p4 (gxF_293 p1 p2 p3 p4 n) X v X'
theorem gxL_293 {tb : aj_T} (p1 : Int32) (p2 : Int32) (p3 : Int32) (p4 : Int32) : ∀ N : Nat, (∀ (lv : aj_V) (y5 : Int32) (X : fx_X), aj_lv lv 0 = some (.ref 117) → aj_lv lv 1 = some (.int p1) → aj_lv lv 2 = some (.int p2) → aj_lv lv 3 = some (.int p3) → aj_lv lv 4 = some (.int p4) → aj_lv lv 5 = some (.int y5) → fx_W tb aj_m293 N 3 lv [] X (fx_Q fx_qI (fun v X' => ∃ n : Nat, gxF_293 p1 p2 p3 p4 n 3 [y5] [] [] X v X'))) := by
  intro N
  induction N with
  | zero => exact (by intros; exact fx_z)
  | succ N ih =>
    skip
    · intro lv y5 X hlv_0 hlv_1 hlv_2 hlv_3 hlv_4 hlv_5
      refine fx_mono (Q := fx_Q fx_qI (fun v X' => ∃ n : Nat, gxT_293_3 p1 p2 p3 p4 (gxF_293 p1 p2 p3 p4 n) y5 X v X')) (fun r X' ⟨v, e, n, z⟩ => ⟨v, e, n + 1, gxI_293_3 z⟩) ?_
      unfold gxT_293_3
      refine fx_i0 aj_d293 rfl (Nat.le_refl _) (fun _ => rfl) hlv_5 ?_
      refine fx_i2 aj_d293 rfl (Nat.le_succ _) (fun _ => rfl) hlv_0 ?_
      refine fx_gF aj_d293 rfl (Nat.le_succ _) rfl rfl fx_in_11_15 (t := 131) rfl (fun hA3 => ?_)
      refine fx_i0 aj_d293 rfl (Nat.le_succ _) (fun _ => rfl) hlv_1 ?_
      refine fx_ld aj_d293 (Or.inl rfl) rfl (Nat.le_succ _) (fun g40 g41 => ?_)
      show fx_W _ _ _ 11 lv [.int (X.1 131 (p1).toInt.toNat), .int y5] _ _
      refine fx_qa (c := 0 ≤ (p1).toInt ∧ (p1).toInt < ((50 : Nat) : Int)) ⟨g40, fx_lnk g41 hA3⟩ ?_
      refine fx_b (tgt := 55) aj_d293 rfl (Nat.le_succ _) rfl (fun q5 => ?_) (fun q5 => ?_)
      · skip
        refine fx_qe (c := (y5).toInt < ((X.1 131 (p1).toInt.toNat)).toInt) (fx_t_ge q5) ?_
        show fx_W _ _ _ 55 lv [] _ _
        refine fx_n (pc' := 56) (lv' := lv) (st' := [.int (Int32.ofInt 0)]) aj_d293 rfl (Nat.le_succ _) (fun _ => rfl) ?_
        exact fx_ri aj_d293 rfl ⟨_, rfl, 0, rfl, rfl⟩
      · skip
        refine fx_qi (c := (y5).toInt < ((X.1 131 (p1).toInt.toNat)).toInt) (fx_f_ge q5) ?_
        show fx_W _ _ _ 14 lv [] _ _
        refine fx_i2 aj_d293 rfl (Nat.le_succ _) (fun _ => rfl) hlv_0 ?_
        refine fx_gF aj_d293 rfl (Nat.le_succ _) rfl rfl fx_in_11_20 (t := 136) rfl (fun hA6 => ?_)
        refine fx_i2 aj_d293 rfl (Nat.le_succ _) (fun _ => rfl) hlv_0 ?_
        refine fx_i0 aj_d293 rfl (Nat.le_succ _) (fun _ => rfl) hlv_1 ?_
        refine fx_i0 aj_d293 rfl (Nat.le_succ _) (fun _ => rfl) hlv_5 ?_
        refine fx_cv aj_d293 rfl (Nat.le_succ _) rfl [_, _] rfl rfl (gx_225_ok p1 y5) ?_
        rintro _ X7 ⟨w8, rfl, hR7⟩ hok7 hle7
        refine fx_qc hR7 ?_
        show fx_W _ _ _ 25 lv [.int w8, .ref 136] _ _
        refine fx_i0 aj_d293 rfl (Nat.le_succ _) (fun _ => rfl) hlv_4 ?_
        refine fx_cs aj_d293 rfl (Nat.le_succ _) rfl rfl [_, _, _] rfl rfl (gx_227_ok 136 w8 p4) ?_
        rintro _ X9 ⟨w10, rfl, hR9⟩ hok9 hle9
        refine fx_qc hR9 ?_
        show fx_W _ _ _ 30 lv [.int w10] _ _
        refine fx_b0 (tgt := 49) aj_d293 rfl (Nat.le_succ _) rfl (fun q11 => ?_) (fun q11 => ?_)
        · skip
          refine fx_qi (c := (w10).toInt = 0) (fx_t_eq q11) ?_
          show fx_W _ _ _ 49 lv [] _ _
          refine fx_incq aj_d293 rfl (Nat.le_succ _) hlv_5 (by decide) (fun x12 ex12 => ?_)
          obtain ⟨lv13, elv13⟩ : ∃ l, l = aj_set1 lv 5 (.int x12) := ⟨_, rfl⟩
          rw [← elv13]
          have hlv13_0 : aj_lv lv13 0 = some (.ref 117) := fx_e1 elv13 hlv_0 (by decide) (Or.inl (by decide))
          have hlv13_1 : aj_lv lv13 1 = some (.int p1) := fx_e1 elv13 hlv_1 (by decide) (Or.inl (by decide))
          have hlv13_2 : aj_lv lv13 2 = some (.int p2) := fx_e1 elv13 hlv_2 (by decide) (Or.inl (by decide))
          have hlv13_3 : aj_lv lv13 3 = some (.int p3) := fx_e1 elv13 hlv_3 (by decide) (Or.inl (by decide))
          have hlv13_4 : aj_lv lv13 4 = some (.int p4) := fx_e1 elv13 hlv_4 (by decide) (Or.inr rfl)
          have hlv13_5 : aj_lv lv13 5 = some (.int x12) := by rw [elv13]; exact ak_set1_eq _ _ _
          show fx_W _ _ _ 52 lv13 [] _ _
          refine fx_n (pc' := 3) (lv' := lv13) (st' := []) aj_d293 rfl (Nat.le_succ _) (fun _ => rfl) ?_
          exact (ih) lv13 (x12) X9  hlv13_0 hlv13_1 hlv13_2 hlv13_3 hlv13_4 hlv13_5
        · skip
          refine fx_qe (c := (w10).toInt = 0) (fx_f_eq q11) ?_
          show fx_W _ _ _ 33 lv [] _ _
          refine fx_i2 aj_d293 rfl (Nat.le_succ _) (fun _ => rfl) hlv_0 ?_
          refine fx_i0 aj_d293 rfl (Nat.le_succ _) (fun _ => rfl) hlv_1 ?_
          refine fx_i0 aj_d293 rfl (Nat.le_succ _) (fun _ => rfl) hlv_2 ?_
          refine fx_i0 aj_d293 rfl (Nat.le_succ _) (fun _ => rfl) hlv_5 ?_
          refine fx_i0 aj_d293 rfl (Nat.le_succ _) (fun _ => rfl) hlv_3 ?_
          refine fx_i0 aj_d293 rfl (Nat.le_succ _) (fun _ => rfl) hlv_4 ?_
          refine fx_cv aj_d293 rfl (Nat.le_succ _) rfl [_, _, _, _, _] rfl rfl (gx_267_ok p1 p2 y5 p3 p4) ?_
          rintro _ X14 ⟨w15, rfl, hR14⟩ hok14 hle14
          refine fx_qc hR14 ?_
          show fx_W _ _ _ 44 lv [.int w15] _ _
          refine fx_b0 (tgt := 49) aj_d293 rfl (Nat.le_succ _) rfl (fun q16 => ?_) (fun q16 => ?_)
          · skip
            refine fx_qe (c := (w15).toInt = 0) (fx_t_ne q16) ?_
            show fx_W _ _ _ 49 lv [] _ _
            refine fx_incq aj_d293 rfl (Nat.le_succ _) hlv_5 (by decide) (fun x17 ex17 => ?_)
            obtain ⟨lv18, elv18⟩ : ∃ l, l = aj_set1 lv 5 (.int x17) := ⟨_, rfl⟩
            rw [← elv18]
            have hlv18_0 : aj_lv lv18 0 = some (.ref 117) := fx_e1 elv18 hlv_0 (by decide) (Or.inl (by decide))
            have hlv18_1 : aj_lv lv18 1 = some (.int p1) := fx_e1 elv18 hlv_1 (by decide) (Or.inl (by decide))
            have hlv18_2 : aj_lv lv18 2 = some (.int p2) := fx_e1 elv18 hlv_2 (by decide) (Or.inl (by decide))
            have hlv18_3 : aj_lv lv18 3 = some (.int p3) := fx_e1 elv18 hlv_3 (by decide) (Or.inl (by decide))
            have hlv18_4 : aj_lv lv18 4 = some (.int p4) := fx_e1 elv18 hlv_4 (by decide) (Or.inr rfl)
            have hlv18_5 : aj_lv lv18 5 = some (.int x17) := by rw [elv18]; exact ak_set1_eq _ _ _
            show fx_W _ _ _ 52 lv18 [] _ _
            refine fx_n (pc' := 3) (lv' := lv18) (st' := []) aj_d293 rfl (Nat.le_succ _) (fun _ => rfl) ?_
            exact (ih) lv18 (x17) X14  hlv18_0 hlv18_1 hlv18_2 hlv18_3 hlv18_4 hlv18_5
          · skip
            refine fx_qi (c := (w15).toInt = 0) (fx_f_ne q16) ?_
            show fx_W _ _ _ 47 lv [] _ _
            refine fx_n (pc' := 48) (lv' := lv) (st' := [.int (Int32.ofInt 1)]) aj_d293 rfl (Nat.le_succ _) (fun _ => rfl) ?_
            exact fx_ri aj_d293 rfl ⟨_, rfl, 0, rfl, rfl⟩
theorem gx_293_ok {tb : aj_T} (p1 : Int32) (p2 : Int32) (p3 : Int32) (p4 : Int32) {X : fx_X} : fx_K tb 293 [.ref 117, .int p1, .int p2, .int p3, .int p4] X (fx_Q fx_qI (fun v X' => gx_293 p1 p2 p3 p4 X v X')) := by
  refine fx_m aj_m293_at rfl (fun N => ?_)
  refine fx_mono (Q := fx_Q fx_qI (fun v X' => ∃ n : Nat, gxE_293 p1 p2 p3 p4 (gxF_293 p1 p2 p3 p4 n) X v X')) (fun r X' h => h) ?_
  unfold gxE_293
  show fx_W _ _ _ 0 [(0, .ref 117), (1, .int p1), (2, .int p2), (3, .int p3), (4, .int p4)] [] _ _
  obtain ⟨lv1, elv1⟩ : ∃ l : aj_V, l = [(0, .ref 117), (1, .int p1), (2, .int p2), (3, .int p3), (4, .int p4)] := ⟨_, rfl⟩
  rw [← elv1]
  have hlv1_0 : aj_lv lv1 0 = some (.ref 117) := by rw [elv1]; rfl
  have hlv1_1 : aj_lv lv1 1 = some (.int p1) := by rw [elv1]; rfl
  have hlv1_2 : aj_lv lv1 2 = some (.int p2) := by rw [elv1]; rfl
  have hlv1_3 : aj_lv lv1 3 = some (.int p3) := by rw [elv1]; rfl
  have hlv1_4 : aj_lv lv1 4 = some (.int p4) := by rw [elv1]; rfl
  refine fx_n (pc' := 1) (lv' := lv1) (st' := [.int (Int32.ofInt 0)]) aj_d293 rfl (Nat.le_succ _) (fun _ => rfl) ?_
  refine fx_s0 (j := 5) aj_d293 rfl (Nat.le_succ _) (by decide) (fun _ => rfl) ?_
  obtain ⟨lv2, elv2⟩ : ∃ l, l = aj_set1 lv1 5 (.int (Int32.ofInt 0)) := ⟨_, rfl⟩
  rw [← elv2]
  have hlv2_0 : aj_lv lv2 0 = some (.ref 117) := fx_e1 elv2 hlv1_0 (by decide) (Or.inl (by decide))
  have hlv2_1 : aj_lv lv2 1 = some (.int p1) := fx_e1 elv2 hlv1_1 (by decide) (Or.inl (by decide))
  have hlv2_2 : aj_lv lv2 2 = some (.int p2) := fx_e1 elv2 hlv1_2 (by decide) (Or.inl (by decide))
  have hlv2_3 : aj_lv lv2 3 = some (.int p3) := fx_e1 elv2 hlv1_3 (by decide) (Or.inl (by decide))
  have hlv2_4 : aj_lv lv2 4 = some (.int p4) := fx_e1 elv2 hlv1_4 (by decide) (Or.inr rfl)
  have hlv2_5 : aj_lv lv2 5 = some (.int (Int32.ofInt 0)) := by rw [elv2]; exact ak_set1_eq _ _ _
  show fx_W _ _ _ 3 lv2 [] _ _
  exact ((gxL_293 p1 p2 p3 p4 N)) lv2 ((Int32.ofInt 0)) X  hlv2_0 hlv2_1 hlv2_2 hlv2_3 hlv2_4 hlv2_5
def gxT_292_30 (p1 : Int32) (P : Nat → List Int32 → List Int64 → List Nat → fx_X → Unit → fx_X → Prop) (y2 : Int32) (y3 : Int32) (X : fx_X) (v : Unit) (X' : fx_X) : Prop :=
  (if (y3).toInt < (y2).toInt then (P 41 [y2, y3, (Int32.ofInt 1), (Int32.ofInt 0)] [] [] X v X') else (X' = X))
def gxT_292_41 (p1 : Int32) (P : Nat → List Int32 → List Int64 → List Nat → fx_X → Unit → fx_X → Prop) (y2 : Int32) (y3 : Int32) (y4 : Int32) (y5 : Int32) (X : fx_X) (v : Unit) (X' : fx_X) : Prop :=
  (0 ≤ ((X.1 117 0)).toInt ∧ ((X.1 117 0)).toInt < ((2 : Nat) : Int)) ∧ (if (y5).toInt < ((X.1 122 ((X.1 117 0)).toInt.toNat)).toInt then ((if (y4).toInt = 0 then ((if (y4).toInt = 0 then (∃ x30 : Int32, x30 = y3 + Int32.ofInt 1 ∧ P 30 [y2, x30] [] [] X v X') else ((0 ≤ (y3).toInt ∧ (y3).toInt < ((30 : Nat) : Int)) ∧ (0 ≤ ((X.1 117 65)).toInt ∧ ((X.1 117 65)).toInt < ((30 : Nat) : Int)) ∧ ∃ X36 : fx_X, X36 = (fx_wI X 147 ((X.1 117 65)).toInt.toNat (X.1 143 (y3).toInt.toNat)) ∧ ∃ X37 : fx_X, X37 = (fx_wI X36 117 65 ((X36.1 117 65) + (Int32.ofInt 1))) ∧ ∃ x38 : Int32, x38 = y3 + Int32.ofInt 1 ∧ P 30 [y2, x38] [] [] X37 v X'))) else (∃ (w41 : Int32) (X40 : fx_X), gx_247 (X.1 117 0) y5 X w41 X40 ∧ (if (w41).toInt = 0 then (∃ x44 : Int32, x44 = y5 + Int32.ofInt 1 ∧ P 41 [y2, y3, (Int32.ofInt 1), x44] [] [] X40 v X') else ((0 ≤ (y3).toInt ∧ (y3).toInt < ((30 : Nat) : Int)) ∧ ∃ (w49 : Int32) (X48 : fx_X), gx_293 p1 (X40.1 143 (y3).toInt.toNat) (X40.1 117 64) y5 X40 w49 X48 ∧ (if (w49).toInt = 0 then (∃ x52 : Int32, x52 = y5 + Int32.ofInt 1 ∧ P 41 [y2, y3, (Int32.ofInt 0), x52] [] [] X48 v X') else (∃ x55 : Int32, x55 = y5 + Int32.ofInt 1 ∧ P 41 [y2, y3, (Int32.ofInt 1), x55] [] [] X48 v X'))))))) else ((if (y4).toInt = 0 then (∃ x18 : Int32, x18 = y3 + Int32.ofInt 1 ∧ P 30 [y2, x18] [] [] X v X') else ((0 ≤ (y3).toInt ∧ (y3).toInt < ((30 : Nat) : Int)) ∧ (0 ≤ ((X.1 117 65)).toInt ∧ ((X.1 117 65)).toInt < ((30 : Nat) : Int)) ∧ ∃ X24 : fx_X, X24 = (fx_wI X 147 ((X.1 117 65)).toInt.toNat (X.1 143 (y3).toInt.toNat)) ∧ ∃ X25 : fx_X, X25 = (fx_wI X24 117 65 ((X24.1 117 65) + (Int32.ofInt 1))) ∧ ∃ x26 : Int32, x26 = y3 + Int32.ofInt 1 ∧ P 30 [y2, x26] [] [] X25 v X'))))
def gxE_292 (p1 : Int32) (P : Nat → List Int32 → List Int64 → List Nat → fx_X → Unit → fx_X → Prop) (X : fx_X) (v : Unit) (X' : fx_X) : Prop :=
  ∃ (w3 : Int32) (X2 : fx_X), gx_289 (Int32.ofInt 0) X w3 X2 ∧ ∃ X4 : fx_X, X4 = (fx_wI X2 117 64 w3) ∧ ∃ X5 : fx_X, X5 = (fx_wI X4 117 65 (Int32.ofInt 0)) ∧ ∃ (w7 : Unit) (X6 : fx_X), gx_266 p1 (X5.1 117 64) X5 w7 X6 ∧ ∃ x8 : Int32, x8 = (X6.1 117 58) ∧ P 30 [x8, (Int32.ofInt 0)] [] [] X6 v X'
noncomputable def gxF_292 (p1 : Int32) (n : Nat) : Nat → List Int32 → List Int64 → List Nat → fx_X → Unit → fx_X → Prop := Nat.rec (motive := fun _ => Nat → List Int32 → List Int64 → List Nat → fx_X → Unit → fx_X → Prop) (fun _ _ _ _ _ _ _ => False) (fun _ P l is ls rs X v X' => (l = 30 ∧ ∃ (y2 : Int32) (y3 : Int32), is = [y2, y3] ∧ ls = [] ∧ rs = [] ∧ gxT_292_30 p1 P y2 y3 X v X') ∨ (l = 41 ∧ ∃ (y2 : Int32) (y3 : Int32) (y4 : Int32) (y5 : Int32), is = [y2, y3, y4, y5] ∧ ls = [] ∧ rs = [] ∧ gxT_292_41 p1 P y2 y3 y4 y5 X v X')) n
theorem gxI_292_30 {p1 : Int32} {n : Nat} {y2 : Int32} {y3 : Int32} {X : fx_X} {v : Unit} {X' : fx_X} (h : gxT_292_30 p1 (gxF_292 p1 n) y2 y3 X v X') : gxF_292 p1 (n + 1) 30 [y2, y3] [] [] X v X' := Or.inl ⟨rfl, y2, y3, rfl, rfl, rfl, h⟩
theorem gxO_292_30 {p1 : Int32} {n : Nat} {y2 : Int32} {y3 : Int32} {X : fx_X} {v : Unit} {X' : fx_X} (h : gxF_292 p1 (n + 1) 30 [y2, y3] [] [] X v X') : gxT_292_30 p1 (gxF_292 p1 n) y2 y3 X v X' := by
  rcases h with ⟨-, _, _, e1, e2, e3, h⟩ | ⟨e, -⟩
  · cases e1; cases e2; cases e3; exact h
  · exact absurd e (by decide)
theorem gxI_292_41 {p1 : Int32} {n : Nat} {y2 : Int32} {y3 : Int32} {y4 : Int32} {y5 : Int32} {X : fx_X} {v : Unit} {X' : fx_X} (h : gxT_292_41 p1 (gxF_292 p1 n) y2 y3 y4 y5 X v X') : gxF_292 p1 (n + 1) 41 [y2, y3, y4, y5] [] [] X v X' := Or.inr (⟨rfl, y2, y3, y4, y5, rfl, rfl, rfl, h⟩)
theorem gxO_292_41 {p1 : Int32} {n : Nat} {y2 : Int32} {y3 : Int32} {y4 : Int32} {y5 : Int32} {X : fx_X} {v : Unit} {X' : fx_X} (h : gxF_292 p1 (n + 1) 41 [y2, y3, y4, y5] [] [] X v X') : gxT_292_41 p1 (gxF_292 p1 n) y2 y3 y4 y5 X v X' := by
  rcases h with ⟨e, -⟩ | ⟨-, _, _, _, _, e1, e2, e3, h⟩
  · exact absurd e (by decide)
  · cases e1; cases e2; cases e3; exact h
def gx_292 (p1 : Int32) (X : fx_X) (v : Unit) (X' : fx_X) : Prop := ∃ n : Nat, gxE_292 p1 (gxF_292 p1 n) X v X'
theorem gxL_292 {tb : aj_T} (p1 : Int32) : ∀ N : Nat, (∀ (lv : aj_V) (y2 : Int32) (y3 : Int32) (X : fx_X), aj_lv lv 0 = some (.ref 117) → aj_lv lv 1 = some (.int p1) → aj_lv lv 2 = some (.int y2) → aj_lv lv 3 = some (.int y3) → fx_W tb aj_m292 N 30 lv [] X (fx_Q fx_qN (fun v X' => ∃ n : Nat, gxF_292 p1 n 30 [y2, y3] [] [] X v X'))) ∧ (∀ (lv : aj_V) (y2 : Int32) (y3 : Int32) (y4 : Int32) (y5 : Int32) (X : fx_X), aj_lv lv 0 = some (.ref 117) → aj_lv lv 1 = some (.int p1) → aj_lv lv 2 = some (.int y2) → aj_lv lv 3 = some (.int y3) → aj_lv lv 4 = some (.int y4) → aj_lv lv 5 = some (.int y5) → fx_W tb aj_m292 N 41 lv [] X (fx_Q fx_qN (fun v X' => ∃ n : Nat, gxF_292 p1 n 41 [y2, y3, y4, y5] [] [] X v X'))) := by
  intro N
  induction N with
  | zero => exact ⟨(by intros; exact fx_z), (by intros; exact fx_z)⟩
  | succ N ih =>
    refine ⟨?_, ?_⟩
    · intro lv y2 y3 X hlv_0 hlv_1 hlv_2 hlv_3
      refine fx_mono (Q := fx_Q fx_qN (fun v X' => ∃ n : Nat, gxT_292_30 p1 (gxF_292 p1 n) y2 y3 X v X')) (fun r X' ⟨v, e, n, z⟩ => ⟨v, e, n + 1, gxI_292_30 z⟩) ?_
      unfold gxT_292_30
      refine fx_i0 aj_d292 rfl (Nat.le_refl _) (fun _ => rfl) hlv_3 ?_
      refine fx_i0 aj_d292 rfl (Nat.le_succ _) (fun _ => rfl) hlv_2 ?_
      refine fx_b (tgt := 142) aj_d292 rfl (Nat.le_succ _) rfl (fun q11 => ?_) (fun q11 => ?_)
      · skip
        refine fx_qe (c := (y3).toInt < (y2).toInt) (fx_t_ge q11) ?_
        show fx_W _ _ _ 142 lv [] _ _
        exact fx_rn aj_d292 rfl ⟨(), rfl, 0, rfl⟩
      · skip
        refine fx_qi (c := (y3).toInt < (y2).toInt) (fx_f_ge q11) ?_
        show fx_W _ _ _ 35 lv [] _ _
        refine fx_n (pc' := 36) (lv' := lv) (st' := [.int (Int32.ofInt 1)]) aj_d292 rfl (Nat.le_succ _) (fun _ => rfl) ?_
        refine fx_s0 (j := 4) aj_d292 rfl (Nat.le_succ _) (by decide) (fun _ => rfl) ?_
        obtain ⟨lv12, elv12⟩ : ∃ l, l = aj_set1 lv 4 (.int (Int32.ofInt 1)) := ⟨_, rfl⟩
        rw [← elv12]
        have hlv12_0 : aj_lv lv12 0 = some (.ref 117) := fx_e1 elv12 hlv_0 (by decide) (Or.inl (by decide))
        have hlv12_1 : aj_lv lv12 1 = some (.int p1) := fx_e1 elv12 hlv_1 (by decide) (Or.inl (by decide))
        have hlv12_2 : aj_lv lv12 2 = some (.int y2) := fx_e1 elv12 hlv_2 (by decide) (Or.inl (by decide))
        have hlv12_3 : aj_lv lv12 3 = some (.int y3) := fx_e1 elv12 hlv_3 (by decide) (Or.inr rfl)
        have hlv12_4 : aj_lv lv12 4 = some (.int (Int32.ofInt 1)) := by rw [elv12]; exact ak_set1_eq _ _ _
        show fx_W _ _ _ 38 lv12 [] _ _
        refine fx_n (pc' := 39) (lv' := lv12) (st' := [.int (Int32.ofInt 0)]) aj_d292 rfl (Nat.le_succ _) (fun _ => rfl) ?_
        refine fx_s0 (j := 5) aj_d292 rfl (Nat.le_succ _) (by decide) (fun _ => rfl) ?_
        obtain ⟨lv13, elv13⟩ : ∃ l, l = aj_set1 lv12 5 (.int (Int32.ofInt 0)) := ⟨_, rfl⟩
        rw [← elv13]
        have hlv13_0 : aj_lv lv13 0 = some (.ref 117) := fx_e1 elv13 hlv12_0 (by decide) (Or.inl (by decide))
        have hlv13_1 : aj_lv lv13 1 = some (.int p1) := fx_e1 elv13 hlv12_1 (by decide) (Or.inl (by decide))
        have hlv13_2 : aj_lv lv13 2 = some (.int y2) := fx_e1 elv13 hlv12_2 (by decide) (Or.inl (by decide))
        have hlv13_3 : aj_lv lv13 3 = some (.int y3) := fx_e1 elv13 hlv12_3 (by decide) (Or.inl (by decide))
        have hlv13_4 : aj_lv lv13 4 = some (.int (Int32.ofInt 1)) := fx_e1 elv13 hlv12_4 (by decide) (Or.inr rfl)
        have hlv13_5 : aj_lv lv13 5 = some (.int (Int32.ofInt 0)) := by rw [elv13]; exact ak_set1_eq _ _ _
        show fx_W _ _ _ 41 lv13 [] _ _
        exact (ih.2) lv13 (y2) (y3) ((Int32.ofInt 1)) ((Int32.ofInt 0)) X  hlv13_0 hlv13_1 hlv13_2 hlv13_3 hlv13_4 hlv13_5
    · intro lv y2 y3 y4 y5 X hlv_0 hlv_1 hlv_2 hlv_3 hlv_4 hlv_5
      refine fx_mono (Q := fx_Q fx_qN (fun v X' => ∃ n : Nat, gxT_292_41 p1 (gxF_292 p1 n) y2 y3 y4 y5 X v X')) (fun r X' ⟨v, e, n, z⟩ => ⟨v, e, n + 1, gxI_292_41 z⟩) ?_
      unfold gxT_292_41
      refine fx_i0 aj_d292 rfl (Nat.le_refl _) (fun _ => rfl) hlv_5 ?_
      refine fx_i2 aj_d292 rfl (Nat.le_succ _) (fun _ => rfl) hlv_0 ?_
      refine fx_gF aj_d292 rfl (Nat.le_succ _) rfl rfl fx_in_11_5 (t := 122) rfl (fun hA14 => ?_)
      refine fx_i2 aj_d292 rfl (Nat.le_succ _) (fun _ => rfl) hlv_0 ?_
      refine fx_gI aj_d292 rfl (Nat.le_succ _) rfl rfl (Or.inl rfl) ?_
      refine fx_ld aj_d292 (Or.inl rfl) rfl (Nat.le_succ _) (fun g150 g151 => ?_)
      show fx_W _ _ _ 52 lv [.int (X.1 122 ((X.1 117 0)).toInt.toNat), .int y5] _ _
      refine fx_qa (c := 0 ≤ ((X.1 117 0)).toInt ∧ ((X.1 117 0)).toInt < ((2 : Nat) : Int)) ⟨g150, fx_lnk g151 hA14⟩ ?_
      refine fx_b (tgt := 106) aj_d292 rfl (Nat.le_succ _) rfl (fun q16 => ?_) (fun q16 => ?_)
      · skip
        refine fx_qe (c := (y5).toInt < ((X.1 122 ((X.1 117 0)).toInt.toNat)).toInt) (fx_t_ge q16) ?_
        show fx_W _ _ _ 106 lv [] _ _
        refine fx_i0 aj_d292 rfl (Nat.le_succ _) (fun _ => rfl) hlv_4 ?_
        refine fx_b0 (tgt := 136) aj_d292 rfl (Nat.le_succ _) rfl (fun q17 => ?_) (fun q17 => ?_)
        · skip
          refine fx_qi (c := (y4).toInt = 0) (fx_t_eq q17) ?_
          show fx_W _ _ _ 136 lv [] _ _
          refine fx_incq aj_d292 rfl (Nat.le_succ _) hlv_3 (by decide) (fun x18 ex18 => ?_)
          obtain ⟨lv19, elv19⟩ : ∃ l, l = aj_set1 lv 3 (.int x18) := ⟨_, rfl⟩
          rw [← elv19]
          have hlv19_0 : aj_lv lv19 0 = some (.ref 117) := fx_e1 elv19 hlv_0 (by decide) (Or.inl (by decide))
          have hlv19_1 : aj_lv lv19 1 = some (.int p1) := fx_e1 elv19 hlv_1 (by decide) (Or.inl (by decide))
          have hlv19_2 : aj_lv lv19 2 = some (.int y2) := fx_e1 elv19 hlv_2 (by decide) (Or.inr rfl)
          have hlv19_3 : aj_lv lv19 3 = some (.int x18) := by rw [elv19]; exact ak_set1_eq _ _ _
          show fx_W _ _ _ 139 lv19 [] _ _
          refine fx_n (pc' := 30) (lv' := lv19) (st' := []) aj_d292 rfl (Nat.le_succ _) (fun _ => rfl) ?_
          exact (ih.1) lv19 (y2) (x18) X  hlv19_0 hlv19_1 hlv19_2 hlv19_3
        · skip
          refine fx_qe (c := (y4).toInt = 0) (fx_f_eq q17) ?_
          show fx_W _ _ _ 111 lv [] _ _
          refine fx_i2 aj_d292 rfl (Nat.le_succ _) (fun _ => rfl) hlv_0 ?_
          refine fx_gF aj_d292 rfl (Nat.le_succ _) rfl rfl fx_in_11_63 (t := 147) rfl (fun hA20 => ?_)
          refine fx_i2 aj_d292 rfl (Nat.le_succ _) (fun _ => rfl) hlv_0 ?_
          refine fx_gI aj_d292 rfl (Nat.le_succ _) rfl rfl (Or.inl rfl) ?_
          refine fx_i2 aj_d292 rfl (Nat.le_succ _) (fun _ => rfl) hlv_0 ?_
          refine fx_gF aj_d292 rfl (Nat.le_succ _) rfl rfl fx_in_11_57 (t := 143) rfl (fun hA21 => ?_)
          refine fx_i0 aj_d292 rfl (Nat.le_succ _) (fun _ => rfl) hlv_3 ?_
          refine fx_ld aj_d292 (Or.inl rfl) rfl (Nat.le_succ _) (fun g220 g221 => ?_)
          show fx_W _ _ _ 125 lv [.int (X.1 143 (y3).toInt.toNat), .int (X.1 117 65), .ref 147] _ _
          refine fx_qa (c := 0 ≤ (y3).toInt ∧ (y3).toInt < ((30 : Nat) : Int)) ⟨g220, fx_lnk g221 hA21⟩ ?_
          refine fx_st aj_d292 (Or.inl ⟨rfl, rfl⟩) rfl (Nat.le_succ _) (fun g230 g231 => ?_)
          show fx_W _ _ _ _ _ _ (fx_wI X 147 ((X.1 117 65)).toInt.toNat (X.1 143 (y3).toInt.toNat)) _
          refine fx_qa (c := 0 ≤ ((X.1 117 65)).toInt ∧ ((X.1 117 65)).toInt < ((30 : Nat) : Int)) ⟨g230, fx_lnk g231 hA20⟩ ?_
          refine fx_qX (fun X24 eX24 => ?_)
          show fx_W _ _ _ 126 lv [] _ _
          refine fx_i2 aj_d292 rfl (Nat.le_succ _) (fun _ => rfl) hlv_0 ?_
          refine fx_n (pc' := 128) (lv' := lv) (st' := [.ref 117, .ref 117]) aj_d292 rfl (Nat.le_succ _) (fun _ => rfl) ?_
          refine fx_gI aj_d292 rfl (Nat.le_succ _) rfl rfl (Or.inl rfl) ?_
          refine fx_n (pc' := 132) (lv' := lv) (st' := [.int (Int32.ofInt 1), .int (X24.1 117 65), .ref 117]) aj_d292 rfl (Nat.le_succ _) (fun _ => rfl) ?_
          refine fx_n (pc' := 133) (lv' := lv) (st' := [.int ((X24.1 117 65) + (Int32.ofInt 1)), .ref 117]) aj_d292 rfl (Nat.le_succ _) (fun _ => rfl) ?_
          refine fx_pI aj_d292 rfl (Nat.le_succ _) rfl rfl (Or.inl rfl) fx_no_11_65 (by decide) ?_
          refine fx_qX (fun X25 eX25 => ?_)
          show fx_W _ _ _ 136 lv [] _ _
          refine fx_incq aj_d292 rfl (Nat.le_succ _) hlv_3 (by decide) (fun x26 ex26 => ?_)
          obtain ⟨lv27, elv27⟩ : ∃ l, l = aj_set1 lv 3 (.int x26) := ⟨_, rfl⟩
          rw [← elv27]
          have hlv27_0 : aj_lv lv27 0 = some (.ref 117) := fx_e1 elv27 hlv_0 (by decide) (Or.inl (by decide))
          have hlv27_1 : aj_lv lv27 1 = some (.int p1) := fx_e1 elv27 hlv_1 (by decide) (Or.inl (by decide))
          have hlv27_2 : aj_lv lv27 2 = some (.int y2) := fx_e1 elv27 hlv_2 (by decide) (Or.inr rfl)
          have hlv27_3 : aj_lv lv27 3 = some (.int x26) := by rw [elv27]; exact ak_set1_eq _ _ _
          show fx_W _ _ _ 139 lv27 [] _ _
          refine fx_n (pc' := 30) (lv' := lv27) (st' := []) aj_d292 rfl (Nat.le_succ _) (fun _ => rfl) ?_
          exact (ih.1) lv27 (y2) (x26) X25  hlv27_0 hlv27_1 hlv27_2 hlv27_3
      · skip
        refine fx_qi (c := (y5).toInt < ((X.1 122 ((X.1 117 0)).toInt.toNat)).toInt) (fx_f_ge q16) ?_
        show fx_W _ _ _ 55 lv [] _ _
        refine fx_i0 aj_d292 rfl (Nat.le_succ _) (fun _ => rfl) hlv_4 ?_
        refine fx_b0 (tgt := 106) aj_d292 rfl (Nat.le_succ _) rfl (fun q28 => ?_) (fun q28 => ?_)
        · skip
          refine fx_qi (c := (y4).toInt = 0) (fx_t_eq q28) ?_
          show fx_W _ _ _ 106 lv [] _ _
          refine fx_i0 aj_d292 rfl (Nat.le_succ _) (fun _ => rfl) hlv_4 ?_
          refine fx_b0 (tgt := 136) aj_d292 rfl (Nat.le_succ _) rfl (fun q29 => ?_) (fun q29 => ?_)
          · skip
            refine fx_qi (c := (y4).toInt = 0) (fx_t_eq q29) ?_
            show fx_W _ _ _ 136 lv [] _ _
            refine fx_incq aj_d292 rfl (Nat.le_succ _) hlv_3 (by decide) (fun x30 ex30 => ?_)
            obtain ⟨lv31, elv31⟩ : ∃ l, l = aj_set1 lv 3 (.int x30) := ⟨_, rfl⟩
            rw [← elv31]
            have hlv31_0 : aj_lv lv31 0 = some (.ref 117) := fx_e1 elv31 hlv_0 (by decide) (Or.inl (by decide))
            have hlv31_1 : aj_lv lv31 1 = some (.int p1) := fx_e1 elv31 hlv_1 (by decide) (Or.inl (by decide))
            have hlv31_2 : aj_lv lv31 2 = some (.int y2) := fx_e1 elv31 hlv_2 (by decide) (Or.inr rfl)
            have hlv31_3 : aj_lv lv31 3 = some (.int x30) := by rw [elv31]; exact ak_set1_eq _ _ _
            show fx_W _ _ _ 139 lv31 [] _ _
            refine fx_n (pc' := 30) (lv' := lv31) (st' := []) aj_d292 rfl (Nat.le_succ _) (fun _ => rfl) ?_
            exact (ih.1) lv31 (y2) (x30) X  hlv31_0 hlv31_1 hlv31_2 hlv31_3
          · skip
            refine fx_qe (c := (y4).toInt = 0) (fx_f_eq q29) ?_
            show fx_W _ _ _ 111 lv [] _ _
            refine fx_i2 aj_d292 rfl (Nat.le_succ _) (fun _ => rfl) hlv_0 ?_
            refine fx_gF aj_d292 rfl (Nat.le_succ _) rfl rfl fx_in_11_63 (t := 147) rfl (fun hA32 => ?_)
            refine fx_i2 aj_d292 rfl (Nat.le_succ _) (fun _ => rfl) hlv_0 ?_
            refine fx_gI aj_d292 rfl (Nat.le_succ _) rfl rfl (Or.inl rfl) ?_
            refine fx_i2 aj_d292 rfl (Nat.le_succ _) (fun _ => rfl) hlv_0 ?_
            refine fx_gF aj_d292 rfl (Nat.le_succ _) rfl rfl fx_in_11_57 (t := 143) rfl (fun hA33 => ?_)
            refine fx_i0 aj_d292 rfl (Nat.le_succ _) (fun _ => rfl) hlv_3 ?_
            refine fx_ld aj_d292 (Or.inl rfl) rfl (Nat.le_succ _) (fun g340 g341 => ?_)
            show fx_W _ _ _ 125 lv [.int (X.1 143 (y3).toInt.toNat), .int (X.1 117 65), .ref 147] _ _
            refine fx_qa (c := 0 ≤ (y3).toInt ∧ (y3).toInt < ((30 : Nat) : Int)) ⟨g340, fx_lnk g341 hA33⟩ ?_
            refine fx_st aj_d292 (Or.inl ⟨rfl, rfl⟩) rfl (Nat.le_succ _) (fun g350 g351 => ?_)
            show fx_W _ _ _ _ _ _ (fx_wI X 147 ((X.1 117 65)).toInt.toNat (X.1 143 (y3).toInt.toNat)) _
            refine fx_qa (c := 0 ≤ ((X.1 117 65)).toInt ∧ ((X.1 117 65)).toInt < ((30 : Nat) : Int)) ⟨g350, fx_lnk g351 hA32⟩ ?_
            refine fx_qX (fun X36 eX36 => ?_)
            show fx_W _ _ _ 126 lv [] _ _
            refine fx_i2 aj_d292 rfl (Nat.le_succ _) (fun _ => rfl) hlv_0 ?_
            refine fx_n (pc' := 128) (lv' := lv) (st' := [.ref 117, .ref 117]) aj_d292 rfl (Nat.le_succ _) (fun _ => rfl) ?_
            refine fx_gI aj_d292 rfl (Nat.le_succ _) rfl rfl (Or.inl rfl) ?_
            refine fx_n (pc' := 132) (lv' := lv) (st' := [.int (Int32.ofInt 1), .int (X36.1 117 65), .ref 117]) aj_d292 rfl (Nat.le_succ _) (fun _ => rfl) ?_
            refine fx_n (pc' := 133) (lv' := lv) (st' := [.int ((X36.1 117 65) + (Int32.ofInt 1)), .ref 117]) aj_d292 rfl (Nat.le_succ _) (fun _ => rfl) ?_
            refine fx_pI aj_d292 rfl (Nat.le_succ _) rfl rfl (Or.inl rfl) fx_no_11_65 (by decide) ?_
            refine fx_qX (fun X37 eX37 => ?_)
            show fx_W _ _ _ 136 lv [] _ _
            refine fx_incq aj_d292 rfl (Nat.le_succ _) hlv_3 (by decide) (fun x38 ex38 => ?_)
            obtain ⟨lv39, elv39⟩ : ∃ l, l = aj_set1 lv 3 (.int x38) := ⟨_, rfl⟩
            rw [← elv39]
            have hlv39_0 : aj_lv lv39 0 = some (.ref 117) := fx_e1 elv39 hlv_0 (by decide) (Or.inl (by decide))
            have hlv39_1 : aj_lv lv39 1 = some (.int p1) := fx_e1 elv39 hlv_1 (by decide) (Or.inl (by decide))
            have hlv39_2 : aj_lv lv39 2 = some (.int y2) := fx_e1 elv39 hlv_2 (by decide) (Or.inr rfl)
            have hlv39_3 : aj_lv lv39 3 = some (.int x38) := by rw [elv39]; exact ak_set1_eq _ _ _
            show fx_W _ _ _ 139 lv39 [] _ _
            refine fx_n (pc' := 30) (lv' := lv39) (st' := []) aj_d292 rfl (Nat.le_succ _) (fun _ => rfl) ?_
            exact (ih.1) lv39 (y2) (x38) X37  hlv39_0 hlv39_1 hlv39_2 hlv39_3
        · skip
          refine fx_qe (c := (y4).toInt = 0) (fx_f_eq q28) ?_
          show fx_W _ _ _ 60 lv [] _ _
          refine fx_i2 aj_d292 rfl (Nat.le_succ _) (fun _ => rfl) hlv_0 ?_
          refine fx_i2 aj_d292 rfl (Nat.le_succ _) (fun _ => rfl) hlv_0 ?_
          refine fx_gI aj_d292 rfl (Nat.le_succ _) rfl rfl (Or.inl rfl) ?_
          refine fx_i0 aj_d292 rfl (Nat.le_succ _) (fun _ => rfl) hlv_5 ?_
          refine fx_cv aj_d292 rfl (Nat.le_succ _) rfl [_, _] rfl rfl (gx_247_ok (X.1 117 0) y5) ?_
          rintro _ X40 ⟨w41, rfl, hR40⟩ hok40 hle40
          refine fx_qc hR40 ?_
          show fx_W _ _ _ 70 lv [.int w41] _ _
          refine fx_b0 (tgt := 93) aj_d292 rfl (Nat.le_succ _) rfl (fun q42 => ?_) (fun q42 => ?_)
          · skip
            refine fx_qi (c := (w41).toInt = 0) (fx_t_eq q42) ?_
            show fx_W _ _ _ 93 lv [] _ _
            refine fx_n (pc' := 94) (lv' := lv) (st' := [.int (Int32.ofInt 1)]) aj_d292 rfl (Nat.le_succ _) (fun _ => rfl) ?_
            refine fx_n (pc' := 98) (lv' := lv) (st' := [.int (Int32.ofInt 1)]) aj_d292 rfl (Nat.le_succ _) (fun _ => rfl) ?_
            refine fx_s0 (j := 4) aj_d292 rfl (Nat.le_succ _) (by decide) (fun _ => rfl) ?_
            obtain ⟨lv43, elv43⟩ : ∃ l, l = aj_set1 lv 4 (.int (Int32.ofInt 1)) := ⟨_, rfl⟩
            rw [← elv43]
            have hlv43_0 : aj_lv lv43 0 = some (.ref 117) := fx_e1 elv43 hlv_0 (by decide) (Or.inl (by decide))
            have hlv43_1 : aj_lv lv43 1 = some (.int p1) := fx_e1 elv43 hlv_1 (by decide) (Or.inl (by decide))
            have hlv43_2 : aj_lv lv43 2 = some (.int y2) := fx_e1 elv43 hlv_2 (by decide) (Or.inl (by decide))
            have hlv43_3 : aj_lv lv43 3 = some (.int y3) := fx_e1 elv43 hlv_3 (by decide) (Or.inr rfl)
            have hlv43_5 : aj_lv lv43 5 = some (.int y5) := fx_e1 elv43 hlv_5 (by decide) (Or.inl (by decide))
            have hlv43_4 : aj_lv lv43 4 = some (.int (Int32.ofInt 1)) := by rw [elv43]; exact ak_set1_eq _ _ _
            show fx_W _ _ _ 100 lv43 [] _ _
            refine fx_incq aj_d292 rfl (Nat.le_succ _) hlv43_5 (by decide) (fun x44 ex44 => ?_)
            obtain ⟨lv45, elv45⟩ : ∃ l, l = aj_set1 lv43 5 (.int x44) := ⟨_, rfl⟩
            rw [← elv45]
            have hlv45_0 : aj_lv lv45 0 = some (.ref 117) := fx_e1 elv45 hlv43_0 (by decide) (Or.inl (by decide))
            have hlv45_1 : aj_lv lv45 1 = some (.int p1) := fx_e1 elv45 hlv43_1 (by decide) (Or.inl (by decide))
            have hlv45_2 : aj_lv lv45 2 = some (.int y2) := fx_e1 elv45 hlv43_2 (by decide) (Or.inl (by decide))
            have hlv45_3 : aj_lv lv45 3 = some (.int y3) := fx_e1 elv45 hlv43_3 (by decide) (Or.inl (by decide))
            have hlv45_4 : aj_lv lv45 4 = some (.int (Int32.ofInt 1)) := fx_e1 elv45 hlv43_4 (by decide) (Or.inr rfl)
            have hlv45_5 : aj_lv lv45 5 = some (.int x44) := by rw [elv45]; exact ak_set1_eq _ _ _
            show fx_W _ _ _ 103 lv45 [] _ _
            refine fx_n (pc' := 41) (lv' := lv45) (st' := []) aj_d292 rfl (Nat.le_succ _) (fun _ => rfl) ?_
            exact (ih.2) lv45 (y2) (y3) ((Int32.ofInt 1)) (x44) X40  hlv45_0 hlv45_1 hlv45_2 hlv45_3 hlv45_4 hlv45_5
          · skip
            refine fx_qe (c := (w41).toInt = 0) (fx_f_eq q42) ?_
            show fx_W _ _ _ 73 lv [] _ _
            refine fx_i2 aj_d292 rfl (Nat.le_succ _) (fun _ => rfl) hlv_0 ?_
            refine fx_i0 aj_d292 rfl (Nat.le_succ _) (fun _ => rfl) hlv_1 ?_
            refine fx_i2 aj_d292 rfl (Nat.le_succ _) (fun _ => rfl) hlv_0 ?_
            refine fx_gF aj_d292 rfl (Nat.le_succ _) rfl rfl fx_in_11_57 (t := 143) rfl (fun hA46 => ?_)
            refine fx_i0 aj_d292 rfl (Nat.le_succ _) (fun _ => rfl) hlv_3 ?_
            refine fx_ld aj_d292 (Or.inl rfl) rfl (Nat.le_succ _) (fun g470 g471 => ?_)
            show fx_W _ _ _ 81 lv [.int (X40.1 143 (y3).toInt.toNat), .int p1, .ref 117] _ _
            refine fx_qa (c := 0 ≤ (y3).toInt ∧ (y3).toInt < ((30 : Nat) : Int)) ⟨g470, fx_lnk g471 hA46⟩ ?_
            refine fx_i2 aj_d292 rfl (Nat.le_succ _) (fun _ => rfl) hlv_0 ?_
            refine fx_gI aj_d292 rfl (Nat.le_succ _) rfl rfl (Or.inl rfl) ?_
            refine fx_i0 aj_d292 rfl (Nat.le_succ _) (fun _ => rfl) hlv_5 ?_
            refine fx_cv aj_d292 rfl (Nat.le_succ _) rfl [_, _, _, _] rfl rfl (gx_293_ok p1 (X40.1 143 (y3).toInt.toNat) (X40.1 117 64) y5) ?_
            rintro _ X48 ⟨w49, rfl, hR48⟩ hok48 hle48
            refine fx_qc hR48 ?_
            show fx_W _ _ _ 90 lv [.int w49] _ _
            refine fx_b0 (tgt := 97) aj_d292 rfl (Nat.le_succ _) rfl (fun q50 => ?_) (fun q50 => ?_)
            · skip
              refine fx_qi (c := (w49).toInt = 0) (fx_t_eq q50) ?_
              show fx_W _ _ _ 97 lv [] _ _
              refine fx_n (pc' := 98) (lv' := lv) (st' := [.int (Int32.ofInt 0)]) aj_d292 rfl (Nat.le_succ _) (fun _ => rfl) ?_
              refine fx_s0 (j := 4) aj_d292 rfl (Nat.le_succ _) (by decide) (fun _ => rfl) ?_
              obtain ⟨lv51, elv51⟩ : ∃ l, l = aj_set1 lv 4 (.int (Int32.ofInt 0)) := ⟨_, rfl⟩
              rw [← elv51]
              have hlv51_0 : aj_lv lv51 0 = some (.ref 117) := fx_e1 elv51 hlv_0 (by decide) (Or.inl (by decide))
              have hlv51_1 : aj_lv lv51 1 = some (.int p1) := fx_e1 elv51 hlv_1 (by decide) (Or.inl (by decide))
              have hlv51_2 : aj_lv lv51 2 = some (.int y2) := fx_e1 elv51 hlv_2 (by decide) (Or.inl (by decide))
              have hlv51_3 : aj_lv lv51 3 = some (.int y3) := fx_e1 elv51 hlv_3 (by decide) (Or.inr rfl)
              have hlv51_5 : aj_lv lv51 5 = some (.int y5) := fx_e1 elv51 hlv_5 (by decide) (Or.inl (by decide))
              have hlv51_4 : aj_lv lv51 4 = some (.int (Int32.ofInt 0)) := by rw [elv51]; exact ak_set1_eq _ _ _
              show fx_W _ _ _ 100 lv51 [] _ _
              refine fx_incq aj_d292 rfl (Nat.le_succ _) hlv51_5 (by decide) (fun x52 ex52 => ?_)
              obtain ⟨lv53, elv53⟩ : ∃ l, l = aj_set1 lv51 5 (.int x52) := ⟨_, rfl⟩
              rw [← elv53]
              have hlv53_0 : aj_lv lv53 0 = some (.ref 117) := fx_e1 elv53 hlv51_0 (by decide) (Or.inl (by decide))
              have hlv53_1 : aj_lv lv53 1 = some (.int p1) := fx_e1 elv53 hlv51_1 (by decide) (Or.inl (by decide))
              have hlv53_2 : aj_lv lv53 2 = some (.int y2) := fx_e1 elv53 hlv51_2 (by decide) (Or.inl (by decide))
              have hlv53_3 : aj_lv lv53 3 = some (.int y3) := fx_e1 elv53 hlv51_3 (by decide) (Or.inl (by decide))
              have hlv53_4 : aj_lv lv53 4 = some (.int (Int32.ofInt 0)) := fx_e1 elv53 hlv51_4 (by decide) (Or.inr rfl)
              have hlv53_5 : aj_lv lv53 5 = some (.int x52) := by rw [elv53]; exact ak_set1_eq _ _ _
              show fx_W _ _ _ 103 lv53 [] _ _
              refine fx_n (pc' := 41) (lv' := lv53) (st' := []) aj_d292 rfl (Nat.le_succ _) (fun _ => rfl) ?_
              exact (ih.2) lv53 (y2) (y3) ((Int32.ofInt 0)) (x52) X48  hlv53_0 hlv53_1 hlv53_2 hlv53_3 hlv53_4 hlv53_5
            · skip
              refine fx_qe (c := (w49).toInt = 0) (fx_f_eq q50) ?_
              show fx_W _ _ _ 93 lv [] _ _
              refine fx_n (pc' := 94) (lv' := lv) (st' := [.int (Int32.ofInt 1)]) aj_d292 rfl (Nat.le_succ _) (fun _ => rfl) ?_
              refine fx_n (pc' := 98) (lv' := lv) (st' := [.int (Int32.ofInt 1)]) aj_d292 rfl (Nat.le_succ _) (fun _ => rfl) ?_
              refine fx_s0 (j := 4) aj_d292 rfl (Nat.le_succ _) (by decide) (fun _ => rfl) ?_
              obtain ⟨lv54, elv54⟩ : ∃ l, l = aj_set1 lv 4 (.int (Int32.ofInt 1)) := ⟨_, rfl⟩
              rw [← elv54]
              have hlv54_0 : aj_lv lv54 0 = some (.ref 117) := fx_e1 elv54 hlv_0 (by decide) (Or.inl (by decide))
              have hlv54_1 : aj_lv lv54 1 = some (.int p1) := fx_e1 elv54 hlv_1 (by decide) (Or.inl (by decide))
              have hlv54_2 : aj_lv lv54 2 = some (.int y2) := fx_e1 elv54 hlv_2 (by decide) (Or.inl (by decide))
              have hlv54_3 : aj_lv lv54 3 = some (.int y3) := fx_e1 elv54 hlv_3 (by decide) (Or.inr rfl)
              have hlv54_5 : aj_lv lv54 5 = some (.int y5) := fx_e1 elv54 hlv_5 (by decide) (Or.inl (by decide))
              have hlv54_4 : aj_lv lv54 4 = some (.int (Int32.ofInt 1)) := by rw [elv54]; exact ak_set1_eq _ _ _
              show fx_W _ _ _ 100 lv54 [] _ _
              refine fx_incq aj_d292 rfl (Nat.le_succ _) hlv54_5 (by decide) (fun x55 ex55 => ?_)
              obtain ⟨lv56, elv56⟩ : ∃ l, l = aj_set1 lv54 5 (.int x55) := ⟨_, rfl⟩
              rw [← elv56]
              have hlv56_0 : aj_lv lv56 0 = some (.ref 117) := fx_e1 elv56 hlv54_0 (by decide) (Or.inl (by decide))
              have hlv56_1 : aj_lv lv56 1 = some (.int p1) := fx_e1 elv56 hlv54_1 (by decide) (Or.inl (by decide))
              have hlv56_2 : aj_lv lv56 2 = some (.int y2) := fx_e1 elv56 hlv54_2 (by decide) (Or.inl (by decide))
              have hlv56_3 : aj_lv lv56 3 = some (.int y3) := fx_e1 elv56 hlv54_3 (by decide) (Or.inl (by decide))
              have hlv56_4 : aj_lv lv56 4 = some (.int (Int32.ofInt 1)) := fx_e1 elv56 hlv54_4 (by decide) (Or.inr rfl)
              have hlv56_5 : aj_lv lv56 5 = some (.int x55) := by rw [elv56]; exact ak_set1_eq _ _ _
              show fx_W _ _ _ 103 lv56 [] _ _
              refine fx_n (pc' := 41) (lv' := lv56) (st' := []) aj_d292 rfl (Nat.le_succ _) (fun _ => rfl) ?_
              exact (ih.2) lv56 (y2) (y3) ((Int32.ofInt 1)) (x55) X48  hlv56_0 hlv56_1 hlv56_2 hlv56_3 hlv56_4 hlv56_5
theorem gx_292_ok {tb : aj_T} (p1 : Int32) {X : fx_X} : fx_K tb 292 [.ref 117, .int p1] X (fx_Q fx_qN (fun v X' => gx_292 p1 X v X')) := by
  refine fx_m aj_m292_at rfl (fun N => ?_)
  refine fx_mono (Q := fx_Q fx_qN (fun v X' => ∃ n : Nat, gxE_292 p1 (gxF_292 p1 n) X v X')) (fun r X' h => h) ?_
  unfold gxE_292
  show fx_W _ _ _ 0 [(0, .ref 117), (1, .int p1)] [] _ _
  obtain ⟨lv1, elv1⟩ : ∃ l : aj_V, l = [(0, .ref 117), (1, .int p1)] := ⟨_, rfl⟩
  rw [← elv1]
  have hlv1_0 : aj_lv lv1 0 = some (.ref 117) := by rw [elv1]; rfl
  have hlv1_1 : aj_lv lv1 1 = some (.int p1) := by rw [elv1]; rfl
  refine fx_i2 aj_d292 rfl (Nat.le_succ _) (fun _ => rfl) hlv1_0 ?_
  refine fx_i2 aj_d292 rfl (Nat.le_succ _) (fun _ => rfl) hlv1_0 ?_
  refine fx_n (pc' := 3) (lv' := lv1) (st' := [.int (Int32.ofInt 0), .ref 117, .ref 117]) aj_d292 rfl (Nat.le_succ _) (fun _ => rfl) ?_
  refine fx_cv aj_d292 rfl (Nat.le_succ _) rfl [_] rfl rfl (gx_289_ok (Int32.ofInt 0)) ?_
  rintro _ X2 ⟨w3, rfl, hR2⟩ hok2 hle2
  refine fx_qc hR2 ?_
  show fx_W _ _ _ 6 lv1 [.int w3, .ref 117] _ _
  refine fx_pI aj_d292 rfl (Nat.le_succ _) rfl rfl (Or.inl rfl) fx_no_11_64 (by decide) ?_
  refine fx_qX (fun X4 eX4 => ?_)
  show fx_W _ _ _ 9 lv1 [] _ _
  refine fx_i2 aj_d292 rfl (Nat.le_succ _) (fun _ => rfl) hlv1_0 ?_
  refine fx_n (pc' := 11) (lv' := lv1) (st' := [.int (Int32.ofInt 0), .ref 117]) aj_d292 rfl (Nat.le_succ _) (fun _ => rfl) ?_
  refine fx_pI aj_d292 rfl (Nat.le_succ _) rfl rfl (Or.inl rfl) fx_no_11_65 (by decide) ?_
  refine fx_qX (fun X5 eX5 => ?_)
  show fx_W _ _ _ 14 lv1 [] _ _
  refine fx_i2 aj_d292 rfl (Nat.le_succ _) (fun _ => rfl) hlv1_0 ?_
  refine fx_i0 aj_d292 rfl (Nat.le_succ _) (fun _ => rfl) hlv1_1 ?_
  refine fx_i2 aj_d292 rfl (Nat.le_succ _) (fun _ => rfl) hlv1_0 ?_
  refine fx_gI aj_d292 rfl (Nat.le_succ _) rfl rfl (Or.inl rfl) ?_
  refine fx_cv aj_d292 rfl (Nat.le_succ _) rfl [_, _] rfl rfl (gx_266_ok p1 (X5.1 117 64)) ?_
  rintro _ X6 ⟨w7, rfl, hR6⟩ hok6 hle6
  refine fx_qc hR6 ?_
  show fx_W _ _ _ 23 lv1 [] _ _
  refine fx_i2 aj_d292 rfl (Nat.le_succ _) (fun _ => rfl) hlv1_0 ?_
  refine fx_gI aj_d292 rfl (Nat.le_succ _) rfl rfl (Or.inl rfl) ?_
  refine fx_qxI (fun x8 ex8 => ?_)
  refine fx_s0 (j := 2) aj_d292 rfl (Nat.le_succ _) (by decide) (fun _ => rfl) ?_
  obtain ⟨lv9, elv9⟩ : ∃ l, l = aj_set1 lv1 2 (.int x8) := ⟨_, rfl⟩
  rw [← elv9]
  have hlv9_0 : aj_lv lv9 0 = some (.ref 117) := fx_e1 elv9 hlv1_0 (by decide) (Or.inl (by decide))
  have hlv9_1 : aj_lv lv9 1 = some (.int p1) := fx_e1 elv9 hlv1_1 (by decide) (Or.inr rfl)
  have hlv9_2 : aj_lv lv9 2 = some (.int x8) := by rw [elv9]; exact ak_set1_eq _ _ _
  show fx_W _ _ _ 28 lv9 [] _ _
  refine fx_n (pc' := 29) (lv' := lv9) (st' := [.int (Int32.ofInt 0)]) aj_d292 rfl (Nat.le_succ _) (fun _ => rfl) ?_
  refine fx_s0 (j := 3) aj_d292 rfl (Nat.le_succ _) (by decide) (fun _ => rfl) ?_
  obtain ⟨lv10, elv10⟩ : ∃ l, l = aj_set1 lv9 3 (.int (Int32.ofInt 0)) := ⟨_, rfl⟩
  rw [← elv10]
  have hlv10_0 : aj_lv lv10 0 = some (.ref 117) := fx_e1 elv10 hlv9_0 (by decide) (Or.inl (by decide))
  have hlv10_1 : aj_lv lv10 1 = some (.int p1) := fx_e1 elv10 hlv9_1 (by decide) (Or.inl (by decide))
  have hlv10_2 : aj_lv lv10 2 = some (.int x8) := fx_e1 elv10 hlv9_2 (by decide) (Or.inr rfl)
  have hlv10_3 : aj_lv lv10 3 = some (.int (Int32.ofInt 0)) := by rw [elv10]; exact ak_set1_eq _ _ _
  show fx_W _ _ _ 30 lv10 [] _ _
  exact ((gxL_292 p1 N).1) lv10 (x8) ((Int32.ofInt 0)) X6  hlv10_0 hlv10_1 hlv10_2 hlv10_3
def gxT_290_124 (p1 : Int32) (p2 : Int32) (P : Nat → List Int32 → List Int64 → List Nat → fx_X → Int32 → fx_X → Prop) (y3 : Int32) (y4 : Int32) (y5 : Int32) (X : fx_X) (v : Int32) (X' : fx_X) : Prop :=
  (0 ≤ ((X.1 117 0)).toInt ∧ ((X.1 117 0)).toInt < ((2 : Nat) : Int)) ∧ (if (y5).toInt < ((X.1 122 ((X.1 117 0)).toInt.toNat)).toInt then (∃ (w34 : Int32) (X33 : fx_X), gx_247 (X.1 117 0) y5 X w34 X33 ∧ (if (w34).toInt = 0 then (∃ x36 : Int32, x36 = y5 + Int32.ofInt 1 ∧ P 124 [y3, y4, x36] [] [] X33 v X') else (∃ (w39 : Unit) (X38 : fx_X), gx_266 y3 y5 X33 w39 X38 ∧ (if (p2).toInt = 3 then ((if ((X38.1 117 58)).toInt < (y4).toInt then (∃ x53 : Int32, x53 = (X38.1 117 58) ∧ ∃ x55 : Int32, x55 = y5 + Int32.ofInt 1 ∧ P 124 [y3, x53, x55] [] [] X38 v X') else (∃ x51 : Int32, x51 = y5 + Int32.ofInt 1 ∧ P 124 [y3, y4, x51] [] [] X38 v X'))) else ((if (y4).toInt < ((X38.1 117 58)).toInt then (∃ x45 : Int32, x45 = (X38.1 117 58) ∧ ∃ x47 : Int32, x47 = y5 + Int32.ofInt 1 ∧ P 124 [y3, x45, x47] [] [] X38 v X') else (∃ x43 : Int32, x43 = y5 + Int32.ofInt 1 ∧ P 124 [y3, y4, x43] [] [] X38 v X'))))))) else (v = y4 ∧ X' = X))
def gxE_290 (p1 : Int32) (p2 : Int32) (P : Nat → List Int32 → List Int64 → List Nat → fx_X → Int32 → fx_X → Prop) (X : fx_X) (v : Int32) (X' : fx_X) : Prop :=
  ∃ (w3 : Int32) (X2 : fx_X), gx_291 p1 X w3 X2 ∧ (if (w3).toInt = 0 then (v = (Int32.ofInt (-1)) ∧ X' = X2) else ((if (p2).toInt < 0 then (v = (Int32.ofInt (-1)) ∧ X' = X2) else ((if 6 < (p2).toInt then (v = (Int32.ofInt (-1)) ∧ X' = X2) else (∃ x7 : Int32, x7 = (((X2.1 117 0) * ((Int8.ofInt 10).toInt32)) + p1) ∧ (if (p2).toInt < 3 then ((if (p2).toInt = 0 then ((0 ≤ (x7).toInt ∧ (x7).toInt < ((50 : Nat) : Int)) ∧ v = (X2.1 131 (x7).toInt.toNat) ∧ X' = X2) else ((if (p2).toInt = 1 then ((0 ≤ (x7).toInt ∧ (x7).toInt < ((50 : Nat) : Int)) ∧ v = (X2.1 132 (x7).toInt.toNat) ∧ X' = X2) else ((0 ≤ (x7).toInt ∧ (x7).toInt < ((20 : Nat) : Int)) ∧ (if ((X2.1 126 (x7).toInt.toNat)).toInt = 0 then (v = (Int32.ofInt 0) ∧ X' = X2) else (v = (Int32.ofInt 1) ∧ X' = X2))))))) else ((if (p2).toInt = 5 then (∃ (w20 : Unit) (X19 : fx_X), gx_292 x7 X2 w20 X19 ∧ v = (X19.1 117 65) ∧ X' = X19) else ((if (p2).toInt = 6 then (∃ (w18 : Unit) (X17 : fx_X), gx_294 p1 X2 w18 X17 ∧ v = (X17.1 117 67) ∧ X' = X17) else ((if (p2).toInt = 3 then (P 124 [x7, ((Int8.ofInt 31).toInt32), (Int32.ofInt 0)] [] [] X2 v X') else (P 124 [x7, (Int32.ofInt (-1)), (Int32.ofInt 0)] [] [] X2 v X'))))))))))))))
noncomputable def gxF_290 (p1 : Int32) (p2 : Int32) (n : Nat) : Nat → List Int32 → List Int64 → List Nat → fx_X → Int32 → fx_X → Prop := Nat.rec (motive := fun _ => Nat → List Int32 → List Int64 → List Nat → fx_X → Int32 → fx_X → Prop) (fun _ _ _ _ _ _ _ => False) (fun _ P l is ls rs X v X' => (l = 124 ∧ ∃ (y3 : Int32) (y4 : Int32) (y5 : Int32), is = [y3, y4, y5] ∧ ls = [] ∧ rs = [] ∧ gxT_290_124 p1 p2 P y3 y4 y5 X v X')) n
theorem gxI_290_124 {p1 : Int32} {p2 : Int32} {n : Nat} {y3 : Int32} {y4 : Int32} {y5 : Int32} {X : fx_X} {v : Int32} {X' : fx_X} (h : gxT_290_124 p1 p2 (gxF_290 p1 p2 n) y3 y4 y5 X v X') : gxF_290 p1 p2 (n + 1) 124 [y3, y4, y5] [] [] X v X' := ⟨rfl, y3, y4, y5, rfl, rfl, rfl, h⟩
theorem gxO_290_124 {p1 : Int32} {p2 : Int32} {n : Nat} {y3 : Int32} {y4 : Int32} {y5 : Int32} {X : fx_X} {v : Int32} {X' : fx_X} (h : gxF_290 p1 p2 (n + 1) 124 [y3, y4, y5] [] [] X v X') : gxT_290_124 p1 p2 (gxF_290 p1 p2 n) y3 y4 y5 X v X' := by
  rcases h with ⟨-, _, _, _, e1, e2, e3, h⟩
  · cases e1; cases e2; cases e3; exact h
def gx_290 (p1 : Int32) (p2 : Int32) (X : fx_X) (v : Int32) (X' : fx_X) : Prop := ∃ n : Nat, gxE_290 p1 p2 (gxF_290 p1 p2 n) X v X'
theorem gxL_290 {tb : aj_T} (p1 : Int32) (p2 : Int32) : ∀ N : Nat, (∀ (lv : aj_V) (y3 : Int32) (y4 : Int32) (y5 : Int32) (X : fx_X), aj_lv lv 0 = some (.ref 117) → aj_lv lv 2 = some (.int p2) → aj_lv lv 3 = some (.int y3) → aj_lv lv 4 = some (.int y4) → aj_lv lv 5 = some (.int y5) → fx_W tb aj_m290 N 124 lv [] X (fx_Q fx_qI (fun v X' => ∃ n : Nat, gxF_290 p1 p2 n 124 [y3, y4, y5] [] [] X v X'))) := by
  intro N
  induction N with
  | zero => exact (by intros; exact fx_z)
  | succ N ih =>
    skip
    · intro lv y3 y4 y5 X hlv_0 hlv_2 hlv_3 hlv_4 hlv_5
      refine fx_mono (Q := fx_Q fx_qI (fun v X' => ∃ n : Nat, gxT_290_124 p1 p2 (gxF_290 p1 p2 n) y3 y4 y5 X v X')) (fun r X' ⟨v, e, n, z⟩ => ⟨v, e, n + 1, gxI_290_124 z⟩) ?_
      unfold gxT_290_124
      refine fx_i0 aj_d290 rfl (Nat.le_refl _) (fun _ => rfl) hlv_5 ?_
      refine fx_i2 aj_d290 rfl (Nat.le_succ _) (fun _ => rfl) hlv_0 ?_
      refine fx_gF aj_d290 rfl (Nat.le_succ _) rfl rfl fx_in_11_5 (t := 122) rfl (fun hA30 => ?_)
      refine fx_i2 aj_d290 rfl (Nat.le_succ _) (fun _ => rfl) hlv_0 ?_
      refine fx_gI aj_d290 rfl (Nat.le_succ _) rfl rfl (Or.inl rfl) ?_
      refine fx_ld aj_d290 (Or.inl rfl) rfl (Nat.le_succ _) (fun g310 g311 => ?_)
      show fx_W _ _ _ 135 lv [.int (X.1 122 ((X.1 117 0)).toInt.toNat), .int y5] _ _
      refine fx_qa (c := 0 ≤ ((X.1 117 0)).toInt ∧ ((X.1 117 0)).toInt < ((2 : Nat) : Int)) ⟨g310, fx_lnk g311 hA30⟩ ?_
      refine fx_b (tgt := 210) aj_d290 rfl (Nat.le_succ _) rfl (fun q32 => ?_) (fun q32 => ?_)
      · skip
        refine fx_qe (c := (y5).toInt < ((X.1 122 ((X.1 117 0)).toInt.toNat)).toInt) (fx_t_ge q32) ?_
        show fx_W _ _ _ 210 lv [] _ _
        refine fx_i0 aj_d290 rfl (Nat.le_succ _) (fun _ => rfl) hlv_4 ?_
        exact fx_ri aj_d290 rfl ⟨_, rfl, 0, rfl, rfl⟩
      · skip
        refine fx_qi (c := (y5).toInt < ((X.1 122 ((X.1 117 0)).toInt.toNat)).toInt) (fx_f_ge q32) ?_
        show fx_W _ _ _ 138 lv [] _ _
        refine fx_i2 aj_d290 rfl (Nat.le_succ _) (fun _ => rfl) hlv_0 ?_
        refine fx_i2 aj_d290 rfl (Nat.le_succ _) (fun _ => rfl) hlv_0 ?_
        refine fx_gI aj_d290 rfl (Nat.le_succ _) rfl rfl (Or.inl rfl) ?_
        refine fx_i0 aj_d290 rfl (Nat.le_succ _) (fun _ => rfl) hlv_5 ?_
        refine fx_cv aj_d290 rfl (Nat.le_succ _) rfl [_, _] rfl rfl (gx_247_ok (X.1 117 0) y5) ?_
        rintro _ X33 ⟨w34, rfl, hR33⟩ hok33 hle33
        refine fx_qc hR33 ?_
        show fx_W _ _ _ 148 lv [.int w34] _ _
        refine fx_b0 (tgt := 204) aj_d290 rfl (Nat.le_succ _) rfl (fun q35 => ?_) (fun q35 => ?_)
        · skip
          refine fx_qi (c := (w34).toInt = 0) (fx_t_eq q35) ?_
          show fx_W _ _ _ 204 lv [] _ _
          refine fx_incq aj_d290 rfl (Nat.le_succ _) hlv_5 (by decide) (fun x36 ex36 => ?_)
          obtain ⟨lv37, elv37⟩ : ∃ l, l = aj_set1 lv 5 (.int x36) := ⟨_, rfl⟩
          rw [← elv37]
          have hlv37_0 : aj_lv lv37 0 = some (.ref 117) := fx_e1 elv37 hlv_0 (by decide) (Or.inl (by decide))
          have hlv37_2 : aj_lv lv37 2 = some (.int p2) := fx_e1 elv37 hlv_2 (by decide) (Or.inl (by decide))
          have hlv37_3 : aj_lv lv37 3 = some (.int y3) := fx_e1 elv37 hlv_3 (by decide) (Or.inl (by decide))
          have hlv37_4 : aj_lv lv37 4 = some (.int y4) := fx_e1 elv37 hlv_4 (by decide) (Or.inr rfl)
          have hlv37_5 : aj_lv lv37 5 = some (.int x36) := by rw [elv37]; exact ak_set1_eq _ _ _
          show fx_W _ _ _ 207 lv37 [] _ _
          refine fx_n (pc' := 124) (lv' := lv37) (st' := []) aj_d290 rfl (Nat.le_succ _) (fun _ => rfl) ?_
          exact (ih) lv37 (y3) (y4) (x36) X33  hlv37_0 hlv37_2 hlv37_3 hlv37_4 hlv37_5
        · skip
          refine fx_qe (c := (w34).toInt = 0) (fx_f_eq q35) ?_
          show fx_W _ _ _ 151 lv [] _ _
          refine fx_i2 aj_d290 rfl (Nat.le_succ _) (fun _ => rfl) hlv_0 ?_
          refine fx_i0 aj_d290 rfl (Nat.le_succ _) (fun _ => rfl) hlv_3 ?_
          refine fx_i0 aj_d290 rfl (Nat.le_succ _) (fun _ => rfl) hlv_5 ?_
          refine fx_cv aj_d290 rfl (Nat.le_succ _) rfl [_, _] rfl rfl (gx_266_ok y3 y5) ?_
          rintro _ X38 ⟨w39, rfl, hR38⟩ hok38 hle38
          refine fx_qc hR38 ?_
          show fx_W _ _ _ 158 lv [] _ _
          refine fx_i0 aj_d290 rfl (Nat.le_succ _) (fun _ => rfl) hlv_2 ?_
          refine fx_n (pc' := 160) (lv' := lv) (st' := [.int (Int32.ofInt 3), .int p2]) aj_d290 rfl (Nat.le_succ _) (fun _ => rfl) ?_
          refine fx_b (tgt := 184) aj_d290 rfl (Nat.le_succ _) rfl (fun q40 => ?_) (fun q40 => ?_)
          · skip
            refine fx_qe (c := (p2).toInt = 3) (fx_t_ne q40) ?_
            show fx_W _ _ _ 184 lv [] _ _
            refine fx_i2 aj_d290 rfl (Nat.le_succ _) (fun _ => rfl) hlv_0 ?_
            refine fx_gI aj_d290 rfl (Nat.le_succ _) rfl rfl (Or.inl rfl) ?_
            refine fx_i0 aj_d290 rfl (Nat.le_succ _) (fun _ => rfl) hlv_4 ?_
            refine fx_b (tgt := 200) aj_d290 rfl (Nat.le_succ _) rfl (fun q41 => ?_) (fun q41 => ?_)
            · skip
              refine fx_qe (c := (y4).toInt < ((X38.1 117 58)).toInt) (fx_t_le q41) ?_
              show fx_W _ _ _ 200 lv [] _ _
              refine fx_i0 aj_d290 rfl (Nat.le_succ _) (fun _ => rfl) hlv_4 ?_
              refine fx_s0 (j := 4) aj_d290 rfl (Nat.le_succ _) (by decide) (fun _ => rfl) ?_
              obtain ⟨lv42, elv42⟩ : ∃ l, l = aj_set1 lv 4 (.int y4) := ⟨_, rfl⟩
              rw [← elv42]
              have hlv42_0 : aj_lv lv42 0 = some (.ref 117) := fx_e1 elv42 hlv_0 (by decide) (Or.inl (by decide))
              have hlv42_2 : aj_lv lv42 2 = some (.int p2) := fx_e1 elv42 hlv_2 (by decide) (Or.inl (by decide))
              have hlv42_3 : aj_lv lv42 3 = some (.int y3) := fx_e1 elv42 hlv_3 (by decide) (Or.inr rfl)
              have hlv42_5 : aj_lv lv42 5 = some (.int y5) := fx_e1 elv42 hlv_5 (by decide) (Or.inl (by decide))
              have hlv42_4 : aj_lv lv42 4 = some (.int y4) := by rw [elv42]; exact ak_set1_eq _ _ _
              show fx_W _ _ _ 204 lv42 [] _ _
              refine fx_incq aj_d290 rfl (Nat.le_succ _) hlv42_5 (by decide) (fun x43 ex43 => ?_)
              obtain ⟨lv44, elv44⟩ : ∃ l, l = aj_set1 lv42 5 (.int x43) := ⟨_, rfl⟩
              rw [← elv44]
              have hlv44_0 : aj_lv lv44 0 = some (.ref 117) := fx_e1 elv44 hlv42_0 (by decide) (Or.inl (by decide))
              have hlv44_2 : aj_lv lv44 2 = some (.int p2) := fx_e1 elv44 hlv42_2 (by decide) (Or.inl (by decide))
              have hlv44_3 : aj_lv lv44 3 = some (.int y3) := fx_e1 elv44 hlv42_3 (by decide) (Or.inl (by decide))
              have hlv44_4 : aj_lv lv44 4 = some (.int y4) := fx_e1 elv44 hlv42_4 (by decide) (Or.inr rfl)
              have hlv44_5 : aj_lv lv44 5 = some (.int x43) := by rw [elv44]; exact ak_set1_eq _ _ _
              show fx_W _ _ _ 207 lv44 [] _ _
              refine fx_n (pc' := 124) (lv' := lv44) (st' := []) aj_d290 rfl (Nat.le_succ _) (fun _ => rfl) ?_
              exact (ih) lv44 (y3) (y4) (x43) X38  hlv44_0 hlv44_2 hlv44_3 hlv44_4 hlv44_5
            · skip
              refine fx_qi (c := (y4).toInt < ((X38.1 117 58)).toInt) (fx_f_le q41) ?_
              show fx_W _ _ _ 193 lv [] _ _
              refine fx_i2 aj_d290 rfl (Nat.le_succ _) (fun _ => rfl) hlv_0 ?_
              refine fx_gI aj_d290 rfl (Nat.le_succ _) rfl rfl (Or.inl rfl) ?_
              refine fx_n (pc' := 202) (lv' := lv) (st' := [.int (X38.1 117 58)]) aj_d290 rfl (Nat.le_succ _) (fun _ => rfl) ?_
              refine fx_qxI (fun x45 ex45 => ?_)
              refine fx_s0 (j := 4) aj_d290 rfl (Nat.le_succ _) (by decide) (fun _ => rfl) ?_
              obtain ⟨lv46, elv46⟩ : ∃ l, l = aj_set1 lv 4 (.int x45) := ⟨_, rfl⟩
              rw [← elv46]
              have hlv46_0 : aj_lv lv46 0 = some (.ref 117) := fx_e1 elv46 hlv_0 (by decide) (Or.inl (by decide))
              have hlv46_2 : aj_lv lv46 2 = some (.int p2) := fx_e1 elv46 hlv_2 (by decide) (Or.inl (by decide))
              have hlv46_3 : aj_lv lv46 3 = some (.int y3) := fx_e1 elv46 hlv_3 (by decide) (Or.inr rfl)
              have hlv46_5 : aj_lv lv46 5 = some (.int y5) := fx_e1 elv46 hlv_5 (by decide) (Or.inl (by decide))
              have hlv46_4 : aj_lv lv46 4 = some (.int x45) := by rw [elv46]; exact ak_set1_eq _ _ _
              show fx_W _ _ _ 204 lv46 [] _ _
              refine fx_incq aj_d290 rfl (Nat.le_succ _) hlv46_5 (by decide) (fun x47 ex47 => ?_)
              obtain ⟨lv48, elv48⟩ : ∃ l, l = aj_set1 lv46 5 (.int x47) := ⟨_, rfl⟩
              rw [← elv48]
              have hlv48_0 : aj_lv lv48 0 = some (.ref 117) := fx_e1 elv48 hlv46_0 (by decide) (Or.inl (by decide))
              have hlv48_2 : aj_lv lv48 2 = some (.int p2) := fx_e1 elv48 hlv46_2 (by decide) (Or.inl (by decide))
              have hlv48_3 : aj_lv lv48 3 = some (.int y3) := fx_e1 elv48 hlv46_3 (by decide) (Or.inl (by decide))
              have hlv48_4 : aj_lv lv48 4 = some (.int x45) := fx_e1 elv48 hlv46_4 (by decide) (Or.inr rfl)
              have hlv48_5 : aj_lv lv48 5 = some (.int x47) := by rw [elv48]; exact ak_set1_eq _ _ _
              show fx_W _ _ _ 207 lv48 [] _ _
              refine fx_n (pc' := 124) (lv' := lv48) (st' := []) aj_d290 rfl (Nat.le_succ _) (fun _ => rfl) ?_
              exact (ih) lv48 (y3) (x45) (x47) X38  hlv48_0 hlv48_2 hlv48_3 hlv48_4 hlv48_5
          · skip
            refine fx_qi (c := (p2).toInt = 3) (fx_f_ne q40) ?_
            show fx_W _ _ _ 163 lv [] _ _
            refine fx_i2 aj_d290 rfl (Nat.le_succ _) (fun _ => rfl) hlv_0 ?_
            refine fx_gI aj_d290 rfl (Nat.le_succ _) rfl rfl (Or.inl rfl) ?_
            refine fx_i0 aj_d290 rfl (Nat.le_succ _) (fun _ => rfl) hlv_4 ?_
            refine fx_b (tgt := 179) aj_d290 rfl (Nat.le_succ _) rfl (fun q49 => ?_) (fun q49 => ?_)
            · skip
              refine fx_qe (c := ((X38.1 117 58)).toInt < (y4).toInt) (fx_t_ge q49) ?_
              show fx_W _ _ _ 179 lv [] _ _
              refine fx_i0 aj_d290 rfl (Nat.le_succ _) (fun _ => rfl) hlv_4 ?_
              refine fx_n (pc' := 202) (lv' := lv) (st' := [.int y4]) aj_d290 rfl (Nat.le_succ _) (fun _ => rfl) ?_
              refine fx_s0 (j := 4) aj_d290 rfl (Nat.le_succ _) (by decide) (fun _ => rfl) ?_
              obtain ⟨lv50, elv50⟩ : ∃ l, l = aj_set1 lv 4 (.int y4) := ⟨_, rfl⟩
              rw [← elv50]
              have hlv50_0 : aj_lv lv50 0 = some (.ref 117) := fx_e1 elv50 hlv_0 (by decide) (Or.inl (by decide))
              have hlv50_2 : aj_lv lv50 2 = some (.int p2) := fx_e1 elv50 hlv_2 (by decide) (Or.inl (by decide))
              have hlv50_3 : aj_lv lv50 3 = some (.int y3) := fx_e1 elv50 hlv_3 (by decide) (Or.inr rfl)
              have hlv50_5 : aj_lv lv50 5 = some (.int y5) := fx_e1 elv50 hlv_5 (by decide) (Or.inl (by decide))
              have hlv50_4 : aj_lv lv50 4 = some (.int y4) := by rw [elv50]; exact ak_set1_eq _ _ _
              show fx_W _ _ _ 204 lv50 [] _ _
              refine fx_incq aj_d290 rfl (Nat.le_succ _) hlv50_5 (by decide) (fun x51 ex51 => ?_)
              obtain ⟨lv52, elv52⟩ : ∃ l, l = aj_set1 lv50 5 (.int x51) := ⟨_, rfl⟩
              rw [← elv52]
              have hlv52_0 : aj_lv lv52 0 = some (.ref 117) := fx_e1 elv52 hlv50_0 (by decide) (Or.inl (by decide))
              have hlv52_2 : aj_lv lv52 2 = some (.int p2) := fx_e1 elv52 hlv50_2 (by decide) (Or.inl (by decide))
              have hlv52_3 : aj_lv lv52 3 = some (.int y3) := fx_e1 elv52 hlv50_3 (by decide) (Or.inl (by decide))
              have hlv52_4 : aj_lv lv52 4 = some (.int y4) := fx_e1 elv52 hlv50_4 (by decide) (Or.inr rfl)
              have hlv52_5 : aj_lv lv52 5 = some (.int x51) := by rw [elv52]; exact ak_set1_eq _ _ _
              show fx_W _ _ _ 207 lv52 [] _ _
              refine fx_n (pc' := 124) (lv' := lv52) (st' := []) aj_d290 rfl (Nat.le_succ _) (fun _ => rfl) ?_
              exact (ih) lv52 (y3) (y4) (x51) X38  hlv52_0 hlv52_2 hlv52_3 hlv52_4 hlv52_5
            · skip
              refine fx_qi (c := ((X38.1 117 58)).toInt < (y4).toInt) (fx_f_ge q49) ?_
              show fx_W _ _ _ 172 lv [] _ _
              refine fx_i2 aj_d290 rfl (Nat.le_succ _) (fun _ => rfl) hlv_0 ?_
              refine fx_gI aj_d290 rfl (Nat.le_succ _) rfl rfl (Or.inl rfl) ?_
              refine fx_n (pc' := 202) (lv' := lv) (st' := [.int (X38.1 117 58)]) aj_d290 rfl (Nat.le_succ _) (fun _ => rfl) ?_
              refine fx_qxI (fun x53 ex53 => ?_)
              refine fx_s0 (j := 4) aj_d290 rfl (Nat.le_succ _) (by decide) (fun _ => rfl) ?_
              obtain ⟨lv54, elv54⟩ : ∃ l, l = aj_set1 lv 4 (.int x53) := ⟨_, rfl⟩
              rw [← elv54]
              have hlv54_0 : aj_lv lv54 0 = some (.ref 117) := fx_e1 elv54 hlv_0 (by decide) (Or.inl (by decide))
              have hlv54_2 : aj_lv lv54 2 = some (.int p2) := fx_e1 elv54 hlv_2 (by decide) (Or.inl (by decide))
              have hlv54_3 : aj_lv lv54 3 = some (.int y3) := fx_e1 elv54 hlv_3 (by decide) (Or.inr rfl)
              have hlv54_5 : aj_lv lv54 5 = some (.int y5) := fx_e1 elv54 hlv_5 (by decide) (Or.inl (by decide))
              have hlv54_4 : aj_lv lv54 4 = some (.int x53) := by rw [elv54]; exact ak_set1_eq _ _ _
              show fx_W _ _ _ 204 lv54 [] _ _
              refine fx_incq aj_d290 rfl (Nat.le_succ _) hlv54_5 (by decide) (fun x55 ex55 => ?_)
              obtain ⟨lv56, elv56⟩ : ∃ l, l = aj_set1 lv54 5 (.int x55) := ⟨_, rfl⟩
              rw [← elv56]
              have hlv56_0 : aj_lv lv56 0 = some (.ref 117) := fx_e1 elv56 hlv54_0 (by decide) (Or.inl (by decide))
              have hlv56_2 : aj_lv lv56 2 = some (.int p2) := fx_e1 elv56 hlv54_2 (by decide) (Or.inl (by decide))
              have hlv56_3 : aj_lv lv56 3 = some (.int y3) := fx_e1 elv56 hlv54_3 (by decide) (Or.inl (by decide))
              have hlv56_4 : aj_lv lv56 4 = some (.int x53) := fx_e1 elv56 hlv54_4 (by decide) (Or.inr rfl)
              have hlv56_5 : aj_lv lv56 5 = some (.int x55) := by rw [elv56]; exact ak_set1_eq _ _ _
              show fx_W _ _ _ 207 lv56 [] _ _
              refine fx_n (pc' := 124) (lv' := lv56) (st' := []) aj_d290 rfl (Nat.le_succ _) (fun _ => rfl) ?_
              exact (ih) lv56 (y3) (x53) (x55) X38  hlv56_0 hlv56_2 hlv56_3 hlv56_4 hlv56_5
theorem gx_290_ok {tb : aj_T} (p1 : Int32) (p2 : Int32) {X : fx_X} : fx_K tb 290 [.ref 117, .int p1, .int p2] X (fx_Q fx_qI (fun v X' => gx_290 p1 p2 X v X')) := by
  refine fx_m aj_m290_at rfl (fun N => ?_)
  refine fx_mono (Q := fx_Q fx_qI (fun v X' => ∃ n : Nat, gxE_290 p1 p2 (gxF_290 p1 p2 n) X v X')) (fun r X' h => h) ?_
  unfold gxE_290
  show fx_W _ _ _ 0 [(0, .ref 117), (1, .int p1), (2, .int p2)] [] _ _
  obtain ⟨lv1, elv1⟩ : ∃ l : aj_V, l = [(0, .ref 117), (1, .int p1), (2, .int p2)] := ⟨_, rfl⟩
  rw [← elv1]
  have hlv1_0 : aj_lv lv1 0 = some (.ref 117) := by rw [elv1]; rfl
  have hlv1_1 : aj_lv lv1 1 = some (.int p1) := by rw [elv1]; rfl
  have hlv1_2 : aj_lv lv1 2 = some (.int p2) := by rw [elv1]; rfl
  refine fx_i2 aj_d290 rfl (Nat.le_succ _) (fun _ => rfl) hlv1_0 ?_
  refine fx_i0 aj_d290 rfl (Nat.le_succ _) (fun _ => rfl) hlv1_1 ?_
  refine fx_cv aj_d290 rfl (Nat.le_succ _) rfl [_] rfl rfl (gx_291_ok p1) ?_
  rintro _ X2 ⟨w3, rfl, hR2⟩ hok2 hle2
  refine fx_qc hR2 ?_
  show fx_W _ _ _ 5 lv1 [.int w3] _ _
  refine fx_b0 (tgt := 18) aj_d290 rfl (Nat.le_succ _) rfl (fun q4 => ?_) (fun q4 => ?_)
  · skip
    refine fx_qi (c := (w3).toInt = 0) (fx_t_eq q4) ?_
    show fx_W _ _ _ 18 lv1 [] _ _
    refine fx_n (pc' := 19) (lv' := lv1) (st' := [.int (Int32.ofInt (-1))]) aj_d290 rfl (Nat.le_succ _) (fun _ => rfl) ?_
    exact fx_ri aj_d290 rfl ⟨_, rfl, 0, rfl, rfl⟩
  · skip
    refine fx_qe (c := (w3).toInt = 0) (fx_f_eq q4) ?_
    show fx_W _ _ _ 8 lv1 [] _ _
    refine fx_i0 aj_d290 rfl (Nat.le_succ _) (fun _ => rfl) hlv1_2 ?_
    refine fx_b0 (tgt := 18) aj_d290 rfl (Nat.le_succ _) rfl (fun q5 => ?_) (fun q5 => ?_)
    · skip
      refine fx_qi (c := (p2).toInt < 0) (fx_t_lt q5) ?_
      show fx_W _ _ _ 18 lv1 [] _ _
      refine fx_n (pc' := 19) (lv' := lv1) (st' := [.int (Int32.ofInt (-1))]) aj_d290 rfl (Nat.le_succ _) (fun _ => rfl) ?_
      exact fx_ri aj_d290 rfl ⟨_, rfl, 0, rfl, rfl⟩
    · skip
      refine fx_qe (c := (p2).toInt < 0) (fx_f_lt q5) ?_
      show fx_W _ _ _ 12 lv1 [] _ _
      refine fx_i0 aj_d290 rfl (Nat.le_succ _) (fun _ => rfl) hlv1_2 ?_
      refine fx_n (pc' := 15) (lv' := lv1) (st' := [.int ((Int8.ofInt 6).toInt32), .int p2]) aj_d290 rfl (Nat.le_succ _) (fun _ => rfl) ?_
      refine fx_b (tgt := 20) aj_d290 rfl (Nat.le_succ _) rfl (fun q6 => ?_) (fun q6 => ?_)
      · skip
        refine fx_qe (c := 6 < (p2).toInt) (fx_t_le q6) ?_
        show fx_W _ _ _ 20 lv1 [] _ _
        refine fx_i2 aj_d290 rfl (Nat.le_succ _) (fun _ => rfl) hlv1_0 ?_
        refine fx_gI aj_d290 rfl (Nat.le_succ _) rfl rfl (Or.inl rfl) ?_
        refine fx_n (pc' := 26) (lv' := lv1) (st' := [.int ((Int8.ofInt 10).toInt32), .int (X2.1 117 0)]) aj_d290 rfl (Nat.le_succ _) (fun _ => rfl) ?_
        refine fx_n (pc' := 27) (lv' := lv1) (st' := [.int ((X2.1 117 0) * ((Int8.ofInt 10).toInt32))]) aj_d290 rfl (Nat.le_succ _) (fun _ => rfl) ?_
        refine fx_i0 aj_d290 rfl (Nat.le_succ _) (fun _ => rfl) hlv1_1 ?_
        refine fx_n (pc' := 29) (lv' := lv1) (st' := [.int (((X2.1 117 0) * ((Int8.ofInt 10).toInt32)) + p1)]) aj_d290 rfl (Nat.le_succ _) (fun _ => rfl) ?_
        refine fx_qxI (fun x7 ex7 => ?_)
        refine fx_s0 (j := 3) aj_d290 rfl (Nat.le_succ _) (by decide) (fun _ => rfl) ?_
        obtain ⟨lv8, elv8⟩ : ∃ l, l = aj_set1 lv1 3 (.int x7) := ⟨_, rfl⟩
        rw [← elv8]
        have hlv8_0 : aj_lv lv8 0 = some (.ref 117) := fx_e1 elv8 hlv1_0 (by decide) (Or.inl (by decide))
        have hlv8_1 : aj_lv lv8 1 = some (.int p1) := fx_e1 elv8 hlv1_1 (by decide) (Or.inl (by decide))
        have hlv8_2 : aj_lv lv8 2 = some (.int p2) := fx_e1 elv8 hlv1_2 (by decide) (Or.inr rfl)
        have hlv8_3 : aj_lv lv8 3 = some (.int x7) := by rw [elv8]; exact ak_set1_eq _ _ _
        show fx_W _ _ _ 30 lv8 [] _ _
        refine fx_i0 aj_d290 rfl (Nat.le_succ _) (fun _ => rfl) hlv8_2 ?_
        refine fx_n (pc' := 32) (lv' := lv8) (st' := [.int (Int32.ofInt 3), .int p2]) aj_d290 rfl (Nat.le_succ _) (fun _ => rfl) ?_
        refine fx_b (tgt := 77) aj_d290 rfl (Nat.le_succ _) rfl (fun q9 => ?_) (fun q9 => ?_)
        · skip
          refine fx_qe (c := (p2).toInt < 3) (fx_t_ge q9) ?_
          show fx_W _ _ _ 77 lv8 [] _ _
          refine fx_i0 aj_d290 rfl (Nat.le_succ _) (fun _ => rfl) hlv8_2 ?_
          refine fx_n (pc' := 79) (lv' := lv8) (st' := [.int (Int32.ofInt 5), .int p2]) aj_d290 rfl (Nat.le_succ _) (fun _ => rfl) ?_
          refine fx_b (tgt := 92) aj_d290 rfl (Nat.le_succ _) rfl (fun q10 => ?_) (fun q10 => ?_)
          · skip
            refine fx_qe (c := (p2).toInt = 5) (fx_t_ne q10) ?_
            show fx_W _ _ _ 92 lv8 [] _ _
            refine fx_i0 aj_d290 rfl (Nat.le_succ _) (fun _ => rfl) hlv8_2 ?_
            refine fx_n (pc' := 95) (lv' := lv8) (st' := [.int ((Int8.ofInt 6).toInt32), .int p2]) aj_d290 rfl (Nat.le_succ _) (fun _ => rfl) ?_
            refine fx_b (tgt := 108) aj_d290 rfl (Nat.le_succ _) rfl (fun q11 => ?_) (fun q11 => ?_)
            · skip
              refine fx_qe (c := (p2).toInt = 6) (fx_t_ne q11) ?_
              show fx_W _ _ _ 108 lv8 [] _ _
              refine fx_i0 aj_d290 rfl (Nat.le_succ _) (fun _ => rfl) hlv8_2 ?_
              refine fx_n (pc' := 110) (lv' := lv8) (st' := [.int (Int32.ofInt 3), .int p2]) aj_d290 rfl (Nat.le_succ _) (fun _ => rfl) ?_
              refine fx_b (tgt := 118) aj_d290 rfl (Nat.le_succ _) rfl (fun q12 => ?_) (fun q12 => ?_)
              · skip
                refine fx_qe (c := (p2).toInt = 3) (fx_t_ne q12) ?_
                show fx_W _ _ _ 118 lv8 [] _ _
                refine fx_n (pc' := 119) (lv' := lv8) (st' := [.int (Int32.ofInt (-1))]) aj_d290 rfl (Nat.le_succ _) (fun _ => rfl) ?_
                refine fx_s0 (j := 4) aj_d290 rfl (Nat.le_succ _) (by decide) (fun _ => rfl) ?_
                obtain ⟨lv13, elv13⟩ : ∃ l, l = aj_set1 lv8 4 (.int (Int32.ofInt (-1))) := ⟨_, rfl⟩
                rw [← elv13]
                have hlv13_0 : aj_lv lv13 0 = some (.ref 117) := fx_e1 elv13 hlv8_0 (by decide) (Or.inl (by decide))
                have hlv13_2 : aj_lv lv13 2 = some (.int p2) := fx_e1 elv13 hlv8_2 (by decide) (Or.inl (by decide))
                have hlv13_3 : aj_lv lv13 3 = some (.int x7) := fx_e1 elv13 hlv8_3 (by decide) (Or.inr rfl)
                have hlv13_4 : aj_lv lv13 4 = some (.int (Int32.ofInt (-1))) := by rw [elv13]; exact ak_set1_eq _ _ _
                show fx_W _ _ _ 121 lv13 [] _ _
                refine fx_n (pc' := 122) (lv' := lv13) (st' := [.int (Int32.ofInt 0)]) aj_d290 rfl (Nat.le_succ _) (fun _ => rfl) ?_
                refine fx_s0 (j := 5) aj_d290 rfl (Nat.le_succ _) (by decide) (fun _ => rfl) ?_
                obtain ⟨lv14, elv14⟩ : ∃ l, l = aj_set1 lv13 5 (.int (Int32.ofInt 0)) := ⟨_, rfl⟩
                rw [← elv14]
                have hlv14_0 : aj_lv lv14 0 = some (.ref 117) := fx_e1 elv14 hlv13_0 (by decide) (Or.inl (by decide))
                have hlv14_2 : aj_lv lv14 2 = some (.int p2) := fx_e1 elv14 hlv13_2 (by decide) (Or.inl (by decide))
                have hlv14_3 : aj_lv lv14 3 = some (.int x7) := fx_e1 elv14 hlv13_3 (by decide) (Or.inl (by decide))
                have hlv14_4 : aj_lv lv14 4 = some (.int (Int32.ofInt (-1))) := fx_e1 elv14 hlv13_4 (by decide) (Or.inr rfl)
                have hlv14_5 : aj_lv lv14 5 = some (.int (Int32.ofInt 0)) := by rw [elv14]; exact ak_set1_eq _ _ _
                show fx_W _ _ _ 124 lv14 [] _ _
                exact ((gxL_290 p1 p2 N)) lv14 (x7) ((Int32.ofInt (-1))) ((Int32.ofInt 0)) X2  hlv14_0 hlv14_2 hlv14_3 hlv14_4 hlv14_5
              · skip
                refine fx_qi (c := (p2).toInt = 3) (fx_f_ne q12) ?_
                show fx_W _ _ _ 113 lv8 [] _ _
                refine fx_n (pc' := 115) (lv' := lv8) (st' := [.int ((Int8.ofInt 31).toInt32)]) aj_d290 rfl (Nat.le_succ _) (fun _ => rfl) ?_
                refine fx_n (pc' := 119) (lv' := lv8) (st' := [.int ((Int8.ofInt 31).toInt32)]) aj_d290 rfl (Nat.le_succ _) (fun _ => rfl) ?_
                refine fx_s0 (j := 4) aj_d290 rfl (Nat.le_succ _) (by decide) (fun _ => rfl) ?_
                obtain ⟨lv15, elv15⟩ : ∃ l, l = aj_set1 lv8 4 (.int ((Int8.ofInt 31).toInt32)) := ⟨_, rfl⟩
                rw [← elv15]
                have hlv15_0 : aj_lv lv15 0 = some (.ref 117) := fx_e1 elv15 hlv8_0 (by decide) (Or.inl (by decide))
                have hlv15_2 : aj_lv lv15 2 = some (.int p2) := fx_e1 elv15 hlv8_2 (by decide) (Or.inl (by decide))
                have hlv15_3 : aj_lv lv15 3 = some (.int x7) := fx_e1 elv15 hlv8_3 (by decide) (Or.inr rfl)
                have hlv15_4 : aj_lv lv15 4 = some (.int ((Int8.ofInt 31).toInt32)) := by rw [elv15]; exact ak_set1_eq _ _ _
                show fx_W _ _ _ 121 lv15 [] _ _
                refine fx_n (pc' := 122) (lv' := lv15) (st' := [.int (Int32.ofInt 0)]) aj_d290 rfl (Nat.le_succ _) (fun _ => rfl) ?_
                refine fx_s0 (j := 5) aj_d290 rfl (Nat.le_succ _) (by decide) (fun _ => rfl) ?_
                obtain ⟨lv16, elv16⟩ : ∃ l, l = aj_set1 lv15 5 (.int (Int32.ofInt 0)) := ⟨_, rfl⟩
                rw [← elv16]
                have hlv16_0 : aj_lv lv16 0 = some (.ref 117) := fx_e1 elv16 hlv15_0 (by decide) (Or.inl (by decide))
                have hlv16_2 : aj_lv lv16 2 = some (.int p2) := fx_e1 elv16 hlv15_2 (by decide) (Or.inl (by decide))
                have hlv16_3 : aj_lv lv16 3 = some (.int x7) := fx_e1 elv16 hlv15_3 (by decide) (Or.inl (by decide))
                have hlv16_4 : aj_lv lv16 4 = some (.int ((Int8.ofInt 31).toInt32)) := fx_e1 elv16 hlv15_4 (by decide) (Or.inr rfl)
                have hlv16_5 : aj_lv lv16 5 = some (.int (Int32.ofInt 0)) := by rw [elv16]; exact ak_set1_eq _ _ _
                show fx_W _ _ _ 124 lv16 [] _ _
                exact ((gxL_290 p1 p2 N)) lv16 (x7) (((Int8.ofInt 31).toInt32)) ((Int32.ofInt 0)) X2  hlv16_0 hlv16_2 hlv16_3 hlv16_4 hlv16_5
            · skip
              refine fx_qi (c := (p2).toInt = 6) (fx_f_ne q11) ?_
              show fx_W _ _ _ 98 lv8 [] _ _
              refine fx_i2 aj_d290 rfl (Nat.le_succ _) (fun _ => rfl) hlv8_0 ?_
              refine fx_i0 aj_d290 rfl (Nat.le_succ _) (fun _ => rfl) hlv8_1 ?_
              refine fx_cv aj_d290 rfl (Nat.le_succ _) rfl [_] rfl rfl (gx_294_ok p1) ?_
              rintro _ X17 ⟨w18, rfl, hR17⟩ hok17 hle17
              refine fx_qc hR17 ?_
              show fx_W _ _ _ 103 lv8 [] _ _
              refine fx_i2 aj_d290 rfl (Nat.le_succ _) (fun _ => rfl) hlv8_0 ?_
              refine fx_gI aj_d290 rfl (Nat.le_succ _) rfl rfl (Or.inl rfl) ?_
              exact fx_ri aj_d290 rfl ⟨_, rfl, 0, rfl, rfl⟩
          · skip
            refine fx_qi (c := (p2).toInt = 5) (fx_f_ne q10) ?_
            show fx_W _ _ _ 82 lv8 [] _ _
            refine fx_i2 aj_d290 rfl (Nat.le_succ _) (fun _ => rfl) hlv8_0 ?_
            refine fx_i0 aj_d290 rfl (Nat.le_succ _) (fun _ => rfl) hlv8_3 ?_
            refine fx_cv aj_d290 rfl (Nat.le_succ _) rfl [_] rfl rfl (gx_292_ok x7) ?_
            rintro _ X19 ⟨w20, rfl, hR19⟩ hok19 hle19
            refine fx_qc hR19 ?_
            show fx_W _ _ _ 87 lv8 [] _ _
            refine fx_i2 aj_d290 rfl (Nat.le_succ _) (fun _ => rfl) hlv8_0 ?_
            refine fx_gI aj_d290 rfl (Nat.le_succ _) rfl rfl (Or.inl rfl) ?_
            exact fx_ri aj_d290 rfl ⟨_, rfl, 0, rfl, rfl⟩
        · skip
          refine fx_qi (c := (p2).toInt < 3) (fx_f_ge q9) ?_
          show fx_W _ _ _ 35 lv8 [] _ _
          refine fx_i0 aj_d290 rfl (Nat.le_succ _) (fun _ => rfl) hlv8_2 ?_
          refine fx_b0 (tgt := 48) aj_d290 rfl (Nat.le_succ _) rfl (fun q21 => ?_) (fun q21 => ?_)
          · skip
            refine fx_qe (c := (p2).toInt = 0) (fx_t_ne q21) ?_
            show fx_W _ _ _ 48 lv8 [] _ _
            refine fx_i0 aj_d290 rfl (Nat.le_succ _) (fun _ => rfl) hlv8_2 ?_
            refine fx_n (pc' := 50) (lv' := lv8) (st' := [.int (Int32.ofInt 1), .int p2]) aj_d290 rfl (Nat.le_succ _) (fun _ => rfl) ?_
            refine fx_b (tgt := 62) aj_d290 rfl (Nat.le_succ _) rfl (fun q22 => ?_) (fun q22 => ?_)
            · skip
              refine fx_qe (c := (p2).toInt = 1) (fx_t_ne q22) ?_
              show fx_W _ _ _ 62 lv8 [] _ _
              refine fx_i2 aj_d290 rfl (Nat.le_succ _) (fun _ => rfl) hlv8_0 ?_
              refine fx_gF aj_d290 rfl (Nat.le_succ _) rfl rfl fx_in_11_9 (t := 126) rfl (fun hA23 => ?_)
              refine fx_i0 aj_d290 rfl (Nat.le_succ _) (fun _ => rfl) hlv8_3 ?_
              refine fx_ld aj_d290 (Or.inr (Or.inr rfl)) rfl (Nat.le_succ _) (fun g240 g241 => ?_)
              show fx_W _ _ _ 68 lv8 [.int (X2.1 126 (x7).toInt.toNat)] _ _
              refine fx_qa (c := 0 ≤ (x7).toInt ∧ (x7).toInt < ((20 : Nat) : Int)) ⟨g240, fx_lnk g241 hA23⟩ ?_
              refine fx_b0 (tgt := 75) aj_d290 rfl (Nat.le_succ _) rfl (fun q25 => ?_) (fun q25 => ?_)
              · skip
                refine fx_qi (c := ((X2.1 126 (x7).toInt.toNat)).toInt = 0) (fx_t_eq q25) ?_
                show fx_W _ _ _ 75 lv8 [] _ _
                refine fx_n (pc' := 76) (lv' := lv8) (st' := [.int (Int32.ofInt 0)]) aj_d290 rfl (Nat.le_succ _) (fun _ => rfl) ?_
                exact fx_ri aj_d290 rfl ⟨_, rfl, 0, rfl, rfl⟩
              · skip
                refine fx_qe (c := ((X2.1 126 (x7).toInt.toNat)).toInt = 0) (fx_f_eq q25) ?_
                show fx_W _ _ _ 71 lv8 [] _ _
                refine fx_n (pc' := 72) (lv' := lv8) (st' := [.int (Int32.ofInt 1)]) aj_d290 rfl (Nat.le_succ _) (fun _ => rfl) ?_
                refine fx_n (pc' := 76) (lv' := lv8) (st' := [.int (Int32.ofInt 1)]) aj_d290 rfl (Nat.le_succ _) (fun _ => rfl) ?_
                exact fx_ri aj_d290 rfl ⟨_, rfl, 0, rfl, rfl⟩
            · skip
              refine fx_qi (c := (p2).toInt = 1) (fx_f_ne q22) ?_
              show fx_W _ _ _ 53 lv8 [] _ _
              refine fx_i2 aj_d290 rfl (Nat.le_succ _) (fun _ => rfl) hlv8_0 ?_
              refine fx_gF aj_d290 rfl (Nat.le_succ _) rfl rfl fx_in_11_16 (t := 132) rfl (fun hA26 => ?_)
              refine fx_i0 aj_d290 rfl (Nat.le_succ _) (fun _ => rfl) hlv8_3 ?_
              refine fx_ld aj_d290 (Or.inl rfl) rfl (Nat.le_succ _) (fun g270 g271 => ?_)
              show fx_W _ _ _ 59 lv8 [.int (X2.1 132 (x7).toInt.toNat)] _ _
              refine fx_qa (c := 0 ≤ (x7).toInt ∧ (x7).toInt < ((50 : Nat) : Int)) ⟨g270, fx_lnk g271 hA26⟩ ?_
              refine fx_n (pc' := 76) (lv' := lv8) (st' := [.int (X2.1 132 (x7).toInt.toNat)]) aj_d290 rfl (Nat.le_succ _) (fun _ => rfl) ?_
              exact fx_ri aj_d290 rfl ⟨_, rfl, 0, rfl, rfl⟩
          · skip
            refine fx_qi (c := (p2).toInt = 0) (fx_f_ne q21) ?_
            show fx_W _ _ _ 39 lv8 [] _ _
            refine fx_i2 aj_d290 rfl (Nat.le_succ _) (fun _ => rfl) hlv8_0 ?_
            refine fx_gF aj_d290 rfl (Nat.le_succ _) rfl rfl fx_in_11_15 (t := 131) rfl (fun hA28 => ?_)
            refine fx_i0 aj_d290 rfl (Nat.le_succ _) (fun _ => rfl) hlv8_3 ?_
            refine fx_ld aj_d290 (Or.inl rfl) rfl (Nat.le_succ _) (fun g290 g291 => ?_)
            show fx_W _ _ _ 45 lv8 [.int (X2.1 131 (x7).toInt.toNat)] _ _
            refine fx_qa (c := 0 ≤ (x7).toInt ∧ (x7).toInt < ((50 : Nat) : Int)) ⟨g290, fx_lnk g291 hA28⟩ ?_
            refine fx_n (pc' := 76) (lv' := lv8) (st' := [.int (X2.1 131 (x7).toInt.toNat)]) aj_d290 rfl (Nat.le_succ _) (fun _ => rfl) ?_
            exact fx_ri aj_d290 rfl ⟨_, rfl, 0, rfl, rfl⟩
      · skip
        refine fx_qi (c := 6 < (p2).toInt) (fx_f_le q6) ?_
        show fx_W _ _ _ 18 lv1 [] _ _
        refine fx_n (pc' := 19) (lv' := lv1) (st' := [.int (Int32.ofInt (-1))]) aj_d290 rfl (Nat.le_succ _) (fun _ => rfl) ?_
        exact fx_ri aj_d290 rfl ⟨_, rfl, 0, rfl, rfl⟩
def gx_298 (p1 : Int32) (p2 : Int32) (X : fx_X) (v : Int32) (X' : fx_X) : Prop :=
  ∃ (w3 : Int32) (X2 : fx_X), gx_291 p1 X w3 X2 ∧ (if (w3).toInt = 0 then (v = (Int32.ofInt 0) ∧ X' = X2) else ((if (p2).toInt < 0 then (v = (Int32.ofInt 0) ∧ X' = X2) else ((0 ≤ ((((X2.1 117 0) * ((Int8.ofInt 10).toInt32)) + p1)).toInt ∧ ((((X2.1 117 0) * ((Int8.ofInt 10).toInt32)) + p1)).toInt < ((50 : Nat) : Int)) ∧ (if (p2).toInt < ((X2.1 131 ((((X2.1 117 0) * ((Int8.ofInt 10).toInt32)) + p1)).toInt.toNat)).toInt then (v = (Int32.ofInt 1) ∧ X' = X2) else (v = (Int32.ofInt 0) ∧ X' = X2))))))
theorem gx_298_ok {tb : aj_T} (p1 : Int32) (p2 : Int32) {X : fx_X} : fx_K tb 298 [.ref 117, .int p1, .int p2] X (fx_Q fx_qI (fun v X' => gx_298 p1 p2 X v X')) := by
  refine fx_m aj_m298_at rfl (fun N => ?_)
  refine fx_mono (Q := fx_Q fx_qI (fun v X' => ∃ n : Nat, gx_298 p1 p2 X v X')) (fun r X' ⟨v, e, _, z⟩ => ⟨v, e, z⟩) ?_
  unfold gx_298
  show fx_W _ _ _ 0 [(0, .ref 117), (1, .int p1), (2, .int p2)] [] _ _
  obtain ⟨lv1, elv1⟩ : ∃ l : aj_V, l = [(0, .ref 117), (1, .int p1), (2, .int p2)] := ⟨_, rfl⟩
  rw [← elv1]
  have hlv1_0 : aj_lv lv1 0 = some (.ref 117) := by rw [elv1]; rfl
  have hlv1_1 : aj_lv lv1 1 = some (.int p1) := by rw [elv1]; rfl
  have hlv1_2 : aj_lv lv1 2 = some (.int p2) := by rw [elv1]; rfl
  refine fx_i2 aj_d298 rfl (Nat.le_succ _) (fun _ => rfl) hlv1_0 ?_
  refine fx_i0 aj_d298 rfl (Nat.le_succ _) (fun _ => rfl) hlv1_1 ?_
  refine fx_cv aj_d298 rfl (Nat.le_succ _) rfl [_] rfl rfl (gx_291_ok p1) ?_
  rintro _ X2 ⟨w3, rfl, hR2⟩ hok2 hle2
  refine fx_qc hR2 ?_
  show fx_W _ _ _ 5 lv1 [.int w3] _ _
  refine fx_b0 (tgt := 34) aj_d298 rfl (Nat.le_succ _) rfl (fun q4 => ?_) (fun q4 => ?_)
  · skip
    refine fx_qi (c := (w3).toInt = 0) (fx_t_eq q4) ?_
    show fx_W _ _ _ 34 lv1 [] _ _
    refine fx_n (pc' := 35) (lv' := lv1) (st' := [.int (Int32.ofInt 0)]) aj_d298 rfl (Nat.le_succ _) (fun _ => rfl) ?_
    exact fx_ri aj_d298 rfl ⟨_, rfl, 0, rfl, rfl⟩
  · skip
    refine fx_qe (c := (w3).toInt = 0) (fx_f_eq q4) ?_
    show fx_W _ _ _ 8 lv1 [] _ _
    refine fx_i0 aj_d298 rfl (Nat.le_succ _) (fun _ => rfl) hlv1_2 ?_
    refine fx_b0 (tgt := 34) aj_d298 rfl (Nat.le_succ _) rfl (fun q5 => ?_) (fun q5 => ?_)
    · skip
      refine fx_qi (c := (p2).toInt < 0) (fx_t_lt q5) ?_
      show fx_W _ _ _ 34 lv1 [] _ _
      refine fx_n (pc' := 35) (lv' := lv1) (st' := [.int (Int32.ofInt 0)]) aj_d298 rfl (Nat.le_succ _) (fun _ => rfl) ?_
      exact fx_ri aj_d298 rfl ⟨_, rfl, 0, rfl, rfl⟩
    · skip
      refine fx_qe (c := (p2).toInt < 0) (fx_f_lt q5) ?_
      show fx_W _ _ _ 12 lv1 [] _ _
      refine fx_i0 aj_d298 rfl (Nat.le_succ _) (fun _ => rfl) hlv1_2 ?_
      refine fx_i2 aj_d298 rfl (Nat.le_succ _) (fun _ => rfl) hlv1_0 ?_
      refine fx_gF aj_d298 rfl (Nat.le_succ _) rfl rfl fx_in_11_15 (t := 131) rfl (fun hA6 => ?_)
      refine fx_i2 aj_d298 rfl (Nat.le_succ _) (fun _ => rfl) hlv1_0 ?_
      refine fx_gI aj_d298 rfl (Nat.le_succ _) rfl rfl (Or.inl rfl) ?_
      refine fx_n (pc' := 23) (lv' := lv1) (st' := [.int ((Int8.ofInt 10).toInt32), .int (X2.1 117 0), .ref 131, .int p2]) aj_d298 rfl (Nat.le_succ _) (fun _ => rfl) ?_
      refine fx_n (pc' := 24) (lv' := lv1) (st' := [.int ((X2.1 117 0) * ((Int8.ofInt 10).toInt32)), .ref 131, .int p2]) aj_d298 rfl (Nat.le_succ _) (fun _ => rfl) ?_
      refine fx_i0 aj_d298 rfl (Nat.le_succ _) (fun _ => rfl) hlv1_1 ?_
      refine fx_n (pc' := 26) (lv' := lv1) (st' := [.int (((X2.1 117 0) * ((Int8.ofInt 10).toInt32)) + p1), .ref 131, .int p2]) aj_d298 rfl (Nat.le_succ _) (fun _ => rfl) ?_
      refine fx_ld aj_d298 (Or.inl rfl) rfl (Nat.le_succ _) (fun g70 g71 => ?_)
      show fx_W _ _ _ 27 lv1 [.int (X2.1 131 ((((X2.1 117 0) * ((Int8.ofInt 10).toInt32)) + p1)).toInt.toNat), .int p2] _ _
      refine fx_qa (c := 0 ≤ ((((X2.1 117 0) * ((Int8.ofInt 10).toInt32)) + p1)).toInt ∧ ((((X2.1 117 0) * ((Int8.ofInt 10).toInt32)) + p1)).toInt < ((50 : Nat) : Int)) ⟨g70, fx_lnk g71 hA6⟩ ?_
      refine fx_b (tgt := 34) aj_d298 rfl (Nat.le_succ _) rfl (fun q8 => ?_) (fun q8 => ?_)
      · skip
        refine fx_qe (c := (p2).toInt < ((X2.1 131 ((((X2.1 117 0) * ((Int8.ofInt 10).toInt32)) + p1)).toInt.toNat)).toInt) (fx_t_ge q8) ?_
        show fx_W _ _ _ 34 lv1 [] _ _
        refine fx_n (pc' := 35) (lv' := lv1) (st' := [.int (Int32.ofInt 0)]) aj_d298 rfl (Nat.le_succ _) (fun _ => rfl) ?_
        exact fx_ri aj_d298 rfl ⟨_, rfl, 0, rfl, rfl⟩
      · skip
        refine fx_qi (c := (p2).toInt < ((X2.1 131 ((((X2.1 117 0) * ((Int8.ofInt 10).toInt32)) + p1)).toInt.toNat)).toInt) (fx_f_ge q8) ?_
        show fx_W _ _ _ 30 lv1 [] _ _
        refine fx_n (pc' := 31) (lv' := lv1) (st' := [.int (Int32.ofInt 1)]) aj_d298 rfl (Nat.le_succ _) (fun _ => rfl) ?_
        refine fx_n (pc' := 35) (lv' := lv1) (st' := [.int (Int32.ofInt 1)]) aj_d298 rfl (Nat.le_succ _) (fun _ => rfl) ?_
        exact fx_ri aj_d298 rfl ⟨_, rfl, 0, rfl, rfl⟩
def gx_297 (p1 : Int32) (p2 : Int32) (p3 : Int32) (p4 : Int32) (X : fx_X) (v : Int32) (X' : fx_X) : Prop :=
  ∃ (w3 : Int32) (X2 : fx_X), gx_298 p1 p2 X w3 X2 ∧ (if (w3).toInt = 0 then (v = (Int32.ofInt (-100000)) ∧ X' = X2) else ((if (p3).toInt < 0 then (v = (Int32.ofInt (-100000)) ∧ X' = X2) else ((0 ≤ ((((X2.1 117 0) * ((Int8.ofInt 10).toInt32)) + p1)).toInt ∧ ((((X2.1 117 0) * ((Int8.ofInt 10).toInt32)) + p1)).toInt < ((50 : Nat) : Int)) ∧ (if (p3).toInt < ((X2.1 132 ((((X2.1 117 0) * ((Int8.ofInt 10).toInt32)) + p1)).toInt.toNat)).toInt then ((if (p4).toInt < 0 then (v = (Int32.ofInt (-100000)) ∧ X' = X2) else ((if 1 < (p4).toInt then (v = (Int32.ofInt (-100000)) ∧ X' = X2) else (∃ (w12 : Int32) (X11 : fx_X), gx_236 (((X2.1 117 0) * ((Int8.ofInt 10).toInt32)) + p1) p2 p3 X2 w12 X11 ∧ (if (p4).toInt = 0 then ((0 ≤ (w12).toInt ∧ (w12).toInt < ((12000 : Nat) : Int)) ∧ v = (X11.1 134 (w12).toInt.toNat) ∧ X' = X11) else ((0 ≤ (w12).toInt ∧ (w12).toInt < ((12000 : Nat) : Int)) ∧ v = (X11.1 135 (w12).toInt.toNat) ∧ X' = X11))))))) else (v = (Int32.ofInt (-100000)) ∧ X' = X2))))))
theorem gx_297_ok {tb : aj_T} (p1 : Int32) (p2 : Int32) (p3 : Int32) (p4 : Int32) {X : fx_X} : fx_K tb 297 [.ref 117, .int p1, .int p2, .int p3, .int p4] X (fx_Q fx_qI (fun v X' => gx_297 p1 p2 p3 p4 X v X')) := by
  refine fx_m aj_m297_at rfl (fun N => ?_)
  refine fx_mono (Q := fx_Q fx_qI (fun v X' => ∃ n : Nat, gx_297 p1 p2 p3 p4 X v X')) (fun r X' ⟨v, e, _, z⟩ => ⟨v, e, z⟩) ?_
  unfold gx_297
  show fx_W _ _ _ 0 [(0, .ref 117), (1, .int p1), (2, .int p2), (3, .int p3), (4, .int p4)] [] _ _
  obtain ⟨lv1, elv1⟩ : ∃ l : aj_V, l = [(0, .ref 117), (1, .int p1), (2, .int p2), (3, .int p3), (4, .int p4)] := ⟨_, rfl⟩
  rw [← elv1]
  have hlv1_0 : aj_lv lv1 0 = some (.ref 117) := by rw [elv1]; rfl
  have hlv1_1 : aj_lv lv1 1 = some (.int p1) := by rw [elv1]; rfl
  have hlv1_2 : aj_lv lv1 2 = some (.int p2) := by rw [elv1]; rfl
  have hlv1_3 : aj_lv lv1 3 = some (.int p3) := by rw [elv1]; rfl
  have hlv1_4 : aj_lv lv1 4 = some (.int p4) := by rw [elv1]; rfl
  refine fx_i2 aj_d297 rfl (Nat.le_succ _) (fun _ => rfl) hlv1_0 ?_
  refine fx_i0 aj_d297 rfl (Nat.le_succ _) (fun _ => rfl) hlv1_1 ?_
  refine fx_i0 aj_d297 rfl (Nat.le_succ _) (fun _ => rfl) hlv1_2 ?_
  refine fx_cv aj_d297 rfl (Nat.le_succ _) rfl [_, _] rfl rfl (gx_298_ok p1 p2) ?_
  rintro _ X2 ⟨w3, rfl, hR2⟩ hok2 hle2
  refine fx_qc hR2 ?_
  show fx_W _ _ _ 6 lv1 [.int w3] _ _
  refine fx_b0 (tgt := 42) aj_d297 rfl (Nat.le_succ _) rfl (fun q4 => ?_) (fun q4 => ?_)
  · skip
    refine fx_qi (c := (w3).toInt = 0) (fx_t_eq q4) ?_
    show fx_W _ _ _ 42 lv1 [] _ _
    refine fx_n (pc' := 45) (lv' := lv1) (st' := [.int (Int32.ofInt (-100000))]) aj_d297 rfl (Nat.le_succ _) (fun _ => rfl) ?_
    exact fx_ri aj_d297 rfl ⟨_, rfl, 0, rfl, rfl⟩
  · skip
    refine fx_qe (c := (w3).toInt = 0) (fx_f_eq q4) ?_
    show fx_W _ _ _ 9 lv1 [] _ _
    refine fx_i0 aj_d297 rfl (Nat.le_succ _) (fun _ => rfl) hlv1_3 ?_
    refine fx_b0 (tgt := 42) aj_d297 rfl (Nat.le_succ _) rfl (fun q5 => ?_) (fun q5 => ?_)
    · skip
      refine fx_qi (c := (p3).toInt < 0) (fx_t_lt q5) ?_
      show fx_W _ _ _ 42 lv1 [] _ _
      refine fx_n (pc' := 45) (lv' := lv1) (st' := [.int (Int32.ofInt (-100000))]) aj_d297 rfl (Nat.le_succ _) (fun _ => rfl) ?_
      exact fx_ri aj_d297 rfl ⟨_, rfl, 0, rfl, rfl⟩
    · skip
      refine fx_qe (c := (p3).toInt < 0) (fx_f_lt q5) ?_
      show fx_W _ _ _ 13 lv1 [] _ _
      refine fx_i0 aj_d297 rfl (Nat.le_succ _) (fun _ => rfl) hlv1_3 ?_
      refine fx_i2 aj_d297 rfl (Nat.le_succ _) (fun _ => rfl) hlv1_0 ?_
      refine fx_gF aj_d297 rfl (Nat.le_succ _) rfl rfl fx_in_11_16 (t := 132) rfl (fun hA6 => ?_)
      refine fx_i2 aj_d297 rfl (Nat.le_succ _) (fun _ => rfl) hlv1_0 ?_
      refine fx_gI aj_d297 rfl (Nat.le_succ _) rfl rfl (Or.inl rfl) ?_
      refine fx_n (pc' := 24) (lv' := lv1) (st' := [.int ((Int8.ofInt 10).toInt32), .int (X2.1 117 0), .ref 132, .int p3]) aj_d297 rfl (Nat.le_succ _) (fun _ => rfl) ?_
      refine fx_n (pc' := 25) (lv' := lv1) (st' := [.int ((X2.1 117 0) * ((Int8.ofInt 10).toInt32)), .ref 132, .int p3]) aj_d297 rfl (Nat.le_succ _) (fun _ => rfl) ?_
      refine fx_i0 aj_d297 rfl (Nat.le_succ _) (fun _ => rfl) hlv1_1 ?_
      refine fx_n (pc' := 27) (lv' := lv1) (st' := [.int (((X2.1 117 0) * ((Int8.ofInt 10).toInt32)) + p1), .ref 132, .int p3]) aj_d297 rfl (Nat.le_succ _) (fun _ => rfl) ?_
      refine fx_ld aj_d297 (Or.inl rfl) rfl (Nat.le_succ _) (fun g70 g71 => ?_)
      show fx_W _ _ _ 28 lv1 [.int (X2.1 132 ((((X2.1 117 0) * ((Int8.ofInt 10).toInt32)) + p1)).toInt.toNat), .int p3] _ _
      refine fx_qa (c := 0 ≤ ((((X2.1 117 0) * ((Int8.ofInt 10).toInt32)) + p1)).toInt ∧ ((((X2.1 117 0) * ((Int8.ofInt 10).toInt32)) + p1)).toInt < ((50 : Nat) : Int)) ⟨g70, fx_lnk g71 hA6⟩ ?_
      refine fx_b (tgt := 42) aj_d297 rfl (Nat.le_succ _) rfl (fun q8 => ?_) (fun q8 => ?_)
      · skip
        refine fx_qe (c := (p3).toInt < ((X2.1 132 ((((X2.1 117 0) * ((Int8.ofInt 10).toInt32)) + p1)).toInt.toNat)).toInt) (fx_t_ge q8) ?_
        show fx_W _ _ _ 42 lv1 [] _ _
        refine fx_n (pc' := 45) (lv' := lv1) (st' := [.int (Int32.ofInt (-100000))]) aj_d297 rfl (Nat.le_succ _) (fun _ => rfl) ?_
        exact fx_ri aj_d297 rfl ⟨_, rfl, 0, rfl, rfl⟩
      · skip
        refine fx_qi (c := (p3).toInt < ((X2.1 132 ((((X2.1 117 0) * ((Int8.ofInt 10).toInt32)) + p1)).toInt.toNat)).toInt) (fx_f_ge q8) ?_
        show fx_W _ _ _ 31 lv1 [] _ _
        refine fx_i0 aj_d297 rfl (Nat.le_succ _) (fun _ => rfl) hlv1_4 ?_
        refine fx_b0 (tgt := 42) aj_d297 rfl (Nat.le_succ _) rfl (fun q9 => ?_) (fun q9 => ?_)
        · skip
          refine fx_qi (c := (p4).toInt < 0) (fx_t_lt q9) ?_
          show fx_W _ _ _ 42 lv1 [] _ _
          refine fx_n (pc' := 45) (lv' := lv1) (st' := [.int (Int32.ofInt (-100000))]) aj_d297 rfl (Nat.le_succ _) (fun _ => rfl) ?_
          exact fx_ri aj_d297 rfl ⟨_, rfl, 0, rfl, rfl⟩
        · skip
          refine fx_qe (c := (p4).toInt < 0) (fx_f_lt q9) ?_
          show fx_W _ _ _ 36 lv1 [] _ _
          refine fx_i0 aj_d297 rfl (Nat.le_succ _) (fun _ => rfl) hlv1_4 ?_
          refine fx_n (pc' := 39) (lv' := lv1) (st' := [.int (Int32.ofInt 1), .int p4]) aj_d297 rfl (Nat.le_succ _) (fun _ => rfl) ?_
          refine fx_b (tgt := 46) aj_d297 rfl (Nat.le_succ _) rfl (fun q10 => ?_) (fun q10 => ?_)
          · skip
            refine fx_qe (c := 1 < (p4).toInt) (fx_t_le q10) ?_
            show fx_W _ _ _ 46 lv1 [] _ _
            refine fx_i2 aj_d297 rfl (Nat.le_succ _) (fun _ => rfl) hlv1_0 ?_
            refine fx_gI aj_d297 rfl (Nat.le_succ _) rfl rfl (Or.inl rfl) ?_
            refine fx_n (pc' := 52) (lv' := lv1) (st' := [.int ((Int8.ofInt 10).toInt32), .int (X2.1 117 0)]) aj_d297 rfl (Nat.le_succ _) (fun _ => rfl) ?_
            refine fx_n (pc' := 53) (lv' := lv1) (st' := [.int ((X2.1 117 0) * ((Int8.ofInt 10).toInt32))]) aj_d297 rfl (Nat.le_succ _) (fun _ => rfl) ?_
            refine fx_i0 aj_d297 rfl (Nat.le_succ _) (fun _ => rfl) hlv1_1 ?_
            refine fx_n (pc' := 55) (lv' := lv1) (st' := [.int (((X2.1 117 0) * ((Int8.ofInt 10).toInt32)) + p1)]) aj_d297 rfl (Nat.le_succ _) (fun _ => rfl) ?_
            refine fx_i0 aj_d297 rfl (Nat.le_succ _) (fun _ => rfl) hlv1_2 ?_
            refine fx_i0 aj_d297 rfl (Nat.le_succ _) (fun _ => rfl) hlv1_3 ?_
            refine fx_cs aj_d297 rfl (Nat.le_succ _) rfl rfl [_, _, _] rfl rfl (gx_236_ok (((X2.1 117 0) * ((Int8.ofInt 10).toInt32)) + p1) p2 p3) ?_
            rintro _ X11 ⟨w12, rfl, hR11⟩ hok11 hle11
            refine fx_qc hR11 ?_
            show fx_W _ _ _ 60 lv1 [.int w12] _ _
            refine fx_s0 (j := 5) aj_d297 rfl (Nat.le_succ _) (by decide) (fun _ => rfl) ?_
            obtain ⟨lv13, elv13⟩ : ∃ l, l = aj_set1 lv1 5 (.int w12) := ⟨_, rfl⟩
            rw [← elv13]
            have hlv13_0 : aj_lv lv13 0 = some (.ref 117) := fx_e1 elv13 hlv1_0 (by decide) (Or.inl (by decide))
            have hlv13_4 : aj_lv lv13 4 = some (.int p4) := fx_e1 elv13 hlv1_4 (by decide) (Or.inr rfl)
            have hlv13_5 : aj_lv lv13 5 = some (.int w12) := by rw [elv13]; exact ak_set1_eq _ _ _
            show fx_W _ _ _ 62 lv13 [] _ _
            refine fx_i0 aj_d297 rfl (Nat.le_succ _) (fun _ => rfl) hlv13_4 ?_
            refine fx_b0 (tgt := 77) aj_d297 rfl (Nat.le_succ _) rfl (fun q14 => ?_) (fun q14 => ?_)
            · skip
              refine fx_qe (c := (p4).toInt = 0) (fx_t_ne q14) ?_
              show fx_W _ _ _ 77 lv13 [] _ _
              refine fx_i2 aj_d297 rfl (Nat.le_succ _) (fun _ => rfl) hlv13_0 ?_
              refine fx_gF aj_d297 rfl (Nat.le_succ _) rfl rfl fx_in_11_19 (t := 135) rfl (fun hA15 => ?_)
              refine fx_i0 aj_d297 rfl (Nat.le_succ _) (fun _ => rfl) hlv13_5 ?_
              refine fx_ld aj_d297 (Or.inl rfl) rfl (Nat.le_succ _) (fun g160 g161 => ?_)
              show fx_W _ _ _ 84 lv13 [.int (X11.1 135 (w12).toInt.toNat)] _ _
              refine fx_qa (c := 0 ≤ (w12).toInt ∧ (w12).toInt < ((12000 : Nat) : Int)) ⟨g160, fx_lnk g161 hA15⟩ ?_
              exact fx_ri aj_d297 rfl ⟨_, rfl, 0, rfl, rfl⟩
            · skip
              refine fx_qi (c := (p4).toInt = 0) (fx_f_ne q14) ?_
              show fx_W _ _ _ 67 lv13 [] _ _
              refine fx_i2 aj_d297 rfl (Nat.le_succ _) (fun _ => rfl) hlv13_0 ?_
              refine fx_gF aj_d297 rfl (Nat.le_succ _) rfl rfl fx_in_11_18 (t := 134) rfl (fun hA17 => ?_)
              refine fx_i0 aj_d297 rfl (Nat.le_succ _) (fun _ => rfl) hlv13_5 ?_
              refine fx_ld aj_d297 (Or.inr (Or.inr rfl)) rfl (Nat.le_succ _) (fun g180 g181 => ?_)
              show fx_W _ _ _ 74 lv13 [.int (X11.1 134 (w12).toInt.toNat)] _ _
              refine fx_qa (c := 0 ≤ (w12).toInt ∧ (w12).toInt < ((12000 : Nat) : Int)) ⟨g180, fx_lnk g181 hA17⟩ ?_
              refine fx_n (pc' := 84) (lv' := lv13) (st' := [.int (X11.1 134 (w12).toInt.toNat)]) aj_d297 rfl (Nat.le_succ _) (fun _ => rfl) ?_
              exact fx_ri aj_d297 rfl ⟨_, rfl, 0, rfl, rfl⟩
          · skip
            refine fx_qi (c := 1 < (p4).toInt) (fx_f_le q10) ?_
            show fx_W _ _ _ 42 lv1 [] _ _
            refine fx_n (pc' := 45) (lv' := lv1) (st' := [.int (Int32.ofInt (-100000))]) aj_d297 rfl (Nat.le_succ _) (fun _ => rfl) ?_
            exact fx_ri aj_d297 rfl ⟨_, rfl, 0, rfl, rfl⟩
def gxT_299_16 (p1 : Int32) (p2 : Int32) (P : Nat → List Int32 → List Int64 → List Nat → fx_X → Int32 → fx_X → Prop) (y3 : Int32) (y4 : Int32) (X : fx_X) (v : Int32) (X' : fx_X) : Prop :=
  (0 ≤ ((X.1 117 0)).toInt ∧ ((X.1 117 0)).toInt < ((2 : Nat) : Int)) ∧ (if (y4).toInt < ((X.1 122 ((X.1 117 0)).toInt.toNat)).toInt then (∃ (w11 : Int32) (X10 : fx_X), gx_247 (X.1 117 0) y4 X w11 X10 ∧ (if (w11).toInt = 0 then (∃ x14 : Int32, x14 = y4 + Int32.ofInt 1 ∧ P 16 [y3, x14] [] [] X10 v X') else (∃ (w18 : Int32) (X17 : fx_X), gx_225 (((X10.1 117 0) * ((Int8.ofInt 10).toInt32)) + p1) p2 X10 w18 X17 ∧ ∃ (w20 : Int32) (X19 : fx_X), gx_227 136 w18 y4 X17 w20 X19 ∧ (if (w20).toInt = 0 then (∃ x23 : Int32, x23 = y4 + Int32.ofInt 1 ∧ P 16 [y3, x23] [] [] X19 v X') else (∃ x25 : Int32, x25 = (y3 + (Int32.ofInt 1)) ∧ ∃ x27 : Int32, x27 = y4 + Int32.ofInt 1 ∧ P 16 [x25, x27] [] [] X19 v X'))))) else (v = y3 ∧ X' = X))
def gxE_299 (p1 : Int32) (p2 : Int32) (P : Nat → List Int32 → List Int64 → List Nat → fx_X → Int32 → fx_X → Prop) (X : fx_X) (v : Int32) (X' : fx_X) : Prop :=
  ∃ (w3 : Int32) (X2 : fx_X), gx_298 p1 p2 X w3 X2 ∧ (if (w3).toInt = 0 then (v = (Int32.ofInt (-1)) ∧ X' = X2) else (P 16 [(Int32.ofInt 0), (Int32.ofInt 0)] [] [] X2 v X'))
noncomputable def gxF_299 (p1 : Int32) (p2 : Int32) (n : Nat) : Nat → List Int32 → List Int64 → List Nat → fx_X → Int32 → fx_X → Prop := Nat.rec (motive := fun _ => Nat → List Int32 → List Int64 → List Nat → fx_X → Int32 → fx_X → Prop) (fun _ _ _ _ _ _ _ => False) (fun _ P l is ls rs X v X' => (l = 16 ∧ ∃ (y3 : Int32) (y4 : Int32), is = [y3, y4] ∧ ls = [] ∧ rs = [] ∧ gxT_299_16 p1 p2 P y3 y4 X v X')) n
theorem gxI_299_16 {p1 : Int32} {p2 : Int32} {n : Nat} {y3 : Int32} {y4 : Int32} {X : fx_X} {v : Int32} {X' : fx_X} (h : gxT_299_16 p1 p2 (gxF_299 p1 p2 n) y3 y4 X v X') : gxF_299 p1 p2 (n + 1) 16 [y3, y4] [] [] X v X' := ⟨rfl, y3, y4, rfl, rfl, rfl, h⟩
theorem gxO_299_16 {p1 : Int32} {p2 : Int32} {n : Nat} {y3 : Int32} {y4 : Int32} {X : fx_X} {v : Int32} {X' : fx_X} (h : gxF_299 p1 p2 (n + 1) 16 [y3, y4] [] [] X v X') : gxT_299_16 p1 p2 (gxF_299 p1 p2 n) y3 y4 X v X' := by
  rcases h with ⟨-, _, _, e1, e2, e3, h⟩
  · cases e1; cases e2; cases e3; exact h
def gx_299 (p1 : Int32) (p2 : Int32) (X : fx_X) (v : Int32) (X' : fx_X) : Prop := ∃ n : Nat, gxE_299 p1 p2 (gxF_299 p1 p2 n) X v X'
theorem gxL_299 {tb : aj_T} (p1 : Int32) (p2 : Int32) : ∀ N : Nat, (∀ (lv : aj_V) (y3 : Int32) (y4 : Int32) (X : fx_X), aj_lv lv 0 = some (.ref 117) → aj_lv lv 1 = some (.int p1) → aj_lv lv 2 = some (.int p2) → aj_lv lv 3 = some (.int y3) → aj_lv lv 4 = some (.int y4) → fx_W tb aj_m299 N 16 lv [] X (fx_Q fx_qI (fun v X' => ∃ n : Nat, gxF_299 p1 p2 n 16 [y3, y4] [] [] X v X'))) := by
  intro N
  induction N with
  | zero => exact (by intros; exact fx_z)
  | succ N ih =>
    skip
    · intro lv y3 y4 X hlv_0 hlv_1 hlv_2 hlv_3 hlv_4
      refine fx_mono (Q := fx_Q fx_qI (fun v X' => ∃ n : Nat, gxT_299_16 p1 p2 (gxF_299 p1 p2 n) y3 y4 X v X')) (fun r X' ⟨v, e, n, z⟩ => ⟨v, e, n + 1, gxI_299_16 z⟩) ?_
      unfold gxT_299_16
      refine fx_i0 aj_d299 rfl (Nat.le_refl _) (fun _ => rfl) hlv_4 ?_
      refine fx_i2 aj_d299 rfl (Nat.le_succ _) (fun _ => rfl) hlv_0 ?_
      refine fx_gF aj_d299 rfl (Nat.le_succ _) rfl rfl fx_in_11_5 (t := 122) rfl (fun hA7 => ?_)
      refine fx_i2 aj_d299 rfl (Nat.le_succ _) (fun _ => rfl) hlv_0 ?_
      refine fx_gI aj_d299 rfl (Nat.le_succ _) rfl rfl (Or.inl rfl) ?_
      refine fx_ld aj_d299 (Or.inl rfl) rfl (Nat.le_succ _) (fun g80 g81 => ?_)
      show fx_W _ _ _ 27 lv [.int (X.1 122 ((X.1 117 0)).toInt.toNat), .int y4] _ _
      refine fx_qa (c := 0 ≤ ((X.1 117 0)).toInt ∧ ((X.1 117 0)).toInt < ((2 : Nat) : Int)) ⟨g80, fx_lnk g81 hA7⟩ ?_
      refine fx_b (tgt := 83) aj_d299 rfl (Nat.le_succ _) rfl (fun q9 => ?_) (fun q9 => ?_)
      · skip
        refine fx_qe (c := (y4).toInt < ((X.1 122 ((X.1 117 0)).toInt.toNat)).toInt) (fx_t_ge q9) ?_
        show fx_W _ _ _ 83 lv [] _ _
        refine fx_i0 aj_d299 rfl (Nat.le_succ _) (fun _ => rfl) hlv_3 ?_
        exact fx_ri aj_d299 rfl ⟨_, rfl, 0, rfl, rfl⟩
      · skip
        refine fx_qi (c := (y4).toInt < ((X.1 122 ((X.1 117 0)).toInt.toNat)).toInt) (fx_f_ge q9) ?_
        show fx_W _ _ _ 30 lv [] _ _
        refine fx_i2 aj_d299 rfl (Nat.le_succ _) (fun _ => rfl) hlv_0 ?_
        refine fx_i2 aj_d299 rfl (Nat.le_succ _) (fun _ => rfl) hlv_0 ?_
        refine fx_gI aj_d299 rfl (Nat.le_succ _) rfl rfl (Or.inl rfl) ?_
        refine fx_i0 aj_d299 rfl (Nat.le_succ _) (fun _ => rfl) hlv_4 ?_
        refine fx_cv aj_d299 rfl (Nat.le_succ _) rfl [_, _] rfl rfl (gx_247_ok (X.1 117 0) y4) ?_
        rintro _ X10 ⟨w11, rfl, hR10⟩ hok10 hle10
        refine fx_qc hR10 ?_
        show fx_W _ _ _ 40 lv [.int w11] _ _
        refine fx_b0 (tgt := 75) aj_d299 rfl (Nat.le_succ _) rfl (fun q12 => ?_) (fun q12 => ?_)
        · skip
          refine fx_qi (c := (w11).toInt = 0) (fx_t_eq q12) ?_
          show fx_W _ _ _ 75 lv [] _ _
          refine fx_i0 aj_d299 rfl (Nat.le_succ _) (fun _ => rfl) hlv_3 ?_
          refine fx_s0 (j := 3) aj_d299 rfl (Nat.le_succ _) (by decide) (fun _ => rfl) ?_
          obtain ⟨lv13, elv13⟩ : ∃ l, l = aj_set1 lv 3 (.int y3) := ⟨_, rfl⟩
          rw [← elv13]
          have hlv13_0 : aj_lv lv13 0 = some (.ref 117) := fx_e1 elv13 hlv_0 (by decide) (Or.inl (by decide))
          have hlv13_1 : aj_lv lv13 1 = some (.int p1) := fx_e1 elv13 hlv_1 (by decide) (Or.inl (by decide))
          have hlv13_2 : aj_lv lv13 2 = some (.int p2) := fx_e1 elv13 hlv_2 (by decide) (Or.inr rfl)
          have hlv13_4 : aj_lv lv13 4 = some (.int y4) := fx_e1 elv13 hlv_4 (by decide) (Or.inl (by decide))
          have hlv13_3 : aj_lv lv13 3 = some (.int y3) := by rw [elv13]; exact ak_set1_eq _ _ _
          show fx_W _ _ _ 77 lv13 [] _ _
          refine fx_incq aj_d299 rfl (Nat.le_succ _) hlv13_4 (by decide) (fun x14 ex14 => ?_)
          obtain ⟨lv15, elv15⟩ : ∃ l, l = aj_set1 lv13 4 (.int x14) := ⟨_, rfl⟩
          rw [← elv15]
          have hlv15_0 : aj_lv lv15 0 = some (.ref 117) := fx_e1 elv15 hlv13_0 (by decide) (Or.inl (by decide))
          have hlv15_1 : aj_lv lv15 1 = some (.int p1) := fx_e1 elv15 hlv13_1 (by decide) (Or.inl (by decide))
          have hlv15_2 : aj_lv lv15 2 = some (.int p2) := fx_e1 elv15 hlv13_2 (by decide) (Or.inl (by decide))
          have hlv15_3 : aj_lv lv15 3 = some (.int y3) := fx_e1 elv15 hlv13_3 (by decide) (Or.inr rfl)
          have hlv15_4 : aj_lv lv15 4 = some (.int x14) := by rw [elv15]; exact ak_set1_eq _ _ _
          show fx_W _ _ _ 80 lv15 [] _ _
          refine fx_n (pc' := 16) (lv' := lv15) (st' := []) aj_d299 rfl (Nat.le_succ _) (fun _ => rfl) ?_
          exact (ih) lv15 (y3) (x14) X10  hlv15_0 hlv15_1 hlv15_2 hlv15_3 hlv15_4
        · skip
          refine fx_qe (c := (w11).toInt = 0) (fx_f_eq q12) ?_
          show fx_W _ _ _ 43 lv [] _ _
          refine fx_i2 aj_d299 rfl (Nat.le_succ _) (fun _ => rfl) hlv_0 ?_
          refine fx_gF aj_d299 rfl (Nat.le_succ _) rfl rfl fx_in_11_20 (t := 136) rfl (fun hA16 => ?_)
          refine fx_i2 aj_d299 rfl (Nat.le_succ _) (fun _ => rfl) hlv_0 ?_
          refine fx_i2 aj_d299 rfl (Nat.le_succ _) (fun _ => rfl) hlv_0 ?_
          refine fx_gI aj_d299 rfl (Nat.le_succ _) rfl rfl (Or.inl rfl) ?_
          refine fx_n (pc' := 54) (lv' := lv) (st' := [.int ((Int8.ofInt 10).toInt32), .int (X10.1 117 0), .ref 117, .ref 136]) aj_d299 rfl (Nat.le_succ _) (fun _ => rfl) ?_
          refine fx_n (pc' := 55) (lv' := lv) (st' := [.int ((X10.1 117 0) * ((Int8.ofInt 10).toInt32)), .ref 117, .ref 136]) aj_d299 rfl (Nat.le_succ _) (fun _ => rfl) ?_
          refine fx_i0 aj_d299 rfl (Nat.le_succ _) (fun _ => rfl) hlv_1 ?_
          refine fx_n (pc' := 57) (lv' := lv) (st' := [.int (((X10.1 117 0) * ((Int8.ofInt 10).toInt32)) + p1), .ref 117, .ref 136]) aj_d299 rfl (Nat.le_succ _) (fun _ => rfl) ?_
          refine fx_i0 aj_d299 rfl (Nat.le_succ _) (fun _ => rfl) hlv_2 ?_
          refine fx_cv aj_d299 rfl (Nat.le_succ _) rfl [_, _] rfl rfl (gx_225_ok (((X10.1 117 0) * ((Int8.ofInt 10).toInt32)) + p1) p2) ?_
          rintro _ X17 ⟨w18, rfl, hR17⟩ hok17 hle17
          refine fx_qc hR17 ?_
          show fx_W _ _ _ 61 lv [.int w18, .ref 136] _ _
          refine fx_i0 aj_d299 rfl (Nat.le_succ _) (fun _ => rfl) hlv_4 ?_
          refine fx_cs aj_d299 rfl (Nat.le_succ _) rfl rfl [_, _, _] rfl rfl (gx_227_ok 136 w18 y4) ?_
          rintro _ X19 ⟨w20, rfl, hR19⟩ hok19 hle19
          refine fx_qc hR19 ?_
          show fx_W _ _ _ 66 lv [.int w20] _ _
          refine fx_b0 (tgt := 75) aj_d299 rfl (Nat.le_succ _) rfl (fun q21 => ?_) (fun q21 => ?_)
          · skip
            refine fx_qi (c := (w20).toInt = 0) (fx_t_eq q21) ?_
            show fx_W _ _ _ 75 lv [] _ _
            refine fx_i0 aj_d299 rfl (Nat.le_succ _) (fun _ => rfl) hlv_3 ?_
            refine fx_s0 (j := 3) aj_d299 rfl (Nat.le_succ _) (by decide) (fun _ => rfl) ?_
            obtain ⟨lv22, elv22⟩ : ∃ l, l = aj_set1 lv 3 (.int y3) := ⟨_, rfl⟩
            rw [← elv22]
            have hlv22_0 : aj_lv lv22 0 = some (.ref 117) := fx_e1 elv22 hlv_0 (by decide) (Or.inl (by decide))
            have hlv22_1 : aj_lv lv22 1 = some (.int p1) := fx_e1 elv22 hlv_1 (by decide) (Or.inl (by decide))
            have hlv22_2 : aj_lv lv22 2 = some (.int p2) := fx_e1 elv22 hlv_2 (by decide) (Or.inr rfl)
            have hlv22_4 : aj_lv lv22 4 = some (.int y4) := fx_e1 elv22 hlv_4 (by decide) (Or.inl (by decide))
            have hlv22_3 : aj_lv lv22 3 = some (.int y3) := by rw [elv22]; exact ak_set1_eq _ _ _
            show fx_W _ _ _ 77 lv22 [] _ _
            refine fx_incq aj_d299 rfl (Nat.le_succ _) hlv22_4 (by decide) (fun x23 ex23 => ?_)
            obtain ⟨lv24, elv24⟩ : ∃ l, l = aj_set1 lv22 4 (.int x23) := ⟨_, rfl⟩
            rw [← elv24]
            have hlv24_0 : aj_lv lv24 0 = some (.ref 117) := fx_e1 elv24 hlv22_0 (by decide) (Or.inl (by decide))
            have hlv24_1 : aj_lv lv24 1 = some (.int p1) := fx_e1 elv24 hlv22_1 (by decide) (Or.inl (by decide))
            have hlv24_2 : aj_lv lv24 2 = some (.int p2) := fx_e1 elv24 hlv22_2 (by decide) (Or.inl (by decide))
            have hlv24_3 : aj_lv lv24 3 = some (.int y3) := fx_e1 elv24 hlv22_3 (by decide) (Or.inr rfl)
            have hlv24_4 : aj_lv lv24 4 = some (.int x23) := by rw [elv24]; exact ak_set1_eq _ _ _
            show fx_W _ _ _ 80 lv24 [] _ _
            refine fx_n (pc' := 16) (lv' := lv24) (st' := []) aj_d299 rfl (Nat.le_succ _) (fun _ => rfl) ?_
            exact (ih) lv24 (y3) (x23) X19  hlv24_0 hlv24_1 hlv24_2 hlv24_3 hlv24_4
          · skip
            refine fx_qe (c := (w20).toInt = 0) (fx_f_eq q21) ?_
            show fx_W _ _ _ 69 lv [] _ _
            refine fx_i0 aj_d299 rfl (Nat.le_succ _) (fun _ => rfl) hlv_3 ?_
            refine fx_n (pc' := 71) (lv' := lv) (st' := [.int (Int32.ofInt 1), .int y3]) aj_d299 rfl (Nat.le_succ _) (fun _ => rfl) ?_
            refine fx_n (pc' := 72) (lv' := lv) (st' := [.int (y3 + (Int32.ofInt 1))]) aj_d299 rfl (Nat.le_succ _) (fun _ => rfl) ?_
            refine fx_n (pc' := 76) (lv' := lv) (st' := [.int (y3 + (Int32.ofInt 1))]) aj_d299 rfl (Nat.le_succ _) (fun _ => rfl) ?_
            refine fx_qxI (fun x25 ex25 => ?_)
            refine fx_s0 (j := 3) aj_d299 rfl (Nat.le_succ _) (by decide) (fun _ => rfl) ?_
            obtain ⟨lv26, elv26⟩ : ∃ l, l = aj_set1 lv 3 (.int x25) := ⟨_, rfl⟩
            rw [← elv26]
            have hlv26_0 : aj_lv lv26 0 = some (.ref 117) := fx_e1 elv26 hlv_0 (by decide) (Or.inl (by decide))
            have hlv26_1 : aj_lv lv26 1 = some (.int p1) := fx_e1 elv26 hlv_1 (by decide) (Or.inl (by decide))
            have hlv26_2 : aj_lv lv26 2 = some (.int p2) := fx_e1 elv26 hlv_2 (by decide) (Or.inr rfl)
            have hlv26_4 : aj_lv lv26 4 = some (.int y4) := fx_e1 elv26 hlv_4 (by decide) (Or.inl (by decide))
            have hlv26_3 : aj_lv lv26 3 = some (.int x25) := by rw [elv26]; exact ak_set1_eq _ _ _
            show fx_W _ _ _ 77 lv26 [] _ _
            refine fx_incq aj_d299 rfl (Nat.le_succ _) hlv26_4 (by decide) (fun x27 ex27 => ?_)
            obtain ⟨lv28, elv28⟩ : ∃ l, l = aj_set1 lv26 4 (.int x27) := ⟨_, rfl⟩
            rw [← elv28]
            have hlv28_0 : aj_lv lv28 0 = some (.ref 117) := fx_e1 elv28 hlv26_0 (by decide) (Or.inl (by decide))
            have hlv28_1 : aj_lv lv28 1 = some (.int p1) := fx_e1 elv28 hlv26_1 (by decide) (Or.inl (by decide))
            have hlv28_2 : aj_lv lv28 2 = some (.int p2) := fx_e1 elv28 hlv26_2 (by decide) (Or.inl (by decide))
            have hlv28_3 : aj_lv lv28 3 = some (.int x25) := fx_e1 elv28 hlv26_3 (by decide) (Or.inr rfl)
            have hlv28_4 : aj_lv lv28 4 = some (.int x27) := by rw [elv28]; exact ak_set1_eq _ _ _
            show fx_W _ _ _ 80 lv28 [] _ _
            refine fx_n (pc' := 16) (lv' := lv28) (st' := []) aj_d299 rfl (Nat.le_succ _) (fun _ => rfl) ?_
            exact (ih) lv28 (x25) (x27) X19  hlv28_0 hlv28_1 hlv28_2 hlv28_3 hlv28_4
theorem gx_299_ok {tb : aj_T} (p1 : Int32) (p2 : Int32) {X : fx_X} : fx_K tb 299 [.ref 117, .int p1, .int p2] X (fx_Q fx_qI (fun v X' => gx_299 p1 p2 X v X')) := by
  refine fx_m aj_m299_at rfl (fun N => ?_)
  refine fx_mono (Q := fx_Q fx_qI (fun v X' => ∃ n : Nat, gxE_299 p1 p2 (gxF_299 p1 p2 n) X v X')) (fun r X' h => h) ?_
  unfold gxE_299
  show fx_W _ _ _ 0 [(0, .ref 117), (1, .int p1), (2, .int p2)] [] _ _
  obtain ⟨lv1, elv1⟩ : ∃ l : aj_V, l = [(0, .ref 117), (1, .int p1), (2, .int p2)] := ⟨_, rfl⟩
  rw [← elv1]
  have hlv1_0 : aj_lv lv1 0 = some (.ref 117) := by rw [elv1]; rfl
  have hlv1_1 : aj_lv lv1 1 = some (.int p1) := by rw [elv1]; rfl
  have hlv1_2 : aj_lv lv1 2 = some (.int p2) := by rw [elv1]; rfl
  refine fx_i2 aj_d299 rfl (Nat.le_succ _) (fun _ => rfl) hlv1_0 ?_
  refine fx_i0 aj_d299 rfl (Nat.le_succ _) (fun _ => rfl) hlv1_1 ?_
  refine fx_i0 aj_d299 rfl (Nat.le_succ _) (fun _ => rfl) hlv1_2 ?_
  refine fx_cv aj_d299 rfl (Nat.le_succ _) rfl [_, _] rfl rfl (gx_298_ok p1 p2) ?_
  rintro _ X2 ⟨w3, rfl, hR2⟩ hok2 hle2
  refine fx_qc hR2 ?_
  show fx_W _ _ _ 6 lv1 [.int w3] _ _
  refine fx_b0 (tgt := 11) aj_d299 rfl (Nat.le_succ _) rfl (fun q4 => ?_) (fun q4 => ?_)
  · skip
    refine fx_qe (c := (w3).toInt = 0) (fx_t_ne q4) ?_
    show fx_W _ _ _ 11 lv1 [] _ _
    refine fx_n (pc' := 12) (lv' := lv1) (st' := [.int (Int32.ofInt 0)]) aj_d299 rfl (Nat.le_succ _) (fun _ => rfl) ?_
    refine fx_s0 (j := 3) aj_d299 rfl (Nat.le_succ _) (by decide) (fun _ => rfl) ?_
    obtain ⟨lv5, elv5⟩ : ∃ l, l = aj_set1 lv1 3 (.int (Int32.ofInt 0)) := ⟨_, rfl⟩
    rw [← elv5]
    have hlv5_0 : aj_lv lv5 0 = some (.ref 117) := fx_e1 elv5 hlv1_0 (by decide) (Or.inl (by decide))
    have hlv5_1 : aj_lv lv5 1 = some (.int p1) := fx_e1 elv5 hlv1_1 (by decide) (Or.inl (by decide))
    have hlv5_2 : aj_lv lv5 2 = some (.int p2) := fx_e1 elv5 hlv1_2 (by decide) (Or.inr rfl)
    have hlv5_3 : aj_lv lv5 3 = some (.int (Int32.ofInt 0)) := by rw [elv5]; exact ak_set1_eq _ _ _
    show fx_W _ _ _ 13 lv5 [] _ _
    refine fx_n (pc' := 14) (lv' := lv5) (st' := [.int (Int32.ofInt 0)]) aj_d299 rfl (Nat.le_succ _) (fun _ => rfl) ?_
    refine fx_s0 (j := 4) aj_d299 rfl (Nat.le_succ _) (by decide) (fun _ => rfl) ?_
    obtain ⟨lv6, elv6⟩ : ∃ l, l = aj_set1 lv5 4 (.int (Int32.ofInt 0)) := ⟨_, rfl⟩
    rw [← elv6]
    have hlv6_0 : aj_lv lv6 0 = some (.ref 117) := fx_e1 elv6 hlv5_0 (by decide) (Or.inl (by decide))
    have hlv6_1 : aj_lv lv6 1 = some (.int p1) := fx_e1 elv6 hlv5_1 (by decide) (Or.inl (by decide))
    have hlv6_2 : aj_lv lv6 2 = some (.int p2) := fx_e1 elv6 hlv5_2 (by decide) (Or.inl (by decide))
    have hlv6_3 : aj_lv lv6 3 = some (.int (Int32.ofInt 0)) := fx_e1 elv6 hlv5_3 (by decide) (Or.inr rfl)
    have hlv6_4 : aj_lv lv6 4 = some (.int (Int32.ofInt 0)) := by rw [elv6]; exact ak_set1_eq _ _ _
    show fx_W _ _ _ 16 lv6 [] _ _
    exact ((gxL_299 p1 p2 N)) lv6 ((Int32.ofInt 0)) ((Int32.ofInt 0)) X2  hlv6_0 hlv6_1 hlv6_2 hlv6_3 hlv6_4
  · skip
    refine fx_qi (c := (w3).toInt = 0) (fx_f_ne q4) ?_
    show fx_W _ _ _ 9 lv1 [] _ _
    refine fx_n (pc' := 10) (lv' := lv1) (st' := [.int (Int32.ofInt (-1))]) aj_d299 rfl (Nat.le_succ _) (fun _ => rfl) ?_
    exact fx_ri aj_d299 rfl ⟨_, rfl, 0, rfl, rfl⟩
def gx_300 (p1 : Int32) (p2 : Int32) (p3 : Int32) (X : fx_X) (v : Int32) (X' : fx_X) : Prop :=
  ∃ (w3 : Int32) (X2 : fx_X), gx_298 p1 p2 X w3 X2 ∧ (if (w3).toInt = 0 then (v = (Int32.ofInt 0) ∧ X' = X2) else ((if (p3).toInt < 0 then (v = (Int32.ofInt 0) ∧ X' = X2) else (∃ (w9 : Int32) (X8 : fx_X), gx_289 p3 X2 w9 X8 ∧ (if (w9).toInt < 0 then (v = (Int32.ofInt 0) ∧ X' = X8) else (∃ (w14 : Int32) (X13 : fx_X), gx_225 (((X8.1 117 0) * ((Int8.ofInt 10).toInt32)) + p1) p2 X8 w14 X13 ∧ ∃ (w16 : Int32) (X15 : fx_X), gx_227 136 w14 w9 X13 w16 X15 ∧ (if (w16).toInt = 0 then (v = (Int32.ofInt 0) ∧ X' = X15) else (v = (Int32.ofInt 1) ∧ X' = X15))))))))
theorem gx_300_ok {tb : aj_T} (p1 : Int32) (p2 : Int32) (p3 : Int32) {X : fx_X} : fx_K tb 300 [.ref 117, .int p1, .int p2, .int p3] X (fx_Q fx_qI (fun v X' => gx_300 p1 p2 p3 X v X')) := by
  refine fx_m aj_m300_at rfl (fun N => ?_)
  refine fx_mono (Q := fx_Q fx_qI (fun v X' => ∃ n : Nat, gx_300 p1 p2 p3 X v X')) (fun r X' ⟨v, e, _, z⟩ => ⟨v, e, z⟩) ?_
  unfold gx_300
  show fx_W _ _ _ 0 [(0, .ref 117), (1, .int p1), (2, .int p2), (3, .int p3)] [] _ _
  obtain ⟨lv1, elv1⟩ : ∃ l : aj_V, l = [(0, .ref 117), (1, .int p1), (2, .int p2), (3, .int p3)] := ⟨_, rfl⟩
  rw [← elv1]
  have hlv1_0 : aj_lv lv1 0 = some (.ref 117) := by rw [elv1]; rfl
  have hlv1_1 : aj_lv lv1 1 = some (.int p1) := by rw [elv1]; rfl
  have hlv1_2 : aj_lv lv1 2 = some (.int p2) := by rw [elv1]; rfl
  have hlv1_3 : aj_lv lv1 3 = some (.int p3) := by rw [elv1]; rfl
  refine fx_i2 aj_d300 rfl (Nat.le_succ _) (fun _ => rfl) hlv1_0 ?_
  refine fx_i0 aj_d300 rfl (Nat.le_succ _) (fun _ => rfl) hlv1_1 ?_
  refine fx_i0 aj_d300 rfl (Nat.le_succ _) (fun _ => rfl) hlv1_2 ?_
  refine fx_cv aj_d300 rfl (Nat.le_succ _) rfl [_, _] rfl rfl (gx_298_ok p1 p2) ?_
  rintro _ X2 ⟨w3, rfl, hR2⟩ hok2 hle2
  refine fx_qc hR2 ?_
  show fx_W _ _ _ 6 lv1 [.int w3] _ _
  refine fx_b0 (tgt := 13) aj_d300 rfl (Nat.le_succ _) rfl (fun q4 => ?_) (fun q4 => ?_)
  · skip
    refine fx_qi (c := (w3).toInt = 0) (fx_t_eq q4) ?_
    show fx_W _ _ _ 13 lv1 [] _ _
    refine fx_n (pc' := 14) (lv' := lv1) (st' := [.int (Int32.ofInt (-1))]) aj_d300 rfl (Nat.le_succ _) (fun _ => rfl) ?_
    refine fx_n (pc' := 22) (lv' := lv1) (st' := [.int (Int32.ofInt (-1))]) aj_d300 rfl (Nat.le_succ _) (fun _ => rfl) ?_
    refine fx_s0 (j := 4) aj_d300 rfl (Nat.le_succ _) (by decide) (fun _ => rfl) ?_
    obtain ⟨lv5, elv5⟩ : ∃ l, l = aj_set1 lv1 4 (.int (Int32.ofInt (-1))) := ⟨_, rfl⟩
    rw [← elv5]
    have hlv5_0 : aj_lv lv5 0 = some (.ref 117) := fx_e1 elv5 hlv1_0 (by decide) (Or.inl (by decide))
    have hlv5_1 : aj_lv lv5 1 = some (.int p1) := fx_e1 elv5 hlv1_1 (by decide) (Or.inl (by decide))
    have hlv5_2 : aj_lv lv5 2 = some (.int p2) := fx_e1 elv5 hlv1_2 (by decide) (Or.inl (by decide))
    have hlv5_4 : aj_lv lv5 4 = some (.int (Int32.ofInt (-1))) := by rw [elv5]; exact ak_set1_eq _ _ _
    show fx_W _ _ _ 24 lv5 [] _ _
    refine fx_i0 aj_d300 rfl (Nat.le_succ _) (fun _ => rfl) hlv5_4 ?_
    refine fx_b0 (tgt := 59) aj_d300 rfl (Nat.le_succ _) rfl (fun q6 => ?_) (fun q6 => ?_)
    · skip
      show fx_W _ _ _ 59 lv5 [] _ _
      refine fx_n (pc' := 60) (lv' := lv5) (st' := [.int (Int32.ofInt 0)]) aj_d300 rfl (Nat.le_succ _) (fun _ => rfl) ?_
      exact fx_ri aj_d300 rfl ⟨_, rfl, 0, rfl, rfl⟩
    · exact absurd q6 (by decide)
  · skip
    refine fx_qe (c := (w3).toInt = 0) (fx_f_eq q4) ?_
    show fx_W _ _ _ 9 lv1 [] _ _
    refine fx_i0 aj_d300 rfl (Nat.le_succ _) (fun _ => rfl) hlv1_3 ?_
    refine fx_b0 (tgt := 17) aj_d300 rfl (Nat.le_succ _) rfl (fun q7 => ?_) (fun q7 => ?_)
    · skip
      refine fx_qe (c := (p3).toInt < 0) (fx_t_ge q7) ?_
      show fx_W _ _ _ 17 lv1 [] _ _
      refine fx_i2 aj_d300 rfl (Nat.le_succ _) (fun _ => rfl) hlv1_0 ?_
      refine fx_i0 aj_d300 rfl (Nat.le_succ _) (fun _ => rfl) hlv1_3 ?_
      refine fx_cv aj_d300 rfl (Nat.le_succ _) rfl [_] rfl rfl (gx_289_ok p3) ?_
      rintro _ X8 ⟨w9, rfl, hR8⟩ hok8 hle8
      refine fx_qc hR8 ?_
      show fx_W _ _ _ 22 lv1 [.int w9] _ _
      refine fx_s0 (j := 4) aj_d300 rfl (Nat.le_succ _) (by decide) (fun _ => rfl) ?_
      obtain ⟨lv10, elv10⟩ : ∃ l, l = aj_set1 lv1 4 (.int w9) := ⟨_, rfl⟩
      rw [← elv10]
      have hlv10_0 : aj_lv lv10 0 = some (.ref 117) := fx_e1 elv10 hlv1_0 (by decide) (Or.inl (by decide))
      have hlv10_1 : aj_lv lv10 1 = some (.int p1) := fx_e1 elv10 hlv1_1 (by decide) (Or.inl (by decide))
      have hlv10_2 : aj_lv lv10 2 = some (.int p2) := fx_e1 elv10 hlv1_2 (by decide) (Or.inl (by decide))
      have hlv10_4 : aj_lv lv10 4 = some (.int w9) := by rw [elv10]; exact ak_set1_eq _ _ _
      show fx_W _ _ _ 24 lv10 [] _ _
      refine fx_i0 aj_d300 rfl (Nat.le_succ _) (fun _ => rfl) hlv10_4 ?_
      refine fx_b0 (tgt := 59) aj_d300 rfl (Nat.le_succ _) rfl (fun q11 => ?_) (fun q11 => ?_)
      · skip
        refine fx_qi (c := (w9).toInt < 0) (fx_t_lt q11) ?_
        show fx_W _ _ _ 59 lv10 [] _ _
        refine fx_n (pc' := 60) (lv' := lv10) (st' := [.int (Int32.ofInt 0)]) aj_d300 rfl (Nat.le_succ _) (fun _ => rfl) ?_
        exact fx_ri aj_d300 rfl ⟨_, rfl, 0, rfl, rfl⟩
      · skip
        refine fx_qe (c := (w9).toInt < 0) (fx_f_lt q11) ?_
        show fx_W _ _ _ 29 lv10 [] _ _
        refine fx_i2 aj_d300 rfl (Nat.le_succ _) (fun _ => rfl) hlv10_0 ?_
        refine fx_gF aj_d300 rfl (Nat.le_succ _) rfl rfl fx_in_11_20 (t := 136) rfl (fun hA12 => ?_)
        refine fx_i2 aj_d300 rfl (Nat.le_succ _) (fun _ => rfl) hlv10_0 ?_
        refine fx_i2 aj_d300 rfl (Nat.le_succ _) (fun _ => rfl) hlv10_0 ?_
        refine fx_gI aj_d300 rfl (Nat.le_succ _) rfl rfl (Or.inl rfl) ?_
        refine fx_n (pc' := 40) (lv' := lv10) (st' := [.int ((Int8.ofInt 10).toInt32), .int (X8.1 117 0), .ref 117, .ref 136]) aj_d300 rfl (Nat.le_succ _) (fun _ => rfl) ?_
        refine fx_n (pc' := 41) (lv' := lv10) (st' := [.int ((X8.1 117 0) * ((Int8.ofInt 10).toInt32)), .ref 117, .ref 136]) aj_d300 rfl (Nat.le_succ _) (fun _ => rfl) ?_
        refine fx_i0 aj_d300 rfl (Nat.le_succ _) (fun _ => rfl) hlv10_1 ?_
        refine fx_n (pc' := 43) (lv' := lv10) (st' := [.int (((X8.1 117 0) * ((Int8.ofInt 10).toInt32)) + p1), .ref 117, .ref 136]) aj_d300 rfl (Nat.le_succ _) (fun _ => rfl) ?_
        refine fx_i0 aj_d300 rfl (Nat.le_succ _) (fun _ => rfl) hlv10_2 ?_
        refine fx_cv aj_d300 rfl (Nat.le_succ _) rfl [_, _] rfl rfl (gx_225_ok (((X8.1 117 0) * ((Int8.ofInt 10).toInt32)) + p1) p2) ?_
        rintro _ X13 ⟨w14, rfl, hR13⟩ hok13 hle13
        refine fx_qc hR13 ?_
        show fx_W _ _ _ 47 lv10 [.int w14, .ref 136] _ _
        refine fx_i0 aj_d300 rfl (Nat.le_succ _) (fun _ => rfl) hlv10_4 ?_
        refine fx_cs aj_d300 rfl (Nat.le_succ _) rfl rfl [_, _, _] rfl rfl (gx_227_ok 136 w14 w9) ?_
        rintro _ X15 ⟨w16, rfl, hR15⟩ hok15 hle15
        refine fx_qc hR15 ?_
        show fx_W _ _ _ 52 lv10 [.int w16] _ _
        refine fx_b0 (tgt := 59) aj_d300 rfl (Nat.le_succ _) rfl (fun q17 => ?_) (fun q17 => ?_)
        · skip
          refine fx_qi (c := (w16).toInt = 0) (fx_t_eq q17) ?_
          show fx_W _ _ _ 59 lv10 [] _ _
          refine fx_n (pc' := 60) (lv' := lv10) (st' := [.int (Int32.ofInt 0)]) aj_d300 rfl (Nat.le_succ _) (fun _ => rfl) ?_
          exact fx_ri aj_d300 rfl ⟨_, rfl, 0, rfl, rfl⟩
        · skip
          refine fx_qe (c := (w16).toInt = 0) (fx_f_eq q17) ?_
          show fx_W _ _ _ 55 lv10 [] _ _
          refine fx_n (pc' := 56) (lv' := lv10) (st' := [.int (Int32.ofInt 1)]) aj_d300 rfl (Nat.le_succ _) (fun _ => rfl) ?_
          refine fx_n (pc' := 60) (lv' := lv10) (st' := [.int (Int32.ofInt 1)]) aj_d300 rfl (Nat.le_succ _) (fun _ => rfl) ?_
          exact fx_ri aj_d300 rfl ⟨_, rfl, 0, rfl, rfl⟩
    · skip
      refine fx_qi (c := (p3).toInt < 0) (fx_f_ge q7) ?_
      show fx_W _ _ _ 13 lv1 [] _ _
      refine fx_n (pc' := 14) (lv' := lv1) (st' := [.int (Int32.ofInt (-1))]) aj_d300 rfl (Nat.le_succ _) (fun _ => rfl) ?_
      refine fx_n (pc' := 22) (lv' := lv1) (st' := [.int (Int32.ofInt (-1))]) aj_d300 rfl (Nat.le_succ _) (fun _ => rfl) ?_
      refine fx_s0 (j := 4) aj_d300 rfl (Nat.le_succ _) (by decide) (fun _ => rfl) ?_
      obtain ⟨lv18, elv18⟩ : ∃ l, l = aj_set1 lv1 4 (.int (Int32.ofInt (-1))) := ⟨_, rfl⟩
      rw [← elv18]
      have hlv18_0 : aj_lv lv18 0 = some (.ref 117) := fx_e1 elv18 hlv1_0 (by decide) (Or.inl (by decide))
      have hlv18_1 : aj_lv lv18 1 = some (.int p1) := fx_e1 elv18 hlv1_1 (by decide) (Or.inl (by decide))
      have hlv18_2 : aj_lv lv18 2 = some (.int p2) := fx_e1 elv18 hlv1_2 (by decide) (Or.inl (by decide))
      have hlv18_4 : aj_lv lv18 4 = some (.int (Int32.ofInt (-1))) := by rw [elv18]; exact ak_set1_eq _ _ _
      show fx_W _ _ _ 24 lv18 [] _ _
      refine fx_i0 aj_d300 rfl (Nat.le_succ _) (fun _ => rfl) hlv18_4 ?_
      refine fx_b0 (tgt := 59) aj_d300 rfl (Nat.le_succ _) rfl (fun q19 => ?_) (fun q19 => ?_)
      · skip
        show fx_W _ _ _ 59 lv18 [] _ _
        refine fx_n (pc' := 60) (lv' := lv18) (st' := [.int (Int32.ofInt 0)]) aj_d300 rfl (Nat.le_succ _) (fun _ => rfl) ?_
        exact fx_ri aj_d300 rfl ⟨_, rfl, 0, rfl, rfl⟩
      · exact absurd q19 (by decide)
