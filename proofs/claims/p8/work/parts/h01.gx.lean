/-! METHODS LIFTED (printed by wip/p7/parts2.py) -/
def gxT_171_5 (p1 : Int32) (p2 : Int32) (P : Nat → List Int32 → List Int64 → List Nat → fx_X → Unit → fx_X → Prop) (y3 : Int32) (y4 : Int32) (X : fx_X) (v : Unit) (X' : fx_X) : Prop :=
  (if (y4).toInt < 20 then ((if 0 < (y3).toInt then (∃ x6 : Int32, x6 = ((Int32.ofInt 1) <<< (y4 &&& 31)) ∧ ∃ x8 : Int32, x8 = (p1 &&& ((x6 ||| (x6 - (Int32.ofInt 1))) ^^^ (Int32.ofInt (-1)))) ∧ (if ((p1 &&& x6)).toInt = 0 then (∃ x11 : Int32, x11 = y4 + Int32.ofInt 1 ∧ P 5 [y3, x11] [] [] X v X') else (∃ (w15 : Int32) (X14 : fx_X), gx_169 (X.1 113 3) ((X.1 113 1) ||| x6) x8 (y3 - (Int32.ofInt 1)) (Int32.ofInt 0) X w15 X14 ∧ (if (w15).toInt = 0 then (∃ x17 : Int32, x17 = y4 + Int32.ofInt 1 ∧ P 5 [y3, x17] [] [] X14 v X') else (∃ X19 : fx_X, X19 = (fx_wI X14 113 1 ((X14.1 113 1) ||| x6)) ∧ ∃ x20 : Int32, x20 = y3 + Int32.ofInt (-1) ∧ ∃ x22 : Int32, x22 = y4 + Int32.ofInt 1 ∧ P 5 [x20, x22] [] [] X19 v X'))))) else (X' = X))) else (X' = X))
def gxE_171 (p1 : Int32) (p2 : Int32) (P : Nat → List Int32 → List Int64 → List Nat → fx_X → Unit → fx_X → Prop) (X : fx_X) (v : Unit) (X' : fx_X) : Prop :=
  P 5 [p2, (Int32.ofInt 0)] [] [] X v X'
noncomputable def gxF_171 (p1 : Int32) (p2 : Int32) (n : Nat) : Nat → List Int32 → List Int64 → List Nat → fx_X → Unit → fx_X → Prop := Nat.rec (motive := fun _ => Nat → List Int32 → List Int64 → List Nat → fx_X → Unit → fx_X → Prop) (fun _ _ _ _ _ _ _ => False) (fun _ P l is ls rs X v X' => (l = 5 ∧ ∃ (y3 : Int32) (y4 : Int32), is = [y3, y4] ∧ ls = [] ∧ rs = [] ∧ gxT_171_5 p1 p2 P y3 y4 X v X')) n
theorem gxI_171_5 {p1 : Int32} {p2 : Int32} {n : Nat} {y3 : Int32} {y4 : Int32} {X : fx_X} {v : Unit} {X' : fx_X} (h : gxT_171_5 p1 p2 (gxF_171 p1 p2 n) y3 y4 X v X') : gxF_171 p1 p2 (n + 1) 5 [y3, y4] [] [] X v X' := ⟨rfl, y3, y4, rfl, rfl, rfl, h⟩
theorem gxO_171_5 {p1 : Int32} {p2 : Int32} {n : Nat} {y3 : Int32} {y4 : Int32} {X : fx_X} {v : Unit} {X' : fx_X} (h : gxF_171 p1 p2 (n + 1) 5 [y3, y4] [] [] X v X') : gxT_171_5 p1 p2 (gxF_171 p1 p2 n) y3 y4 X v X' := by
  rcases h with ⟨-, _, _, e1, e2, e3, h⟩
  · cases e1; cases e2; cases e3; exact h
def gx_171 (p1 : Int32) (p2 : Int32) (X : fx_X) (v : Unit) (X' : fx_X) : Prop := ∃ n : Nat, gxE_171 p1 p2 (gxF_171 p1 p2 n) X v X'
theorem gxL_171 {tb : aj_T} (p1 : Int32) (p2 : Int32) : ∀ N : Nat, (∀ (lv : aj_V) (y3 : Int32) (y4 : Int32) (X : fx_X), aj_lv lv 0 = some (.ref 113) → aj_lv lv 1 = some (.int p1) → aj_lv lv 3 = some (.int y3) → aj_lv lv 4 = some (.int y4) → fx_W tb aj_m171 N 5 lv [] X (fx_Q fx_qN (fun v X' => ∃ n : Nat, gxF_171 p1 p2 n 5 [y3, y4] [] [] X v X'))) := by
  intro N
  induction N with
  | zero => exact (by intros; exact fx_z)
  | succ N ih =>
    skip
    · intro lv y3 y4 X hlv_0 hlv_1 hlv_3 hlv_4
      refine fx_mono (Q := fx_Q fx_qN (fun v X' => ∃ n : Nat, gxT_171_5 p1 p2 (gxF_171 p1 p2 n) y3 y4 X v X')) (fun r X' ⟨v, e, n, z⟩ => ⟨v, e, n + 1, gxI_171_5 z⟩) ?_
      unfold gxT_171_5
      refine fx_i0 aj_d171 rfl (Nat.le_refl _) (fun _ => rfl) hlv_4 ?_
      refine fx_n (pc' := 9) (lv' := lv) (st' := [.int ((Int8.ofInt 20).toInt32), .int y4]) aj_d171 rfl (Nat.le_succ _) (fun _ => rfl) ?_
      refine fx_b (tgt := 89) aj_d171 rfl (Nat.le_succ _) rfl (fun q4 => ?_) (fun q4 => ?_)
      · skip
        refine fx_qe (c := (y4).toInt < 20) (fx_t_ge q4) ?_
        show fx_W _ _ _ 89 lv [] _ _
        exact fx_rn aj_d171 rfl ⟨(), rfl, 0, rfl⟩
      · skip
        refine fx_qi (c := (y4).toInt < 20) (fx_f_ge q4) ?_
        show fx_W _ _ _ 12 lv [] _ _
        refine fx_i0 aj_d171 rfl (Nat.le_succ _) (fun _ => rfl) hlv_3 ?_
        refine fx_b0 (tgt := 89) aj_d171 rfl (Nat.le_succ _) rfl (fun q5 => ?_) (fun q5 => ?_)
        · skip
          refine fx_qe (c := 0 < (y3).toInt) (fx_t_le q5) ?_
          show fx_W _ _ _ 89 lv [] _ _
          exact fx_rn aj_d171 rfl ⟨(), rfl, 0, rfl⟩
        · skip
          refine fx_qi (c := 0 < (y3).toInt) (fx_f_le q5) ?_
          show fx_W _ _ _ 16 lv [] _ _
          refine fx_n (pc' := 17) (lv' := lv) (st' := [.int (Int32.ofInt 1)]) aj_d171 rfl (Nat.le_succ _) (fun _ => rfl) ?_
          refine fx_i0 aj_d171 rfl (Nat.le_succ _) (fun _ => rfl) hlv_4 ?_
          refine fx_n (pc' := 20) (lv' := lv) (st' := [.int ((Int32.ofInt 1) <<< (y4 &&& 31))]) aj_d171 rfl (Nat.le_succ _) (fun _ => rfl) ?_
          refine fx_qxI (fun x6 ex6 => ?_)
          refine fx_s0 (j := 5) aj_d171 rfl (Nat.le_succ _) (by decide) (fun _ => rfl) ?_
          obtain ⟨lv7, elv7⟩ : ∃ l, l = aj_set1 lv 5 (.int x6) := ⟨_, rfl⟩
          rw [← elv7]
          have hlv7_0 : aj_lv lv7 0 = some (.ref 113) := fx_e1 elv7 hlv_0 (by decide) (Or.inl (by decide))
          have hlv7_1 : aj_lv lv7 1 = some (.int p1) := fx_e1 elv7 hlv_1 (by decide) (Or.inl (by decide))
          have hlv7_3 : aj_lv lv7 3 = some (.int y3) := fx_e1 elv7 hlv_3 (by decide) (Or.inl (by decide))
          have hlv7_4 : aj_lv lv7 4 = some (.int y4) := fx_e1 elv7 hlv_4 (by decide) (Or.inr rfl)
          have hlv7_5 : aj_lv lv7 5 = some (.int x6) := by rw [elv7]; exact ak_set1_eq _ _ _
          show fx_W _ _ _ 22 lv7 [] _ _
          refine fx_i0 aj_d171 rfl (Nat.le_succ _) (fun _ => rfl) hlv7_1 ?_
          refine fx_i0 aj_d171 rfl (Nat.le_succ _) (fun _ => rfl) hlv7_5 ?_
          refine fx_i0 aj_d171 rfl (Nat.le_succ _) (fun _ => rfl) hlv7_5 ?_
          refine fx_n (pc' := 28) (lv' := lv7) (st' := [.int (Int32.ofInt 1), .int x6, .int x6, .int p1]) aj_d171 rfl (Nat.le_succ _) (fun _ => rfl) ?_
          refine fx_n (pc' := 29) (lv' := lv7) (st' := [.int (x6 - (Int32.ofInt 1)), .int x6, .int p1]) aj_d171 rfl (Nat.le_succ _) (fun _ => rfl) ?_
          refine fx_n (pc' := 30) (lv' := lv7) (st' := [.int (x6 ||| (x6 - (Int32.ofInt 1))), .int p1]) aj_d171 rfl (Nat.le_succ _) (fun _ => rfl) ?_
          refine fx_n (pc' := 31) (lv' := lv7) (st' := [.int (Int32.ofInt (-1)), .int (x6 ||| (x6 - (Int32.ofInt 1))), .int p1]) aj_d171 rfl (Nat.le_succ _) (fun _ => rfl) ?_
          refine fx_n (pc' := 32) (lv' := lv7) (st' := [.int ((x6 ||| (x6 - (Int32.ofInt 1))) ^^^ (Int32.ofInt (-1))), .int p1]) aj_d171 rfl (Nat.le_succ _) (fun _ => rfl) ?_
          refine fx_n (pc' := 33) (lv' := lv7) (st' := [.int (p1 &&& ((x6 ||| (x6 - (Int32.ofInt 1))) ^^^ (Int32.ofInt (-1))))]) aj_d171 rfl (Nat.le_succ _) (fun _ => rfl) ?_
          refine fx_qxI (fun x8 ex8 => ?_)
          refine fx_s0 (j := 6) aj_d171 rfl (Nat.le_succ _) (by decide) (fun _ => rfl) ?_
          obtain ⟨lv9, elv9⟩ : ∃ l, l = aj_set1 lv7 6 (.int x8) := ⟨_, rfl⟩
          rw [← elv9]
          have hlv9_0 : aj_lv lv9 0 = some (.ref 113) := fx_e1 elv9 hlv7_0 (by decide) (Or.inl (by decide))
          have hlv9_1 : aj_lv lv9 1 = some (.int p1) := fx_e1 elv9 hlv7_1 (by decide) (Or.inl (by decide))
          have hlv9_3 : aj_lv lv9 3 = some (.int y3) := fx_e1 elv9 hlv7_3 (by decide) (Or.inl (by decide))
          have hlv9_4 : aj_lv lv9 4 = some (.int y4) := fx_e1 elv9 hlv7_4 (by decide) (Or.inl (by decide))
          have hlv9_5 : aj_lv lv9 5 = some (.int x6) := fx_e1 elv9 hlv7_5 (by decide) (Or.inr rfl)
          have hlv9_6 : aj_lv lv9 6 = some (.int x8) := by rw [elv9]; exact ak_set1_eq _ _ _
          show fx_W _ _ _ 35 lv9 [] _ _
          refine fx_i0 aj_d171 rfl (Nat.le_succ _) (fun _ => rfl) hlv9_1 ?_
          refine fx_i0 aj_d171 rfl (Nat.le_succ _) (fun _ => rfl) hlv9_5 ?_
          refine fx_n (pc' := 39) (lv' := lv9) (st' := [.int (p1 &&& x6)]) aj_d171 rfl (Nat.le_succ _) (fun _ => rfl) ?_
          refine fx_b0 (tgt := 83) aj_d171 rfl (Nat.le_succ _) rfl (fun q10 => ?_) (fun q10 => ?_)
          · skip
            refine fx_qi (c := ((p1 &&& x6)).toInt = 0) (fx_t_eq q10) ?_
            show fx_W _ _ _ 83 lv9 [] _ _
            refine fx_incq aj_d171 rfl (Nat.le_succ _) hlv9_4 (by decide) (fun x11 ex11 => ?_)
            obtain ⟨lv12, elv12⟩ : ∃ l, l = aj_set1 lv9 4 (.int x11) := ⟨_, rfl⟩
            rw [← elv12]
            have hlv12_0 : aj_lv lv12 0 = some (.ref 113) := fx_e1 elv12 hlv9_0 (by decide) (Or.inl (by decide))
            have hlv12_1 : aj_lv lv12 1 = some (.int p1) := fx_e1 elv12 hlv9_1 (by decide) (Or.inl (by decide))
            have hlv12_3 : aj_lv lv12 3 = some (.int y3) := fx_e1 elv12 hlv9_3 (by decide) (Or.inr rfl)
            have hlv12_4 : aj_lv lv12 4 = some (.int x11) := by rw [elv12]; exact ak_set1_eq _ _ _
            show fx_W _ _ _ 86 lv12 [] _ _
            refine fx_n (pc' := 5) (lv' := lv12) (st' := []) aj_d171 rfl (Nat.le_succ _) (fun _ => rfl) ?_
            exact (ih) lv12 (y3) (x11) X  hlv12_0 hlv12_1 hlv12_3 hlv12_4
          · skip
            refine fx_qe (c := ((p1 &&& x6)).toInt = 0) (fx_f_eq q10) ?_
            show fx_W _ _ _ 42 lv9 [] _ _
            refine fx_i2 aj_d171 rfl (Nat.le_succ _) (fun _ => rfl) hlv9_0 ?_
            refine fx_gF aj_d171 rfl (Nat.le_succ _) rfl rfl fx_in_5_2 (t := 114) rfl (fun hA13 => ?_)
            refine fx_i2 aj_d171 rfl (Nat.le_succ _) (fun _ => rfl) hlv9_0 ?_
            refine fx_gI aj_d171 rfl (Nat.le_succ _) rfl rfl (Or.inl rfl) ?_
            refine fx_i2 aj_d171 rfl (Nat.le_succ _) (fun _ => rfl) hlv9_0 ?_
            refine fx_gI aj_d171 rfl (Nat.le_succ _) rfl rfl (Or.inl rfl) ?_
            refine fx_i0 aj_d171 rfl (Nat.le_succ _) (fun _ => rfl) hlv9_5 ?_
            refine fx_n (pc' := 57) (lv' := lv9) (st' := [.int ((X.1 113 1) ||| x6), .int (X.1 113 3), .ref 114]) aj_d171 rfl (Nat.le_succ _) (fun _ => rfl) ?_
            refine fx_i0 aj_d171 rfl (Nat.le_succ _) (fun _ => rfl) hlv9_6 ?_
            refine fx_i0 aj_d171 rfl (Nat.le_succ _) (fun _ => rfl) hlv9_3 ?_
            refine fx_n (pc' := 61) (lv' := lv9) (st' := [.int (Int32.ofInt 1), .int y3, .int x8, .int ((X.1 113 1) ||| x6), .int (X.1 113 3), .ref 114]) aj_d171 rfl (Nat.le_succ _) (fun _ => rfl) ?_
            refine fx_n (pc' := 62) (lv' := lv9) (st' := [.int (y3 - (Int32.ofInt 1)), .int x8, .int ((X.1 113 1) ||| x6), .int (X.1 113 3), .ref 114]) aj_d171 rfl (Nat.le_succ _) (fun _ => rfl) ?_
            refine fx_n (pc' := 63) (lv' := lv9) (st' := [.int (Int32.ofInt 0), .int (y3 - (Int32.ofInt 1)), .int x8, .int ((X.1 113 1) ||| x6), .int (X.1 113 3), .ref 114]) aj_d171 rfl (Nat.le_succ _) (fun _ => rfl) ?_
            refine fx_cs aj_d171 rfl (Nat.le_succ _) rfl rfl [_, _, _, _, _, _] rfl rfl (gx_169_ok (X.1 113 3) ((X.1 113 1) ||| x6) x8 (y3 - (Int32.ofInt 1)) (Int32.ofInt 0)) ?_
            rintro _ X14 ⟨w15, rfl, hR14⟩ hok14 hle14
            refine fx_qc hR14 ?_
            show fx_W _ _ _ 66 lv9 [.int w15] _ _
            refine fx_b0 (tgt := 83) aj_d171 rfl (Nat.le_succ _) rfl (fun q16 => ?_) (fun q16 => ?_)
            · skip
              refine fx_qi (c := (w15).toInt = 0) (fx_t_eq q16) ?_
              show fx_W _ _ _ 83 lv9 [] _ _
              refine fx_incq aj_d171 rfl (Nat.le_succ _) hlv9_4 (by decide) (fun x17 ex17 => ?_)
              obtain ⟨lv18, elv18⟩ : ∃ l, l = aj_set1 lv9 4 (.int x17) := ⟨_, rfl⟩
              rw [← elv18]
              have hlv18_0 : aj_lv lv18 0 = some (.ref 113) := fx_e1 elv18 hlv9_0 (by decide) (Or.inl (by decide))
              have hlv18_1 : aj_lv lv18 1 = some (.int p1) := fx_e1 elv18 hlv9_1 (by decide) (Or.inl (by decide))
              have hlv18_3 : aj_lv lv18 3 = some (.int y3) := fx_e1 elv18 hlv9_3 (by decide) (Or.inr rfl)
              have hlv18_4 : aj_lv lv18 4 = some (.int x17) := by rw [elv18]; exact ak_set1_eq _ _ _
              show fx_W _ _ _ 86 lv18 [] _ _
              refine fx_n (pc' := 5) (lv' := lv18) (st' := []) aj_d171 rfl (Nat.le_succ _) (fun _ => rfl) ?_
              exact (ih) lv18 (y3) (x17) X14  hlv18_0 hlv18_1 hlv18_3 hlv18_4
            · skip
              refine fx_qe (c := (w15).toInt = 0) (fx_f_eq q16) ?_
              show fx_W _ _ _ 69 lv9 [] _ _
              refine fx_i2 aj_d171 rfl (Nat.le_succ _) (fun _ => rfl) hlv9_0 ?_
              refine fx_n (pc' := 71) (lv' := lv9) (st' := [.ref 113, .ref 113]) aj_d171 rfl (Nat.le_succ _) (fun _ => rfl) ?_
              refine fx_gI aj_d171 rfl (Nat.le_succ _) rfl rfl (Or.inl rfl) ?_
              refine fx_i0 aj_d171 rfl (Nat.le_succ _) (fun _ => rfl) hlv9_5 ?_
              refine fx_n (pc' := 77) (lv' := lv9) (st' := [.int ((X14.1 113 1) ||| x6), .ref 113]) aj_d171 rfl (Nat.le_succ _) (fun _ => rfl) ?_
              refine fx_pI aj_d171 rfl (Nat.le_succ _) rfl rfl (Or.inl rfl) fx_no_5_1 (by decide) ?_
              refine fx_qX (fun X19 eX19 => ?_)
              show fx_W _ _ _ 80 lv9 [] _ _
              refine fx_incq aj_d171 rfl (Nat.le_succ _) hlv9_3 (by decide) (fun x20 ex20 => ?_)
              obtain ⟨lv21, elv21⟩ : ∃ l, l = aj_set1 lv9 3 (.int x20) := ⟨_, rfl⟩
              rw [← elv21]
              have hlv21_0 : aj_lv lv21 0 = some (.ref 113) := fx_e1 elv21 hlv9_0 (by decide) (Or.inl (by decide))
              have hlv21_1 : aj_lv lv21 1 = some (.int p1) := fx_e1 elv21 hlv9_1 (by decide) (Or.inl (by decide))
              have hlv21_4 : aj_lv lv21 4 = some (.int y4) := fx_e1 elv21 hlv9_4 (by decide) (Or.inl (by decide))
              have hlv21_3 : aj_lv lv21 3 = some (.int x20) := by rw [elv21]; exact ak_set1_eq _ _ _
              show fx_W _ _ _ 83 lv21 [] _ _
              refine fx_incq aj_d171 rfl (Nat.le_succ _) hlv21_4 (by decide) (fun x22 ex22 => ?_)
              obtain ⟨lv23, elv23⟩ : ∃ l, l = aj_set1 lv21 4 (.int x22) := ⟨_, rfl⟩
              rw [← elv23]
              have hlv23_0 : aj_lv lv23 0 = some (.ref 113) := fx_e1 elv23 hlv21_0 (by decide) (Or.inl (by decide))
              have hlv23_1 : aj_lv lv23 1 = some (.int p1) := fx_e1 elv23 hlv21_1 (by decide) (Or.inl (by decide))
              have hlv23_3 : aj_lv lv23 3 = some (.int x20) := fx_e1 elv23 hlv21_3 (by decide) (Or.inr rfl)
              have hlv23_4 : aj_lv lv23 4 = some (.int x22) := by rw [elv23]; exact ak_set1_eq _ _ _
              show fx_W _ _ _ 86 lv23 [] _ _
              refine fx_n (pc' := 5) (lv' := lv23) (st' := []) aj_d171 rfl (Nat.le_succ _) (fun _ => rfl) ?_
              exact (ih) lv23 (x20) (x22) X19  hlv23_0 hlv23_1 hlv23_3 hlv23_4
theorem gx_171_ok {tb : aj_T} (p1 : Int32) (p2 : Int32) {X : fx_X} : fx_K tb 171 [.ref 113, .int p1, .int p2] X (fx_Q fx_qN (fun v X' => gx_171 p1 p2 X v X')) := by
  refine fx_m aj_m171_at rfl (fun N => ?_)
  refine fx_mono (Q := fx_Q fx_qN (fun v X' => ∃ n : Nat, gxE_171 p1 p2 (gxF_171 p1 p2 n) X v X')) (fun r X' h => h) ?_
  unfold gxE_171
  show fx_W _ _ _ 0 [(0, .ref 113), (1, .int p1), (2, .int p2)] [] _ _
  obtain ⟨lv1, elv1⟩ : ∃ l : aj_V, l = [(0, .ref 113), (1, .int p1), (2, .int p2)] := ⟨_, rfl⟩
  rw [← elv1]
  have hlv1_0 : aj_lv lv1 0 = some (.ref 113) := by rw [elv1]; rfl
  have hlv1_1 : aj_lv lv1 1 = some (.int p1) := by rw [elv1]; rfl
  have hlv1_2 : aj_lv lv1 2 = some (.int p2) := by rw [elv1]; rfl
  refine fx_i0 aj_d171 rfl (Nat.le_succ _) (fun _ => rfl) hlv1_2 ?_
  refine fx_s0 (j := 3) aj_d171 rfl (Nat.le_succ _) (by decide) (fun _ => rfl) ?_
  obtain ⟨lv2, elv2⟩ : ∃ l, l = aj_set1 lv1 3 (.int p2) := ⟨_, rfl⟩
  rw [← elv2]
  have hlv2_0 : aj_lv lv2 0 = some (.ref 113) := fx_e1 elv2 hlv1_0 (by decide) (Or.inl (by decide))
  have hlv2_1 : aj_lv lv2 1 = some (.int p1) := fx_e1 elv2 hlv1_1 (by decide) (Or.inl (by decide))
  have hlv2_3 : aj_lv lv2 3 = some (.int p2) := by rw [elv2]; exact ak_set1_eq _ _ _
  show fx_W _ _ _ 2 lv2 [] _ _
  refine fx_n (pc' := 3) (lv' := lv2) (st' := [.int (Int32.ofInt 0)]) aj_d171 rfl (Nat.le_succ _) (fun _ => rfl) ?_
  refine fx_s0 (j := 4) aj_d171 rfl (Nat.le_succ _) (by decide) (fun _ => rfl) ?_
  obtain ⟨lv3, elv3⟩ : ∃ l, l = aj_set1 lv2 4 (.int (Int32.ofInt 0)) := ⟨_, rfl⟩
  rw [← elv3]
  have hlv3_0 : aj_lv lv3 0 = some (.ref 113) := fx_e1 elv3 hlv2_0 (by decide) (Or.inl (by decide))
  have hlv3_1 : aj_lv lv3 1 = some (.int p1) := fx_e1 elv3 hlv2_1 (by decide) (Or.inl (by decide))
  have hlv3_3 : aj_lv lv3 3 = some (.int p2) := fx_e1 elv3 hlv2_3 (by decide) (Or.inr rfl)
  have hlv3_4 : aj_lv lv3 4 = some (.int (Int32.ofInt 0)) := by rw [elv3]; exact ak_set1_eq _ _ _
  show fx_W _ _ _ 5 lv3 [] _ _
  exact ((gxL_171 p1 p2 N)) lv3 (p2) ((Int32.ofInt 0)) X  hlv3_0 hlv3_1 hlv3_3 hlv3_4
def gxT_165_20 (p1 : Nat) (P : Nat → List Int32 → List Int64 → List Nat → fx_X → Unit → fx_X → Prop) (y2 : Int32) (X : fx_X) (v : Unit) (X' : fx_X) : Prop :=
  (if (y2).toInt < ((X.1 p1 13)).toInt then (∃ (w11 : Int32) (X10 : fx_X), gx_166 p1 y2 X w11 X10 ∧ (if (w11).toInt = 0 then (∃ x13 : Int32, x13 = y2 + Int32.ofInt 1 ∧ P 20 [x13] [] [] X10 v X') else (∃ (w16 : Int32) (X15 : fx_X), gx_167 p1 y2 X10 w16 X15 ∧ (if (w16).toInt = 0 then (X' = X15) else (∃ (w19 : Int32) (X18 : fx_X), gx_167 p1 y2 X15 w19 X18 ∧ ∃ (w21 : Unit) (X20 : fx_X), gx_168 w19 X18 w21 X20 ∧ ∃ x22 : Int32, x22 = y2 + Int32.ofInt 1 ∧ P 20 [x22] [] [] X20 v X'))))) else (∃ x7 : Int32, x7 = (((Int32.ofInt 1) <<< ((X.1 p1 15) &&& 31)) - (Int32.ofInt 1)) ∧ P 71 [x7, (Int32.ofInt 0)] [] [] X v X'))
def gxT_165_71 (p1 : Nat) (P : Nat → List Int32 → List Int64 → List Nat → fx_X → Unit → fx_X → Prop) (y2 : Int32) (y3 : Int32) (X : fx_X) (v : Unit) (X' : fx_X) : Prop :=
  (if (y3).toInt < 20 then (∃ (w29 : Int32) (X28 : fx_X), gx_169 (X.1 113 3) (Int32.ofInt 0) y2 y3 (Int32.ofInt 0) X w29 X28 ∧ (if (w29).toInt = 0 then (∃ x33 : Int32, x33 = y3 + Int32.ofInt 1 ∧ P 71 [y2, x33] [] [] X28 v X') else (∃ (w32 : Unit) (X31 : fx_X), gx_171 y2 y3 X28 w32 X31 ∧ X' = X31))) else (∃ (w26 : Unit) (X25 : fx_X), gx_171 y2 y3 X w26 X25 ∧ X' = X25))
def gxE_165 (p1 : Nat) (P : Nat → List Int32 → List Int64 → List Nat → fx_X → Unit → fx_X → Prop) (X : fx_X) (v : Unit) (X' : fx_X) : Prop :=
  ∃ X2 : fx_X, X2 = (fx_wI X 113 1 (Int32.ofInt 0)) ∧ ∃ X3 : fx_X, X3 = (fx_wI X2 113 3 (Int32.ofInt 0)) ∧ (if ((X3.1 p1 17)).toInt = 0 then (X' = X3) else (P 20 [(Int32.ofInt 0)] [] [] X3 v X'))
noncomputable def gxF_165 (p1 : Nat) (n : Nat) : Nat → List Int32 → List Int64 → List Nat → fx_X → Unit → fx_X → Prop := Nat.rec (motive := fun _ => Nat → List Int32 → List Int64 → List Nat → fx_X → Unit → fx_X → Prop) (fun _ _ _ _ _ _ _ => False) (fun _ P l is ls rs X v X' => (l = 20 ∧ ∃ (y2 : Int32), is = [y2] ∧ ls = [] ∧ rs = [] ∧ gxT_165_20 p1 P y2 X v X') ∨ (l = 71 ∧ ∃ (y2 : Int32) (y3 : Int32), is = [y2, y3] ∧ ls = [] ∧ rs = [] ∧ gxT_165_71 p1 P y2 y3 X v X')) n
theorem gxI_165_20 {p1 : Nat} {n : Nat} {y2 : Int32} {X : fx_X} {v : Unit} {X' : fx_X} (h : gxT_165_20 p1 (gxF_165 p1 n) y2 X v X') : gxF_165 p1 (n + 1) 20 [y2] [] [] X v X' := Or.inl ⟨rfl, y2, rfl, rfl, rfl, h⟩
theorem gxO_165_20 {p1 : Nat} {n : Nat} {y2 : Int32} {X : fx_X} {v : Unit} {X' : fx_X} (h : gxF_165 p1 (n + 1) 20 [y2] [] [] X v X') : gxT_165_20 p1 (gxF_165 p1 n) y2 X v X' := by
  rcases h with ⟨-, _, e1, e2, e3, h⟩ | ⟨e, -⟩
  · cases e1; cases e2; cases e3; exact h
  · exact absurd e (by decide)
theorem gxI_165_71 {p1 : Nat} {n : Nat} {y2 : Int32} {y3 : Int32} {X : fx_X} {v : Unit} {X' : fx_X} (h : gxT_165_71 p1 (gxF_165 p1 n) y2 y3 X v X') : gxF_165 p1 (n + 1) 71 [y2, y3] [] [] X v X' := Or.inr (⟨rfl, y2, y3, rfl, rfl, rfl, h⟩)
theorem gxO_165_71 {p1 : Nat} {n : Nat} {y2 : Int32} {y3 : Int32} {X : fx_X} {v : Unit} {X' : fx_X} (h : gxF_165 p1 (n + 1) 71 [y2, y3] [] [] X v X') : gxT_165_71 p1 (gxF_165 p1 n) y2 y3 X v X' := by
  rcases h with ⟨e, -⟩ | ⟨-, _, _, e1, e2, e3, h⟩
  · exact absurd e (by decide)
  · cases e1; cases e2; cases e3; exact h
def gx_165 (p1 : Nat) (X : fx_X) (v : Unit) (X' : fx_X) : Prop := ∃ n : Nat, gxE_165 p1 (gxF_165 p1 n) X v X'
theorem gxL_165 {tb : aj_T} (p1 : Nat) : ∀ N : Nat, (∀ (lv : aj_V) (y2 : Int32) (X : fx_X), aj_lv lv 0 = some (.ref 113) → aj_lv lv 1 = some (.ref p1) → aj_lv lv 2 = some (.int y2) → fx_W tb aj_m165 N 20 lv [] X (fx_Q fx_qN (fun v X' => ∃ n : Nat, gxF_165 p1 n 20 [y2] [] [] X v X'))) ∧ (∀ (lv : aj_V) (y2 : Int32) (y3 : Int32) (X : fx_X), aj_lv lv 0 = some (.ref 113) → aj_lv lv 2 = some (.int y2) → aj_lv lv 3 = some (.int y3) → fx_W tb aj_m165 N 71 lv [] X (fx_Q fx_qN (fun v X' => ∃ n : Nat, gxF_165 p1 n 71 [y2, y3] [] [] X v X'))) := by
  intro N
  induction N with
  | zero => exact ⟨(by intros; exact fx_z), (by intros; exact fx_z)⟩
  | succ N ih =>
    refine ⟨?_, ?_⟩
    · intro lv y2 X hlv_0 hlv_1 hlv_2
      refine fx_mono (Q := fx_Q fx_qN (fun v X' => ∃ n : Nat, gxT_165_20 p1 (gxF_165 p1 n) y2 X v X')) (fun r X' ⟨v, e, n, z⟩ => ⟨v, e, n + 1, gxI_165_20 z⟩) ?_
      unfold gxT_165_20
      refine fx_i0 aj_d165 rfl (Nat.le_refl _) (fun _ => rfl) hlv_2 ?_
      refine fx_i2 aj_d165 rfl (Nat.le_succ _) (fun _ => rfl) hlv_1 ?_
      refine fx_gI aj_d165 rfl (Nat.le_succ _) rfl rfl (Or.inl rfl) ?_
      refine fx_b (tgt := 60) aj_d165 rfl (Nat.le_succ _) rfl (fun q6 => ?_) (fun q6 => ?_)
      · skip
        refine fx_qe (c := (y2).toInt < ((X.1 p1 13)).toInt) (fx_t_ge q6) ?_
        show fx_W _ _ _ 60 lv [] _ _
        refine fx_n (pc' := 61) (lv' := lv) (st' := [.int (Int32.ofInt 1)]) aj_d165 rfl (Nat.le_succ _) (fun _ => rfl) ?_
        refine fx_i2 aj_d165 rfl (Nat.le_succ _) (fun _ => rfl) hlv_1 ?_
        refine fx_gI aj_d165 rfl (Nat.le_succ _) rfl rfl (Or.inl rfl) ?_
        refine fx_n (pc' := 66) (lv' := lv) (st' := [.int ((Int32.ofInt 1) <<< ((X.1 p1 15) &&& 31))]) aj_d165 rfl (Nat.le_succ _) (fun _ => rfl) ?_
        refine fx_n (pc' := 67) (lv' := lv) (st' := [.int (Int32.ofInt 1), .int ((Int32.ofInt 1) <<< ((X.1 p1 15) &&& 31))]) aj_d165 rfl (Nat.le_succ _) (fun _ => rfl) ?_
        refine fx_n (pc' := 68) (lv' := lv) (st' := [.int (((Int32.ofInt 1) <<< ((X.1 p1 15) &&& 31)) - (Int32.ofInt 1))]) aj_d165 rfl (Nat.le_succ _) (fun _ => rfl) ?_
        refine fx_qxI (fun x7 ex7 => ?_)
        refine fx_s0 (j := 2) aj_d165 rfl (Nat.le_succ _) (by decide) (fun _ => rfl) ?_
        obtain ⟨lv8, elv8⟩ : ∃ l, l = aj_set1 lv 2 (.int x7) := ⟨_, rfl⟩
        rw [← elv8]
        have hlv8_0 : aj_lv lv8 0 = some (.ref 113) := fx_e1 elv8 hlv_0 (by decide) (Or.inl (by decide))
        have hlv8_2 : aj_lv lv8 2 = some (.int x7) := by rw [elv8]; exact ak_set1_eq _ _ _
        show fx_W _ _ _ 69 lv8 [] _ _
        refine fx_n (pc' := 70) (lv' := lv8) (st' := [.int (Int32.ofInt 0)]) aj_d165 rfl (Nat.le_succ _) (fun _ => rfl) ?_
        refine fx_s0 (j := 3) aj_d165 rfl (Nat.le_succ _) (by decide) (fun _ => rfl) ?_
        obtain ⟨lv9, elv9⟩ : ∃ l, l = aj_set1 lv8 3 (.int (Int32.ofInt 0)) := ⟨_, rfl⟩
        rw [← elv9]
        have hlv9_0 : aj_lv lv9 0 = some (.ref 113) := fx_e1 elv9 hlv8_0 (by decide) (Or.inl (by decide))
        have hlv9_2 : aj_lv lv9 2 = some (.int x7) := fx_e1 elv9 hlv8_2 (by decide) (Or.inr rfl)
        have hlv9_3 : aj_lv lv9 3 = some (.int (Int32.ofInt 0)) := by rw [elv9]; exact ak_set1_eq _ _ _
        show fx_W _ _ _ 71 lv9 [] _ _
        exact (ih.2) lv9 (x7) ((Int32.ofInt 0)) X  hlv9_0 hlv9_2 hlv9_3
      · skip
        refine fx_qi (c := (y2).toInt < ((X.1 p1 13)).toInt) (fx_f_ge q6) ?_
        show fx_W _ _ _ 28 lv [] _ _
        refine fx_i2 aj_d165 rfl (Nat.le_succ _) (fun _ => rfl) hlv_1 ?_
        refine fx_i0 aj_d165 rfl (Nat.le_succ _) (fun _ => rfl) hlv_2 ?_
        refine fx_cv aj_d165 rfl (Nat.le_succ _) rfl [_] rfl rfl (gx_166_ok p1 y2) ?_
        rintro _ X10 ⟨w11, rfl, hR10⟩ hok10 hle10
        refine fx_qc hR10 ?_
        show fx_W _ _ _ 33 lv [.int w11] _ _
        refine fx_b0 (tgt := 54) aj_d165 rfl (Nat.le_succ _) rfl (fun q12 => ?_) (fun q12 => ?_)
        · skip
          refine fx_qi (c := (w11).toInt = 0) (fx_t_eq q12) ?_
          show fx_W _ _ _ 54 lv [] _ _
          refine fx_incq aj_d165 rfl (Nat.le_succ _) hlv_2 (by decide) (fun x13 ex13 => ?_)
          obtain ⟨lv14, elv14⟩ : ∃ l, l = aj_set1 lv 2 (.int x13) := ⟨_, rfl⟩
          rw [← elv14]
          have hlv14_0 : aj_lv lv14 0 = some (.ref 113) := fx_e1 elv14 hlv_0 (by decide) (Or.inl (by decide))
          have hlv14_1 : aj_lv lv14 1 = some (.ref p1) := fx_e1 elv14 hlv_1 (by decide) (Or.inr rfl)
          have hlv14_2 : aj_lv lv14 2 = some (.int x13) := by rw [elv14]; exact ak_set1_eq _ _ _
          show fx_W _ _ _ 57 lv14 [] _ _
          refine fx_n (pc' := 20) (lv' := lv14) (st' := []) aj_d165 rfl (Nat.le_succ _) (fun _ => rfl) ?_
          exact (ih.1) lv14 (x13) X10  hlv14_0 hlv14_1 hlv14_2
        · skip
          refine fx_qe (c := (w11).toInt = 0) (fx_f_eq q12) ?_
          show fx_W _ _ _ 36 lv [] _ _
          refine fx_i2 aj_d165 rfl (Nat.le_succ _) (fun _ => rfl) hlv_1 ?_
          refine fx_i0 aj_d165 rfl (Nat.le_succ _) (fun _ => rfl) hlv_2 ?_
          refine fx_cv aj_d165 rfl (Nat.le_succ _) rfl [_] rfl rfl (gx_167_ok p1 y2) ?_
          rintro _ X15 ⟨w16, rfl, hR15⟩ hok15 hle15
          refine fx_qc hR15 ?_
          show fx_W _ _ _ 41 lv [.int w16] _ _
          refine fx_b0 (tgt := 45) aj_d165 rfl (Nat.le_succ _) rfl (fun q17 => ?_) (fun q17 => ?_)
          · skip
            refine fx_qe (c := (w16).toInt = 0) (fx_t_ne q17) ?_
            show fx_W _ _ _ 45 lv [] _ _
            refine fx_i2 aj_d165 rfl (Nat.le_succ _) (fun _ => rfl) hlv_0 ?_
            refine fx_i2 aj_d165 rfl (Nat.le_succ _) (fun _ => rfl) hlv_1 ?_
            refine fx_i0 aj_d165 rfl (Nat.le_succ _) (fun _ => rfl) hlv_2 ?_
            refine fx_cv aj_d165 rfl (Nat.le_succ _) rfl [_] rfl rfl (gx_167_ok p1 y2) ?_
            rintro _ X18 ⟨w19, rfl, hR18⟩ hok18 hle18
            refine fx_qc hR18 ?_
            show fx_W _ _ _ 51 lv [.int w19, .ref 113] _ _
            refine fx_cv aj_d165 rfl (Nat.le_succ _) rfl [_] rfl rfl (gx_168_ok w19) ?_
            rintro _ X20 ⟨w21, rfl, hR20⟩ hok20 hle20
            refine fx_qc hR20 ?_
            show fx_W _ _ _ 54 lv [] _ _
            refine fx_incq aj_d165 rfl (Nat.le_succ _) hlv_2 (by decide) (fun x22 ex22 => ?_)
            obtain ⟨lv23, elv23⟩ : ∃ l, l = aj_set1 lv 2 (.int x22) := ⟨_, rfl⟩
            rw [← elv23]
            have hlv23_0 : aj_lv lv23 0 = some (.ref 113) := fx_e1 elv23 hlv_0 (by decide) (Or.inl (by decide))
            have hlv23_1 : aj_lv lv23 1 = some (.ref p1) := fx_e1 elv23 hlv_1 (by decide) (Or.inr rfl)
            have hlv23_2 : aj_lv lv23 2 = some (.int x22) := by rw [elv23]; exact ak_set1_eq _ _ _
            show fx_W _ _ _ 57 lv23 [] _ _
            refine fx_n (pc' := 20) (lv' := lv23) (st' := []) aj_d165 rfl (Nat.le_succ _) (fun _ => rfl) ?_
            exact (ih.1) lv23 (x22) X20  hlv23_0 hlv23_1 hlv23_2
          · skip
            refine fx_qi (c := (w16).toInt = 0) (fx_f_ne q17) ?_
            show fx_W _ _ _ 44 lv [] _ _
            exact fx_rn aj_d165 rfl ⟨(), rfl, 0, rfl⟩
    · intro lv y2 y3 X hlv_0 hlv_2 hlv_3
      refine fx_mono (Q := fx_Q fx_qN (fun v X' => ∃ n : Nat, gxT_165_71 p1 (gxF_165 p1 n) y2 y3 X v X')) (fun r X' ⟨v, e, n, z⟩ => ⟨v, e, n + 1, gxI_165_71 z⟩) ?_
      unfold gxT_165_71
      refine fx_i0 aj_d165 rfl (Nat.le_refl _) (fun _ => rfl) hlv_3 ?_
      refine fx_n (pc' := 74) (lv' := lv) (st' := [.int ((Int8.ofInt 20).toInt32), .int y3]) aj_d165 rfl (Nat.le_succ _) (fun _ => rfl) ?_
      refine fx_b (tgt := 101) aj_d165 rfl (Nat.le_succ _) rfl (fun q24 => ?_) (fun q24 => ?_)
      · skip
        refine fx_qe (c := (y3).toInt < 20) (fx_t_ge q24) ?_
        show fx_W _ _ _ 101 lv [] _ _
        refine fx_i2 aj_d165 rfl (Nat.le_succ _) (fun _ => rfl) hlv_0 ?_
        refine fx_i0 aj_d165 rfl (Nat.le_succ _) (fun _ => rfl) hlv_2 ?_
        refine fx_i0 aj_d165 rfl (Nat.le_succ _) (fun _ => rfl) hlv_3 ?_
        refine fx_cv aj_d165 rfl (Nat.le_succ _) rfl [_, _] rfl rfl (gx_171_ok y2 y3) ?_
        rintro _ X25 ⟨w26, rfl, hR25⟩ hok25 hle25
        refine fx_qc hR25 ?_
        show fx_W _ _ _ 107 lv [] _ _
        exact fx_rn aj_d165 rfl ⟨(), rfl, 0, rfl⟩
      · skip
        refine fx_qi (c := (y3).toInt < 20) (fx_f_ge q24) ?_
        show fx_W _ _ _ 77 lv [] _ _
        refine fx_i2 aj_d165 rfl (Nat.le_succ _) (fun _ => rfl) hlv_0 ?_
        refine fx_gF aj_d165 rfl (Nat.le_succ _) rfl rfl fx_in_5_2 (t := 114) rfl (fun hA27 => ?_)
        refine fx_i2 aj_d165 rfl (Nat.le_succ _) (fun _ => rfl) hlv_0 ?_
        refine fx_gI aj_d165 rfl (Nat.le_succ _) rfl rfl (Or.inl rfl) ?_
        refine fx_n (pc' := 86) (lv' := lv) (st' := [.int (Int32.ofInt 0), .int (X.1 113 3), .ref 114]) aj_d165 rfl (Nat.le_succ _) (fun _ => rfl) ?_
        refine fx_i0 aj_d165 rfl (Nat.le_succ _) (fun _ => rfl) hlv_2 ?_
        refine fx_i0 aj_d165 rfl (Nat.le_succ _) (fun _ => rfl) hlv_3 ?_
        refine fx_n (pc' := 89) (lv' := lv) (st' := [.int (Int32.ofInt 0), .int y3, .int y2, .int (Int32.ofInt 0), .int (X.1 113 3), .ref 114]) aj_d165 rfl (Nat.le_succ _) (fun _ => rfl) ?_
        refine fx_cs aj_d165 rfl (Nat.le_succ _) rfl rfl [_, _, _, _, _, _] rfl rfl (gx_169_ok (X.1 113 3) (Int32.ofInt 0) y2 y3 (Int32.ofInt 0)) ?_
        rintro _ X28 ⟨w29, rfl, hR28⟩ hok28 hle28
        refine fx_qc hR28 ?_
        show fx_W _ _ _ 92 lv [.int w29] _ _
        refine fx_b0 (tgt := 101) aj_d165 rfl (Nat.le_succ _) rfl (fun q30 => ?_) (fun q30 => ?_)
        · skip
          refine fx_qe (c := (w29).toInt = 0) (fx_t_ne q30) ?_
          show fx_W _ _ _ 101 lv [] _ _
          refine fx_i2 aj_d165 rfl (Nat.le_succ _) (fun _ => rfl) hlv_0 ?_
          refine fx_i0 aj_d165 rfl (Nat.le_succ _) (fun _ => rfl) hlv_2 ?_
          refine fx_i0 aj_d165 rfl (Nat.le_succ _) (fun _ => rfl) hlv_3 ?_
          refine fx_cv aj_d165 rfl (Nat.le_succ _) rfl [_, _] rfl rfl (gx_171_ok y2 y3) ?_
          rintro _ X31 ⟨w32, rfl, hR31⟩ hok31 hle31
          refine fx_qc hR31 ?_
          show fx_W _ _ _ 107 lv [] _ _
          exact fx_rn aj_d165 rfl ⟨(), rfl, 0, rfl⟩
        · skip
          refine fx_qi (c := (w29).toInt = 0) (fx_f_ne q30) ?_
          show fx_W _ _ _ 95 lv [] _ _
          refine fx_incq aj_d165 rfl (Nat.le_succ _) hlv_3 (by decide) (fun x33 ex33 => ?_)
          obtain ⟨lv34, elv34⟩ : ∃ l, l = aj_set1 lv 3 (.int x33) := ⟨_, rfl⟩
          rw [← elv34]
          have hlv34_0 : aj_lv lv34 0 = some (.ref 113) := fx_e1 elv34 hlv_0 (by decide) (Or.inl (by decide))
          have hlv34_2 : aj_lv lv34 2 = some (.int y2) := fx_e1 elv34 hlv_2 (by decide) (Or.inr rfl)
          have hlv34_3 : aj_lv lv34 3 = some (.int x33) := by rw [elv34]; exact ak_set1_eq _ _ _
          show fx_W _ _ _ 98 lv34 [] _ _
          refine fx_n (pc' := 71) (lv' := lv34) (st' := []) aj_d165 rfl (Nat.le_succ _) (fun _ => rfl) ?_
          exact (ih.2) lv34 (y2) (x33) X28  hlv34_0 hlv34_2 hlv34_3
theorem gx_165_ok {tb : aj_T} (p1 : Nat) {X : fx_X} : fx_K tb 165 [.ref 113, .ref p1] X (fx_Q fx_qN (fun v X' => gx_165 p1 X v X')) := by
  refine fx_m aj_m165_at rfl (fun N => ?_)
  refine fx_mono (Q := fx_Q fx_qN (fun v X' => ∃ n : Nat, gxE_165 p1 (gxF_165 p1 n) X v X')) (fun r X' h => h) ?_
  unfold gxE_165
  show fx_W _ _ _ 0 [(0, .ref 113), (1, .ref p1)] [] _ _
  obtain ⟨lv1, elv1⟩ : ∃ l : aj_V, l = [(0, .ref 113), (1, .ref p1)] := ⟨_, rfl⟩
  rw [← elv1]
  have hlv1_0 : aj_lv lv1 0 = some (.ref 113) := by rw [elv1]; rfl
  have hlv1_1 : aj_lv lv1 1 = some (.ref p1) := by rw [elv1]; rfl
  refine fx_i2 aj_d165 rfl (Nat.le_succ _) (fun _ => rfl) hlv1_0 ?_
  refine fx_n (pc' := 2) (lv' := lv1) (st' := [.int (Int32.ofInt 0), .ref 113]) aj_d165 rfl (Nat.le_succ _) (fun _ => rfl) ?_
  refine fx_pI aj_d165 rfl (Nat.le_succ _) rfl rfl (Or.inl rfl) fx_no_5_1 (by decide) ?_
  refine fx_qX (fun X2 eX2 => ?_)
  show fx_W _ _ _ 5 lv1 [] _ _
  refine fx_i2 aj_d165 rfl (Nat.le_succ _) (fun _ => rfl) hlv1_0 ?_
  refine fx_n (pc' := 7) (lv' := lv1) (st' := [.int (Int32.ofInt 0), .ref 113]) aj_d165 rfl (Nat.le_succ _) (fun _ => rfl) ?_
  refine fx_pI aj_d165 rfl (Nat.le_succ _) rfl rfl (Or.inl rfl) fx_no_5_3 (by decide) ?_
  refine fx_qX (fun X3 eX3 => ?_)
  show fx_W _ _ _ 10 lv1 [] _ _
  refine fx_i2 aj_d165 rfl (Nat.le_succ _) (fun _ => rfl) hlv1_1 ?_
  refine fx_gI aj_d165 rfl (Nat.le_succ _) rfl rfl (Or.inr (Or.inl rfl)) ?_
  refine fx_b0 (tgt := 18) aj_d165 rfl (Nat.le_succ _) rfl (fun q4 => ?_) (fun q4 => ?_)
  · skip
    refine fx_qe (c := ((X3.1 p1 17)).toInt = 0) (fx_t_ne q4) ?_
    show fx_W _ _ _ 18 lv1 [] _ _
    refine fx_n (pc' := 19) (lv' := lv1) (st' := [.int (Int32.ofInt 0)]) aj_d165 rfl (Nat.le_succ _) (fun _ => rfl) ?_
    refine fx_s0 (j := 2) aj_d165 rfl (Nat.le_succ _) (by decide) (fun _ => rfl) ?_
    obtain ⟨lv5, elv5⟩ : ∃ l, l = aj_set1 lv1 2 (.int (Int32.ofInt 0)) := ⟨_, rfl⟩
    rw [← elv5]
    have hlv5_0 : aj_lv lv5 0 = some (.ref 113) := fx_e1 elv5 hlv1_0 (by decide) (Or.inl (by decide))
    have hlv5_1 : aj_lv lv5 1 = some (.ref p1) := fx_e1 elv5 hlv1_1 (by decide) (Or.inr rfl)
    have hlv5_2 : aj_lv lv5 2 = some (.int (Int32.ofInt 0)) := by rw [elv5]; exact ak_set1_eq _ _ _
    show fx_W _ _ _ 20 lv5 [] _ _
    exact ((gxL_165 p1 N).1) lv5 ((Int32.ofInt 0)) X3  hlv5_0 hlv5_1 hlv5_2
  · skip
    refine fx_qi (c := ((X3.1 p1 17)).toInt = 0) (fx_f_ne q4) ?_
    show fx_W _ _ _ 17 lv1 [] _ _
    exact fx_rn aj_d165 rfl ⟨(), rfl, 0, rfl⟩
def gxT_164_22 (p1 : Nat) (p2 : Int32) (P : Nat → List Int32 → List Int64 → List Nat → fx_X → Int32 → fx_X → Prop) (y3 : Int32) (y4 : Int32) (X : fx_X) (v : Int32) (X' : fx_X) : Prop :=
  (if (y4).toInt < 20 then ((if ((((X.1 113 1) >>> (y4 &&& 31)) &&& (Int32.ofInt 1))).toInt = 0 then (∃ x12 : Int32, x12 = y4 + Int32.ofInt 1 ∧ P 22 [y3, x12] [] [] X v X') else ((if (y3).toInt = (p2).toInt then (v = y4 ∧ X' = X) else (∃ x15 : Int32, x15 = y3 + Int32.ofInt 1 ∧ ∃ x17 : Int32, x17 = y4 + Int32.ofInt 1 ∧ P 22 [x15, x17] [] [] X v X'))))) else (v = (Int32.ofInt (-1)) ∧ X' = X))
def gxE_164 (p1 : Nat) (p2 : Int32) (P : Nat → List Int32 → List Int64 → List Nat → fx_X → Int32 → fx_X → Prop) (X : fx_X) (v : Int32) (X' : fx_X) : Prop :=
  (if ((X.1 113 0)).toInt = 0 then (∃ X5 : fx_X, X5 = (fx_wI X 113 0 (Int32.ofInt 1)) ∧ ∃ (w7 : Unit) (X6 : fx_X), gx_165 p1 X5 w7 X6 ∧ P 22 [(Int32.ofInt 0), (Int32.ofInt 0)] [] [] X6 v X') else (P 22 [(Int32.ofInt 0), (Int32.ofInt 0)] [] [] X v X'))
noncomputable def gxF_164 (p1 : Nat) (p2 : Int32) (n : Nat) : Nat → List Int32 → List Int64 → List Nat → fx_X → Int32 → fx_X → Prop := Nat.rec (motive := fun _ => Nat → List Int32 → List Int64 → List Nat → fx_X → Int32 → fx_X → Prop) (fun _ _ _ _ _ _ _ => False) (fun _ P l is ls rs X v X' => (l = 22 ∧ ∃ (y3 : Int32) (y4 : Int32), is = [y3, y4] ∧ ls = [] ∧ rs = [] ∧ gxT_164_22 p1 p2 P y3 y4 X v X')) n
theorem gxI_164_22 {p1 : Nat} {p2 : Int32} {n : Nat} {y3 : Int32} {y4 : Int32} {X : fx_X} {v : Int32} {X' : fx_X} (h : gxT_164_22 p1 p2 (gxF_164 p1 p2 n) y3 y4 X v X') : gxF_164 p1 p2 (n + 1) 22 [y3, y4] [] [] X v X' := ⟨rfl, y3, y4, rfl, rfl, rfl, h⟩
theorem gxO_164_22 {p1 : Nat} {p2 : Int32} {n : Nat} {y3 : Int32} {y4 : Int32} {X : fx_X} {v : Int32} {X' : fx_X} (h : gxF_164 p1 p2 (n + 1) 22 [y3, y4] [] [] X v X') : gxT_164_22 p1 p2 (gxF_164 p1 p2 n) y3 y4 X v X' := by
  rcases h with ⟨-, _, _, e1, e2, e3, h⟩
  · cases e1; cases e2; cases e3; exact h
def gx_164 (p1 : Nat) (p2 : Int32) (X : fx_X) (v : Int32) (X' : fx_X) : Prop := ∃ n : Nat, gxE_164 p1 p2 (gxF_164 p1 p2 n) X v X'
theorem gxL_164 {tb : aj_T} (p1 : Nat) (p2 : Int32) : ∀ N : Nat, (∀ (lv : aj_V) (y3 : Int32) (y4 : Int32) (X : fx_X), aj_lv lv 0 = some (.ref 113) → aj_lv lv 2 = some (.int p2) → aj_lv lv 3 = some (.int y3) → aj_lv lv 4 = some (.int y4) → fx_W tb aj_m164 N 22 lv [] X (fx_Q fx_qI (fun v X' => ∃ n : Nat, gxF_164 p1 p2 n 22 [y3, y4] [] [] X v X'))) := by
  intro N
  induction N with
  | zero => exact (by intros; exact fx_z)
  | succ N ih =>
    skip
    · intro lv y3 y4 X hlv_0 hlv_2 hlv_3 hlv_4
      refine fx_mono (Q := fx_Q fx_qI (fun v X' => ∃ n : Nat, gxT_164_22 p1 p2 (gxF_164 p1 p2 n) y3 y4 X v X')) (fun r X' ⟨v, e, n, z⟩ => ⟨v, e, n + 1, gxI_164_22 z⟩) ?_
      unfold gxT_164_22
      refine fx_i0 aj_d164 rfl (Nat.le_refl _) (fun _ => rfl) hlv_4 ?_
      refine fx_n (pc' := 26) (lv' := lv) (st' := [.int ((Int8.ofInt 20).toInt32), .int y4]) aj_d164 rfl (Nat.le_succ _) (fun _ => rfl) ?_
      refine fx_b (tgt := 58) aj_d164 rfl (Nat.le_succ _) rfl (fun q10 => ?_) (fun q10 => ?_)
      · skip
        refine fx_qe (c := (y4).toInt < 20) (fx_t_ge q10) ?_
        show fx_W _ _ _ 58 lv [] _ _
        refine fx_n (pc' := 59) (lv' := lv) (st' := [.int (Int32.ofInt (-1))]) aj_d164 rfl (Nat.le_succ _) (fun _ => rfl) ?_
        exact fx_ri aj_d164 rfl ⟨_, rfl, 0, rfl, rfl⟩
      · skip
        refine fx_qi (c := (y4).toInt < 20) (fx_f_ge q10) ?_
        show fx_W _ _ _ 29 lv [] _ _
        refine fx_i2 aj_d164 rfl (Nat.le_succ _) (fun _ => rfl) hlv_0 ?_
        refine fx_gI aj_d164 rfl (Nat.le_succ _) rfl rfl (Or.inl rfl) ?_
        refine fx_i0 aj_d164 rfl (Nat.le_succ _) (fun _ => rfl) hlv_4 ?_
        refine fx_n (pc' := 36) (lv' := lv) (st' := [.int ((X.1 113 1) >>> (y4 &&& 31))]) aj_d164 rfl (Nat.le_succ _) (fun _ => rfl) ?_
        refine fx_n (pc' := 37) (lv' := lv) (st' := [.int (Int32.ofInt 1), .int ((X.1 113 1) >>> (y4 &&& 31))]) aj_d164 rfl (Nat.le_succ _) (fun _ => rfl) ?_
        refine fx_n (pc' := 38) (lv' := lv) (st' := [.int (((X.1 113 1) >>> (y4 &&& 31)) &&& (Int32.ofInt 1))]) aj_d164 rfl (Nat.le_succ _) (fun _ => rfl) ?_
        refine fx_b0 (tgt := 52) aj_d164 rfl (Nat.le_succ _) rfl (fun q11 => ?_) (fun q11 => ?_)
        · skip
          refine fx_qi (c := ((((X.1 113 1) >>> (y4 &&& 31)) &&& (Int32.ofInt 1))).toInt = 0) (fx_t_eq q11) ?_
          show fx_W _ _ _ 52 lv [] _ _
          refine fx_incq aj_d164 rfl (Nat.le_succ _) hlv_4 (by decide) (fun x12 ex12 => ?_)
          obtain ⟨lv13, elv13⟩ : ∃ l, l = aj_set1 lv 4 (.int x12) := ⟨_, rfl⟩
          rw [← elv13]
          have hlv13_0 : aj_lv lv13 0 = some (.ref 113) := fx_e1 elv13 hlv_0 (by decide) (Or.inl (by decide))
          have hlv13_2 : aj_lv lv13 2 = some (.int p2) := fx_e1 elv13 hlv_2 (by decide) (Or.inl (by decide))
          have hlv13_3 : aj_lv lv13 3 = some (.int y3) := fx_e1 elv13 hlv_3 (by decide) (Or.inr rfl)
          have hlv13_4 : aj_lv lv13 4 = some (.int x12) := by rw [elv13]; exact ak_set1_eq _ _ _
          show fx_W _ _ _ 55 lv13 [] _ _
          refine fx_n (pc' := 22) (lv' := lv13) (st' := []) aj_d164 rfl (Nat.le_succ _) (fun _ => rfl) ?_
          exact (ih) lv13 (y3) (x12) X  hlv13_0 hlv13_2 hlv13_3 hlv13_4
        · skip
          refine fx_qe (c := ((((X.1 113 1) >>> (y4 &&& 31)) &&& (Int32.ofInt 1))).toInt = 0) (fx_f_eq q11) ?_
          show fx_W _ _ _ 41 lv [] _ _
          refine fx_i0 aj_d164 rfl (Nat.le_succ _) (fun _ => rfl) hlv_3 ?_
          refine fx_i0 aj_d164 rfl (Nat.le_succ _) (fun _ => rfl) hlv_2 ?_
          refine fx_b (tgt := 49) aj_d164 rfl (Nat.le_succ _) rfl (fun q14 => ?_) (fun q14 => ?_)
          · skip
            refine fx_qe (c := (y3).toInt = (p2).toInt) (fx_t_ne q14) ?_
            show fx_W _ _ _ 49 lv [] _ _
            refine fx_incq aj_d164 rfl (Nat.le_succ _) hlv_3 (by decide) (fun x15 ex15 => ?_)
            obtain ⟨lv16, elv16⟩ : ∃ l, l = aj_set1 lv 3 (.int x15) := ⟨_, rfl⟩
            rw [← elv16]
            have hlv16_0 : aj_lv lv16 0 = some (.ref 113) := fx_e1 elv16 hlv_0 (by decide) (Or.inl (by decide))
            have hlv16_2 : aj_lv lv16 2 = some (.int p2) := fx_e1 elv16 hlv_2 (by decide) (Or.inr rfl)
            have hlv16_4 : aj_lv lv16 4 = some (.int y4) := fx_e1 elv16 hlv_4 (by decide) (Or.inl (by decide))
            have hlv16_3 : aj_lv lv16 3 = some (.int x15) := by rw [elv16]; exact ak_set1_eq _ _ _
            show fx_W _ _ _ 52 lv16 [] _ _
            refine fx_incq aj_d164 rfl (Nat.le_succ _) hlv16_4 (by decide) (fun x17 ex17 => ?_)
            obtain ⟨lv18, elv18⟩ : ∃ l, l = aj_set1 lv16 4 (.int x17) := ⟨_, rfl⟩
            rw [← elv18]
            have hlv18_0 : aj_lv lv18 0 = some (.ref 113) := fx_e1 elv18 hlv16_0 (by decide) (Or.inl (by decide))
            have hlv18_2 : aj_lv lv18 2 = some (.int p2) := fx_e1 elv18 hlv16_2 (by decide) (Or.inl (by decide))
            have hlv18_3 : aj_lv lv18 3 = some (.int x15) := fx_e1 elv18 hlv16_3 (by decide) (Or.inr rfl)
            have hlv18_4 : aj_lv lv18 4 = some (.int x17) := by rw [elv18]; exact ak_set1_eq _ _ _
            show fx_W _ _ _ 55 lv18 [] _ _
            refine fx_n (pc' := 22) (lv' := lv18) (st' := []) aj_d164 rfl (Nat.le_succ _) (fun _ => rfl) ?_
            exact (ih) lv18 (x15) (x17) X  hlv18_0 hlv18_2 hlv18_3 hlv18_4
          · skip
            refine fx_qi (c := (y3).toInt = (p2).toInt) (fx_f_ne q14) ?_
            show fx_W _ _ _ 46 lv [] _ _
            refine fx_i0 aj_d164 rfl (Nat.le_succ _) (fun _ => rfl) hlv_4 ?_
            exact fx_ri aj_d164 rfl ⟨_, rfl, 0, rfl, rfl⟩
theorem gx_164_ok {tb : aj_T} (p1 : Nat) (p2 : Int32) {X : fx_X} : fx_K tb 164 [.ref 113, .ref p1, .int p2] X (fx_Q fx_qI (fun v X' => gx_164 p1 p2 X v X')) := by
  refine fx_m aj_m164_at rfl (fun N => ?_)
  refine fx_mono (Q := fx_Q fx_qI (fun v X' => ∃ n : Nat, gxE_164 p1 p2 (gxF_164 p1 p2 n) X v X')) (fun r X' h => h) ?_
  unfold gxE_164
  show fx_W _ _ _ 0 [(0, .ref 113), (1, .ref p1), (2, .int p2)] [] _ _
  obtain ⟨lv1, elv1⟩ : ∃ l : aj_V, l = [(0, .ref 113), (1, .ref p1), (2, .int p2)] := ⟨_, rfl⟩
  rw [← elv1]
  have hlv1_0 : aj_lv lv1 0 = some (.ref 113) := by rw [elv1]; rfl
  have hlv1_1 : aj_lv lv1 1 = some (.ref p1) := by rw [elv1]; rfl
  have hlv1_2 : aj_lv lv1 2 = some (.int p2) := by rw [elv1]; rfl
  refine fx_i2 aj_d164 rfl (Nat.le_succ _) (fun _ => rfl) hlv1_0 ?_
  refine fx_gI aj_d164 rfl (Nat.le_succ _) rfl rfl (Or.inr (Or.inl rfl)) ?_
  refine fx_b0 (tgt := 17) aj_d164 rfl (Nat.le_succ _) rfl (fun q2 => ?_) (fun q2 => ?_)
  · skip
    refine fx_qe (c := ((X.1 113 0)).toInt = 0) (fx_t_ne q2) ?_
    show fx_W _ _ _ 17 lv1 [] _ _
    refine fx_n (pc' := 18) (lv' := lv1) (st' := [.int (Int32.ofInt 0)]) aj_d164 rfl (Nat.le_succ _) (fun _ => rfl) ?_
    refine fx_s0 (j := 3) aj_d164 rfl (Nat.le_succ _) (by decide) (fun _ => rfl) ?_
    obtain ⟨lv3, elv3⟩ : ∃ l, l = aj_set1 lv1 3 (.int (Int32.ofInt 0)) := ⟨_, rfl⟩
    rw [← elv3]
    have hlv3_0 : aj_lv lv3 0 = some (.ref 113) := fx_e1 elv3 hlv1_0 (by decide) (Or.inl (by decide))
    have hlv3_2 : aj_lv lv3 2 = some (.int p2) := fx_e1 elv3 hlv1_2 (by decide) (Or.inr rfl)
    have hlv3_3 : aj_lv lv3 3 = some (.int (Int32.ofInt 0)) := by rw [elv3]; exact ak_set1_eq _ _ _
    show fx_W _ _ _ 19 lv3 [] _ _
    refine fx_n (pc' := 20) (lv' := lv3) (st' := [.int (Int32.ofInt 0)]) aj_d164 rfl (Nat.le_succ _) (fun _ => rfl) ?_
    refine fx_s0 (j := 4) aj_d164 rfl (Nat.le_succ _) (by decide) (fun _ => rfl) ?_
    obtain ⟨lv4, elv4⟩ : ∃ l, l = aj_set1 lv3 4 (.int (Int32.ofInt 0)) := ⟨_, rfl⟩
    rw [← elv4]
    have hlv4_0 : aj_lv lv4 0 = some (.ref 113) := fx_e1 elv4 hlv3_0 (by decide) (Or.inl (by decide))
    have hlv4_2 : aj_lv lv4 2 = some (.int p2) := fx_e1 elv4 hlv3_2 (by decide) (Or.inl (by decide))
    have hlv4_3 : aj_lv lv4 3 = some (.int (Int32.ofInt 0)) := fx_e1 elv4 hlv3_3 (by decide) (Or.inr rfl)
    have hlv4_4 : aj_lv lv4 4 = some (.int (Int32.ofInt 0)) := by rw [elv4]; exact ak_set1_eq _ _ _
    show fx_W _ _ _ 22 lv4 [] _ _
    exact ((gxL_164 p1 p2 N)) lv4 ((Int32.ofInt 0)) ((Int32.ofInt 0)) X  hlv4_0 hlv4_2 hlv4_3 hlv4_4
  · skip
    refine fx_qi (c := ((X.1 113 0)).toInt = 0) (fx_f_ne q2) ?_
    show fx_W _ _ _ 7 lv1 [] _ _
    refine fx_i2 aj_d164 rfl (Nat.le_succ _) (fun _ => rfl) hlv1_0 ?_
    refine fx_n (pc' := 9) (lv' := lv1) (st' := [.int (Int32.ofInt 1), .ref 113]) aj_d164 rfl (Nat.le_succ _) (fun _ => rfl) ?_
    refine fx_pI aj_d164 rfl (Nat.le_succ _) rfl rfl (Or.inr (Or.inl rfl)) fx_no_5_0 (by decide) ?_
    refine fx_qX (fun X5 eX5 => ?_)
    show fx_W _ _ _ 12 lv1 [] _ _
    refine fx_i2 aj_d164 rfl (Nat.le_succ _) (fun _ => rfl) hlv1_0 ?_
    refine fx_i2 aj_d164 rfl (Nat.le_succ _) (fun _ => rfl) hlv1_1 ?_
    refine fx_cv aj_d164 rfl (Nat.le_succ _) rfl [_] rfl rfl (gx_165_ok p1) ?_
    rintro _ X6 ⟨w7, rfl, hR6⟩ hok6 hle6
    refine fx_qc hR6 ?_
    show fx_W _ _ _ 17 lv1 [] _ _
    refine fx_n (pc' := 18) (lv' := lv1) (st' := [.int (Int32.ofInt 0)]) aj_d164 rfl (Nat.le_succ _) (fun _ => rfl) ?_
    refine fx_s0 (j := 3) aj_d164 rfl (Nat.le_succ _) (by decide) (fun _ => rfl) ?_
    obtain ⟨lv8, elv8⟩ : ∃ l, l = aj_set1 lv1 3 (.int (Int32.ofInt 0)) := ⟨_, rfl⟩
    rw [← elv8]
    have hlv8_0 : aj_lv lv8 0 = some (.ref 113) := fx_e1 elv8 hlv1_0 (by decide) (Or.inl (by decide))
    have hlv8_2 : aj_lv lv8 2 = some (.int p2) := fx_e1 elv8 hlv1_2 (by decide) (Or.inr rfl)
    have hlv8_3 : aj_lv lv8 3 = some (.int (Int32.ofInt 0)) := by rw [elv8]; exact ak_set1_eq _ _ _
    show fx_W _ _ _ 19 lv8 [] _ _
    refine fx_n (pc' := 20) (lv' := lv8) (st' := [.int (Int32.ofInt 0)]) aj_d164 rfl (Nat.le_succ _) (fun _ => rfl) ?_
    refine fx_s0 (j := 4) aj_d164 rfl (Nat.le_succ _) (by decide) (fun _ => rfl) ?_
    obtain ⟨lv9, elv9⟩ : ∃ l, l = aj_set1 lv8 4 (.int (Int32.ofInt 0)) := ⟨_, rfl⟩
    rw [← elv9]
    have hlv9_0 : aj_lv lv9 0 = some (.ref 113) := fx_e1 elv9 hlv8_0 (by decide) (Or.inl (by decide))
    have hlv9_2 : aj_lv lv9 2 = some (.int p2) := fx_e1 elv9 hlv8_2 (by decide) (Or.inl (by decide))
    have hlv9_3 : aj_lv lv9 3 = some (.int (Int32.ofInt 0)) := fx_e1 elv9 hlv8_3 (by decide) (Or.inr rfl)
    have hlv9_4 : aj_lv lv9 4 = some (.int (Int32.ofInt 0)) := by rw [elv9]; exact ak_set1_eq _ _ _
    show fx_W _ _ _ 22 lv9 [] _ _
    exact ((gxL_164 p1 p2 N)) lv9 ((Int32.ofInt 0)) ((Int32.ofInt 0)) X6  hlv9_0 hlv9_2 hlv9_3 hlv9_4
def gx_163 (p1 : Int32) (X : fx_X) (v : Int32) (X' : fx_X) : Prop :=
  ∃ b4 : Nat, X.2.2.1 52 3 = some b4 ∧ ∃ (w6 : Int32) (X5 : fx_X), gx_164 b4 p1 X w6 X5 ∧ v = w6 ∧ X' = X5
theorem gx_163_ok {tb : aj_T} (p1 : Int32) {X : fx_X} : fx_K tb 163 [.ref 52, .int p1] X (fx_Q fx_qI (fun v X' => gx_163 p1 X v X')) := by
  refine fx_m aj_m163_at rfl (fun N => ?_)
  refine fx_mono (Q := fx_Q fx_qI (fun v X' => ∃ n : Nat, gx_163 p1 X v X')) (fun r X' ⟨v, e, _, z⟩ => ⟨v, e, z⟩) ?_
  unfold gx_163
  show fx_W _ _ _ 0 [(0, .ref 52), (1, .int p1)] [] _ _
  obtain ⟨lv1, elv1⟩ : ∃ l : aj_V, l = [(0, .ref 52), (1, .int p1)] := ⟨_, rfl⟩
  rw [← elv1]
  have hlv1_0 : aj_lv lv1 0 = some (.ref 52) := by rw [elv1]; rfl
  have hlv1_1 : aj_lv lv1 1 = some (.int p1) := by rw [elv1]; rfl
  refine fx_i2 aj_d163 rfl (Nat.le_succ _) (fun _ => rfl) hlv1_0 ?_
  refine fx_gF aj_d163 rfl (Nat.le_succ _) rfl rfl fx_in_10_11 (t := 113) rfl (fun hA2 => ?_)
  refine fx_i2 aj_d163 rfl (Nat.le_succ _) (fun _ => rfl) hlv1_0 ?_
  refine fx_gR aj_d163 rfl (Nat.le_succ _) rfl rfl (Or.inl ⟨_, rfl⟩) (fun _ z => absurd (by decide) z) (fun b4 q3 => ?_)
  show fx_W _ _ _ 8 lv1 [.ref b4, .ref 113] _ _
  refine fx_qs q3 ?_
  refine fx_i0 aj_d163 rfl (Nat.le_succ _) (fun _ => rfl) hlv1_1 ?_
  refine fx_cv aj_d163 rfl (Nat.le_succ _) rfl [_, _] rfl rfl (gx_164_ok b4 p1) ?_
  rintro _ X5 ⟨w6, rfl, hR5⟩ hok5 hle5
  refine fx_qc hR5 ?_
  show fx_W _ _ _ 12 lv1 [.int w6] _ _
  exact fx_ri aj_d163 rfl ⟨_, rfl, 0, rfl, rfl⟩
def gx_177 (p0 : Nat) (p1 : Int32) (X : fx_X) (v : Nat) (X' : fx_X) : Prop :=
  (if (p1).toInt = ((Int32.ofNat (X.2.2.2.1 p0).2)).toInt then (False) else (∃ b4 : Nat, b4 = X.2.2.2.2 ∧ ∃ X5 : fx_X, X5 = (fx_na X (p1).toInt.toNat) ∧ ∃ X7 : fx_X, X7 = (fx_cp X5 p0 (Int32.ofInt 0).toInt.toNat b4 (Int32.ofInt 0).toInt.toNat (if p1 < (Int32.ofNat (X5.2.2.2.1 p0).2) then p1 else (Int32.ofNat (X5.2.2.2.1 p0).2)).toInt.toNat) ∧ v = b4 ∧ X' = X7))
theorem gx_177_ok {tb : aj_T} (p0 : Nat) (p1 : Int32) {X : fx_X} : fx_K tb 177 [.ref p0, .int p1] X (fx_Q fx_qB (fun v X' => gx_177 p0 p1 X v X')) := by
  refine fx_m aj_m177_at rfl (fun N => ?_)
  refine fx_mono (Q := fx_Q fx_qB (fun v X' => ∃ n : Nat, gx_177 p0 p1 X v X')) (fun r X' ⟨v, e, _, z⟩ => ⟨v, e, z⟩) ?_
  unfold gx_177
  show fx_W _ _ _ 0 [(0, .ref p0), (1, .int p1)] [] _ _
  obtain ⟨lv1, elv1⟩ : ∃ l : aj_V, l = [(0, .ref p0), (1, .int p1)] := ⟨_, rfl⟩
  rw [← elv1]
  have hlv1_0 : aj_lv lv1 0 = some (.ref p0) := by rw [elv1]; rfl
  have hlv1_1 : aj_lv lv1 1 = some (.int p1) := by rw [elv1]; rfl
  refine fx_i0 aj_d177 rfl (Nat.le_succ _) (fun _ => rfl) hlv1_1 ?_
  refine fx_i2 aj_d177 rfl (Nat.le_succ _) (fun _ => rfl) hlv1_0 ?_
  refine fx_al aj_d177 rfl (Nat.le_succ _) ?_
  show fx_W _ _ _ 3 lv1 [.int (Int32.ofNat (X.2.2.2.1 p0).2), .int p1] _ _
  refine fx_b (tgt := 14) aj_d177 rfl (Nat.le_succ _) rfl (fun q2 => ?_) (fun q2 => ?_)
  · skip
    refine fx_qe (c := (p1).toInt = ((Int32.ofNat (X.2.2.2.1 p0).2)).toInt) (fx_t_ne q2) ?_
    show fx_W _ _ _ 14 lv1 [] _ _
    refine fx_i0 aj_d177 rfl (Nat.le_succ _) (fun _ => rfl) hlv1_1 ?_
    refine fx_nA aj_d177 rfl (Nat.le_succ _) (fun hn3 => ?_)
    refine fx_qy (fun b4 eb4 => ?_)
    refine fx_qX (fun X5 eX5 => ?_)
    show fx_W _ _ _ 17 lv1 [.ref b4] _ _
    refine fx_s2 (j := 2) aj_d177 rfl (Nat.le_succ _) (by decide) (fun _ => rfl) ?_
    obtain ⟨lv6, elv6⟩ : ∃ l, l = aj_set1 lv1 2 (.ref b4) := ⟨_, rfl⟩
    rw [← elv6]
    have hlv6_0 : aj_lv lv6 0 = some (.ref p0) := fx_e1 elv6 hlv1_0 (by decide) (Or.inl (by decide))
    have hlv6_1 : aj_lv lv6 1 = some (.int p1) := fx_e1 elv6 hlv1_1 (by decide) (Or.inr rfl)
    have hlv6_2 : aj_lv lv6 2 = some (.ref b4) := by rw [elv6]; exact ak_set1_eq _ _ _
    show fx_W _ _ _ 18 lv6 [] _ _
    refine fx_i2 aj_d177 rfl (Nat.le_succ _) (fun _ => rfl) hlv6_0 ?_
    refine fx_n (pc' := 20) (lv' := lv6) (st' := [.int (Int32.ofInt 0), .ref p0]) aj_d177 rfl (Nat.le_succ _) (fun _ => rfl) ?_
    refine fx_i2 aj_d177 rfl (Nat.le_succ _) (fun _ => rfl) hlv6_2 ?_
    refine fx_n (pc' := 22) (lv' := lv6) (st' := [.int (Int32.ofInt 0), .ref b4, .int (Int32.ofInt 0), .ref p0]) aj_d177 rfl (Nat.le_succ _) (fun _ => rfl) ?_
    refine fx_i2 aj_d177 rfl (Nat.le_succ _) (fun _ => rfl) hlv6_0 ?_
    refine fx_al aj_d177 rfl (Nat.le_succ _) ?_
    show fx_W _ _ _ 24 lv6 [.int (Int32.ofNat (X5.2.2.2.1 p0).2), .int (Int32.ofInt 0), .ref b4, .int (Int32.ofInt 0), .ref p0] _ _
    refine fx_i0 aj_d177 rfl (Nat.le_succ _) (fun _ => rfl) hlv6_1 ?_
    refine fx_mn aj_d177 rfl (Nat.le_succ _) rfl ?_
    show fx_W _ _ _ 28 lv6 [.int (if p1 < (Int32.ofNat (X5.2.2.2.1 p0).2) then p1 else (Int32.ofNat (X5.2.2.2.1 p0).2)), .int (Int32.ofInt 0), .ref b4, .int (Int32.ofInt 0), .ref p0] _ _
    refine fx_ac aj_d177 rfl (Nat.le_succ _) rfl (fun _ => ?_)
    refine fx_qX (fun X7 eX7 => ?_)
    show fx_W _ _ _ 31 lv6 [] _ _
    refine fx_i2 aj_d177 rfl (Nat.le_succ _) (fun _ => rfl) hlv6_2 ?_
    exact fx_ra aj_d177 rfl ⟨_, rfl, 0, rfl, rfl⟩
  · skip
    refine fx_qi (c := (p1).toInt = ((Int32.ofNat (X.2.2.2.1 p0).2)).toInt) (fx_f_ne q2) ?_
    show fx_W _ _ _ 6 lv1 [] _ _
    refine fx_i2 aj_d177 rfl (Nat.le_succ _) (fun _ => rfl) hlv1_0 ?_
    exact fx_d aj_d177 rfl (fun _ => rfl)
def gxT_176_8 (p1 : Int32) (P : Nat → List Int32 → List Int64 → List Nat → fx_X → Unit → fx_X → Prop) (y2 : Int32) (y3 : Int32) (X : fx_X) (v : Unit) (X' : fx_X) : Prop :=
  (if (y3).toInt < 16 then ((if (y2).toInt < (p1).toInt then (∃ x33 : Int32, x33 = (y2 * (Int32.ofInt 2)) ∧ ∃ x35 : Int32, x35 = y3 + Int32.ofInt 1 ∧ P 8 [x33, x35] [] [] X v X') else (∃ b22 : Nat, X.2.2.1 107 5 = some b22 ∧ (if ((Int32.ofNat (X.2.2.2.1 b22).2)).toInt < (y2).toInt then (∃ b25 : Nat, X.2.2.1 107 5 = some b25 ∧ ∃ (w27 : Nat) (X26 : fx_X), gx_177 b25 y2 X w27 X26 ∧ ∃ X28 : fx_X, X28 = (fx_wR X26 107 5 (some w27)) ∧ ∃ b30 : Nat, b30 = X28.2.2.2.2 ∧ ∃ X31 : fx_X, X31 = (fx_na X28 (y2).toInt.toNat) ∧ ∃ X32 : fx_X, X32 = (fx_wR X31 107 6 (some b30)) ∧ X' = X32) else (X' = X))))) else (∃ b9 : Nat, X.2.2.1 107 5 = some b9 ∧ (if ((Int32.ofNat (X.2.2.2.1 b9).2)).toInt < (y2).toInt then (∃ b12 : Nat, X.2.2.1 107 5 = some b12 ∧ ∃ (w14 : Nat) (X13 : fx_X), gx_177 b12 y2 X w14 X13 ∧ ∃ X15 : fx_X, X15 = (fx_wR X13 107 5 (some w14)) ∧ ∃ b17 : Nat, b17 = X15.2.2.2.2 ∧ ∃ X18 : fx_X, X18 = (fx_na X15 (y2).toInt.toNat) ∧ ∃ X19 : fx_X, X19 = (fx_wR X18 107 6 (some b17)) ∧ X' = X19) else (X' = X))))
def gxE_176 (p1 : Int32) (P : Nat → List Int32 → List Int64 → List Nat → fx_X → Unit → fx_X → Prop) (X : fx_X) (v : Unit) (X' : fx_X) : Prop :=
  ∃ b3 : Nat, X.2.2.1 107 5 = some b3 ∧ ∃ x4 : Int32, x4 = (Int32.ofNat (X.2.2.2.1 b3).2) ∧ P 8 [x4, (Int32.ofInt 0)] [] [] X v X'
noncomputable def gxF_176 (p1 : Int32) (n : Nat) : Nat → List Int32 → List Int64 → List Nat → fx_X → Unit → fx_X → Prop := Nat.rec (motive := fun _ => Nat → List Int32 → List Int64 → List Nat → fx_X → Unit → fx_X → Prop) (fun _ _ _ _ _ _ _ => False) (fun _ P l is ls rs X v X' => (l = 8 ∧ ∃ (y2 : Int32) (y3 : Int32), is = [y2, y3] ∧ ls = [] ∧ rs = [] ∧ gxT_176_8 p1 P y2 y3 X v X')) n
theorem gxI_176_8 {p1 : Int32} {n : Nat} {y2 : Int32} {y3 : Int32} {X : fx_X} {v : Unit} {X' : fx_X} (h : gxT_176_8 p1 (gxF_176 p1 n) y2 y3 X v X') : gxF_176 p1 (n + 1) 8 [y2, y3] [] [] X v X' := ⟨rfl, y2, y3, rfl, rfl, rfl, h⟩
theorem gxO_176_8 {p1 : Int32} {n : Nat} {y2 : Int32} {y3 : Int32} {X : fx_X} {v : Unit} {X' : fx_X} (h : gxF_176 p1 (n + 1) 8 [y2, y3] [] [] X v X') : gxT_176_8 p1 (gxF_176 p1 n) y2 y3 X v X' := by
  rcases h with ⟨-, _, _, e1, e2, e3, h⟩
  · cases e1; cases e2; cases e3; exact h
def gx_176 (p1 : Int32) (X : fx_X) (v : Unit) (X' : fx_X) : Prop := ∃ n : Nat, gxE_176 p1 (gxF_176 p1 n) X v X'
theorem gxL_176 {tb : aj_T} (p1 : Int32) : ∀ N : Nat, (∀ (lv : aj_V) (y2 : Int32) (y3 : Int32) (X : fx_X), aj_lv lv 0 = some (.ref 107) → aj_lv lv 1 = some (.int p1) → aj_lv lv 2 = some (.int y2) → aj_lv lv 3 = some (.int y3) → fx_W tb aj_m176 N 8 lv [] X (fx_Q fx_qN (fun v X' => ∃ n : Nat, gxF_176 p1 n 8 [y2, y3] [] [] X v X'))) := by
  intro N
  induction N with
  | zero => exact (by intros; exact fx_z)
  | succ N ih =>
    skip
    · intro lv y2 y3 X hlv_0 hlv_1 hlv_2 hlv_3
      refine fx_mono (Q := fx_Q fx_qN (fun v X' => ∃ n : Nat, gxT_176_8 p1 (gxF_176 p1 n) y2 y3 X v X')) (fun r X' ⟨v, e, n, z⟩ => ⟨v, e, n + 1, gxI_176_8 z⟩) ?_
      unfold gxT_176_8
      refine fx_i0 aj_d176 rfl (Nat.le_refl _) (fun _ => rfl) hlv_3 ?_
      refine fx_n (pc' := 11) (lv' := lv) (st' := [.int ((Int8.ofInt 16).toInt32), .int y3]) aj_d176 rfl (Nat.le_succ _) (fun _ => rfl) ?_
      refine fx_b (tgt := 29) aj_d176 rfl (Nat.le_succ _) rfl (fun q7 => ?_) (fun q7 => ?_)
      · skip
        refine fx_qe (c := (y3).toInt < 16) (fx_t_ge q7) ?_
        show fx_W _ _ _ 29 lv [] _ _
        refine fx_i0 aj_d176 rfl (Nat.le_succ _) (fun _ => rfl) hlv_2 ?_
        refine fx_i2 aj_d176 rfl (Nat.le_succ _) (fun _ => rfl) hlv_0 ?_
        refine fx_gR aj_d176 rfl (Nat.le_succ _) rfl rfl (Or.inr ⟨_, rfl⟩) (fun _ z => absurd (by decide) z) (fun b9 q8 => ?_)
        show fx_W _ _ _ 34 lv [.ref b9, .int y2] _ _
        refine fx_qs q8 ?_
        refine fx_al aj_d176 rfl (Nat.le_succ _) ?_
        show fx_W _ _ _ 35 lv [.int (Int32.ofNat (X.2.2.2.1 b9).2), .int y2] _ _
        refine fx_b (tgt := 57) aj_d176 rfl (Nat.le_succ _) rfl (fun q10 => ?_) (fun q10 => ?_)
        · skip
          refine fx_qe (c := ((Int32.ofNat (X.2.2.2.1 b9).2)).toInt < (y2).toInt) (fx_t_le q10) ?_
          show fx_W _ _ _ 57 lv [] _ _
          exact fx_rn aj_d176 rfl ⟨(), rfl, 0, rfl⟩
        · skip
          refine fx_qi (c := ((Int32.ofNat (X.2.2.2.1 b9).2)).toInt < (y2).toInt) (fx_f_le q10) ?_
          show fx_W _ _ _ 38 lv [] _ _
          refine fx_i2 aj_d176 rfl (Nat.le_succ _) (fun _ => rfl) hlv_0 ?_
          refine fx_i2 aj_d176 rfl (Nat.le_succ _) (fun _ => rfl) hlv_0 ?_
          refine fx_gR aj_d176 rfl (Nat.le_succ _) rfl rfl (Or.inr ⟨_, rfl⟩) (fun _ z => absurd (by decide) z) (fun b12 q11 => ?_)
          show fx_W _ _ _ 43 lv [.ref b12, .ref 107] _ _
          refine fx_qs q11 ?_
          refine fx_i0 aj_d176 rfl (Nat.le_succ _) (fun _ => rfl) hlv_2 ?_
          refine fx_cs aj_d176 rfl (Nat.le_succ _) rfl rfl [_, _] rfl rfl (gx_177_ok b12 y2) ?_
          rintro _ X13 ⟨w14, rfl, hR13⟩ hok13 hle13
          refine fx_qc hR13 ?_
          show fx_W _ _ _ 47 lv [.ref w14, .ref 107] _ _
          refine fx_pR aj_d176 rfl (Nat.le_succ _) rfl rfl (Or.inr ⟨_, rfl⟩) fx_no_2_5 (o := (some w14)) rfl (fun _ z => by cases z) ?_
          refine fx_qX (fun X15 eX15 => ?_)
          show fx_W _ _ _ 50 lv [] _ _
          refine fx_i2 aj_d176 rfl (Nat.le_succ _) (fun _ => rfl) hlv_0 ?_
          refine fx_i0 aj_d176 rfl (Nat.le_succ _) (fun _ => rfl) hlv_2 ?_
          refine fx_nA aj_d176 rfl (Nat.le_succ _) (fun hn16 => ?_)
          refine fx_qy (fun b17 eb17 => ?_)
          refine fx_qX (fun X18 eX18 => ?_)
          show fx_W _ _ _ 54 lv [.ref b17, .ref 107] _ _
          refine fx_pR aj_d176 rfl (Nat.le_succ _) rfl rfl (Or.inr ⟨_, rfl⟩) fx_no_2_6 (o := (some b17)) rfl (fun _ z => by cases z) ?_
          refine fx_qX (fun X19 eX19 => ?_)
          show fx_W _ _ _ 57 lv [] _ _
          exact fx_rn aj_d176 rfl ⟨(), rfl, 0, rfl⟩
      · skip
        refine fx_qi (c := (y3).toInt < 16) (fx_f_ge q7) ?_
        show fx_W _ _ _ 14 lv [] _ _
        refine fx_i0 aj_d176 rfl (Nat.le_succ _) (fun _ => rfl) hlv_2 ?_
        refine fx_i0 aj_d176 rfl (Nat.le_succ _) (fun _ => rfl) hlv_1 ?_
        refine fx_b (tgt := 29) aj_d176 rfl (Nat.le_succ _) rfl (fun q20 => ?_) (fun q20 => ?_)
        · skip
          refine fx_qe (c := (y2).toInt < (p1).toInt) (fx_t_ge q20) ?_
          show fx_W _ _ _ 29 lv [] _ _
          refine fx_i0 aj_d176 rfl (Nat.le_succ _) (fun _ => rfl) hlv_2 ?_
          refine fx_i2 aj_d176 rfl (Nat.le_succ _) (fun _ => rfl) hlv_0 ?_
          refine fx_gR aj_d176 rfl (Nat.le_succ _) rfl rfl (Or.inr ⟨_, rfl⟩) (fun _ z => absurd (by decide) z) (fun b22 q21 => ?_)
          show fx_W _ _ _ 34 lv [.ref b22, .int y2] _ _
          refine fx_qs q21 ?_
          refine fx_al aj_d176 rfl (Nat.le_succ _) ?_
          show fx_W _ _ _ 35 lv [.int (Int32.ofNat (X.2.2.2.1 b22).2), .int y2] _ _
          refine fx_b (tgt := 57) aj_d176 rfl (Nat.le_succ _) rfl (fun q23 => ?_) (fun q23 => ?_)
          · skip
            refine fx_qe (c := ((Int32.ofNat (X.2.2.2.1 b22).2)).toInt < (y2).toInt) (fx_t_le q23) ?_
            show fx_W _ _ _ 57 lv [] _ _
            exact fx_rn aj_d176 rfl ⟨(), rfl, 0, rfl⟩
          · skip
            refine fx_qi (c := ((Int32.ofNat (X.2.2.2.1 b22).2)).toInt < (y2).toInt) (fx_f_le q23) ?_
            show fx_W _ _ _ 38 lv [] _ _
            refine fx_i2 aj_d176 rfl (Nat.le_succ _) (fun _ => rfl) hlv_0 ?_
            refine fx_i2 aj_d176 rfl (Nat.le_succ _) (fun _ => rfl) hlv_0 ?_
            refine fx_gR aj_d176 rfl (Nat.le_succ _) rfl rfl (Or.inr ⟨_, rfl⟩) (fun _ z => absurd (by decide) z) (fun b25 q24 => ?_)
            show fx_W _ _ _ 43 lv [.ref b25, .ref 107] _ _
            refine fx_qs q24 ?_
            refine fx_i0 aj_d176 rfl (Nat.le_succ _) (fun _ => rfl) hlv_2 ?_
            refine fx_cs aj_d176 rfl (Nat.le_succ _) rfl rfl [_, _] rfl rfl (gx_177_ok b25 y2) ?_
            rintro _ X26 ⟨w27, rfl, hR26⟩ hok26 hle26
            refine fx_qc hR26 ?_
            show fx_W _ _ _ 47 lv [.ref w27, .ref 107] _ _
            refine fx_pR aj_d176 rfl (Nat.le_succ _) rfl rfl (Or.inr ⟨_, rfl⟩) fx_no_2_5 (o := (some w27)) rfl (fun _ z => by cases z) ?_
            refine fx_qX (fun X28 eX28 => ?_)
            show fx_W _ _ _ 50 lv [] _ _
            refine fx_i2 aj_d176 rfl (Nat.le_succ _) (fun _ => rfl) hlv_0 ?_
            refine fx_i0 aj_d176 rfl (Nat.le_succ _) (fun _ => rfl) hlv_2 ?_
            refine fx_nA aj_d176 rfl (Nat.le_succ _) (fun hn29 => ?_)
            refine fx_qy (fun b30 eb30 => ?_)
            refine fx_qX (fun X31 eX31 => ?_)
            show fx_W _ _ _ 54 lv [.ref b30, .ref 107] _ _
            refine fx_pR aj_d176 rfl (Nat.le_succ _) rfl rfl (Or.inr ⟨_, rfl⟩) fx_no_2_6 (o := (some b30)) rfl (fun _ z => by cases z) ?_
            refine fx_qX (fun X32 eX32 => ?_)
            show fx_W _ _ _ 57 lv [] _ _
            exact fx_rn aj_d176 rfl ⟨(), rfl, 0, rfl⟩
        · skip
          refine fx_qi (c := (y2).toInt < (p1).toInt) (fx_f_ge q20) ?_
          show fx_W _ _ _ 19 lv [] _ _
          refine fx_i0 aj_d176 rfl (Nat.le_succ _) (fun _ => rfl) hlv_2 ?_
          refine fx_n (pc' := 21) (lv' := lv) (st' := [.int (Int32.ofInt 2), .int y2]) aj_d176 rfl (Nat.le_succ _) (fun _ => rfl) ?_
          refine fx_n (pc' := 22) (lv' := lv) (st' := [.int (y2 * (Int32.ofInt 2))]) aj_d176 rfl (Nat.le_succ _) (fun _ => rfl) ?_
          refine fx_qxI (fun x33 ex33 => ?_)
          refine fx_s0 (j := 2) aj_d176 rfl (Nat.le_succ _) (by decide) (fun _ => rfl) ?_
          obtain ⟨lv34, elv34⟩ : ∃ l, l = aj_set1 lv 2 (.int x33) := ⟨_, rfl⟩
          rw [← elv34]
          have hlv34_0 : aj_lv lv34 0 = some (.ref 107) := fx_e1 elv34 hlv_0 (by decide) (Or.inl (by decide))
          have hlv34_1 : aj_lv lv34 1 = some (.int p1) := fx_e1 elv34 hlv_1 (by decide) (Or.inr rfl)
          have hlv34_3 : aj_lv lv34 3 = some (.int y3) := fx_e1 elv34 hlv_3 (by decide) (Or.inl (by decide))
          have hlv34_2 : aj_lv lv34 2 = some (.int x33) := by rw [elv34]; exact ak_set1_eq _ _ _
          show fx_W _ _ _ 23 lv34 [] _ _
          refine fx_incq aj_d176 rfl (Nat.le_succ _) hlv34_3 (by decide) (fun x35 ex35 => ?_)
          obtain ⟨lv36, elv36⟩ : ∃ l, l = aj_set1 lv34 3 (.int x35) := ⟨_, rfl⟩
          rw [← elv36]
          have hlv36_0 : aj_lv lv36 0 = some (.ref 107) := fx_e1 elv36 hlv34_0 (by decide) (Or.inl (by decide))
          have hlv36_1 : aj_lv lv36 1 = some (.int p1) := fx_e1 elv36 hlv34_1 (by decide) (Or.inl (by decide))
          have hlv36_2 : aj_lv lv36 2 = some (.int x33) := fx_e1 elv36 hlv34_2 (by decide) (Or.inr rfl)
          have hlv36_3 : aj_lv lv36 3 = some (.int x35) := by rw [elv36]; exact ak_set1_eq _ _ _
          show fx_W _ _ _ 26 lv36 [] _ _
          refine fx_n (pc' := 8) (lv' := lv36) (st' := []) aj_d176 rfl (Nat.le_succ _) (fun _ => rfl) ?_
          exact (ih) lv36 (x33) (x35) X  hlv36_0 hlv36_1 hlv36_2 hlv36_3
theorem gx_176_ok {tb : aj_T} (p1 : Int32) {X : fx_X} : fx_K tb 176 [.ref 107, .int p1] X (fx_Q fx_qN (fun v X' => gx_176 p1 X v X')) := by
  refine fx_m aj_m176_at rfl (fun N => ?_)
  refine fx_mono (Q := fx_Q fx_qN (fun v X' => ∃ n : Nat, gxE_176 p1 (gxF_176 p1 n) X v X')) (fun r X' h => h) ?_
  unfold gxE_176
  show fx_W _ _ _ 0 [(0, .ref 107), (1, .int p1)] [] _ _
  obtain ⟨lv1, elv1⟩ : ∃ l : aj_V, l = [(0, .ref 107), (1, .int p1)] := ⟨_, rfl⟩
  rw [← elv1]
  have hlv1_0 : aj_lv lv1 0 = some (.ref 107) := by rw [elv1]; rfl
  have hlv1_1 : aj_lv lv1 1 = some (.int p1) := by rw [elv1]; rfl
  refine fx_i2 aj_d176 rfl (Nat.le_succ _) (fun _ => rfl) hlv1_0 ?_
  refine fx_gR aj_d176 rfl (Nat.le_succ _) rfl rfl (Or.inr ⟨_, rfl⟩) (fun _ z => absurd (by decide) z) (fun b3 q2 => ?_)
  show fx_W _ _ _ 4 lv1 [.ref b3] _ _
  refine fx_qs q2 ?_
  refine fx_al aj_d176 rfl (Nat.le_succ _) ?_
  show fx_W _ _ _ 5 lv1 [.int (Int32.ofNat (X.2.2.2.1 b3).2)] _ _
  refine fx_qxI (fun x4 ex4 => ?_)
  refine fx_s0 (j := 2) aj_d176 rfl (Nat.le_succ _) (by decide) (fun _ => rfl) ?_
  obtain ⟨lv5, elv5⟩ : ∃ l, l = aj_set1 lv1 2 (.int x4) := ⟨_, rfl⟩
  rw [← elv5]
  have hlv5_0 : aj_lv lv5 0 = some (.ref 107) := fx_e1 elv5 hlv1_0 (by decide) (Or.inl (by decide))
  have hlv5_1 : aj_lv lv5 1 = some (.int p1) := fx_e1 elv5 hlv1_1 (by decide) (Or.inr rfl)
  have hlv5_2 : aj_lv lv5 2 = some (.int x4) := by rw [elv5]; exact ak_set1_eq _ _ _
  show fx_W _ _ _ 6 lv5 [] _ _
  refine fx_n (pc' := 7) (lv' := lv5) (st' := [.int (Int32.ofInt 0)]) aj_d176 rfl (Nat.le_succ _) (fun _ => rfl) ?_
  refine fx_s0 (j := 3) aj_d176 rfl (Nat.le_succ _) (by decide) (fun _ => rfl) ?_
  obtain ⟨lv6, elv6⟩ : ∃ l, l = aj_set1 lv5 3 (.int (Int32.ofInt 0)) := ⟨_, rfl⟩
  rw [← elv6]
  have hlv6_0 : aj_lv lv6 0 = some (.ref 107) := fx_e1 elv6 hlv5_0 (by decide) (Or.inl (by decide))
  have hlv6_1 : aj_lv lv6 1 = some (.int p1) := fx_e1 elv6 hlv5_1 (by decide) (Or.inl (by decide))
  have hlv6_2 : aj_lv lv6 2 = some (.int x4) := fx_e1 elv6 hlv5_2 (by decide) (Or.inr rfl)
  have hlv6_3 : aj_lv lv6 3 = some (.int (Int32.ofInt 0)) := by rw [elv6]; exact ak_set1_eq _ _ _
  show fx_W _ _ _ 8 lv6 [] _ _
  exact ((gxL_176 p1 N)) lv6 (x4) ((Int32.ofInt 0)) X  hlv6_0 hlv6_1 hlv6_2 hlv6_3
def gxT_175_23 (p1 : Nat) (p2 : Nat) (P : Nat → List Int32 → List Int64 → List Nat → fx_X → Unit → fx_X → Prop) (y3 : Int32) (X : fx_X) (v : Unit) (X' : fx_X) : Prop :=
  (if (y3).toInt < ((X.1 p1 14)).toInt then (∃ (w9 : Int32) (X8 : fx_X), gx_158 p1 y3 X w9 X8 ∧ ∃ (w13 : Int32) (X12 : fx_X), gx_129 p2 p1 w9 112 X8 w13 X12 ∧ ∃ X15 : fx_X, X15 = (fx_wI X12 107 1 (if w13 < (X12.1 107 1) then w13 else (X12.1 107 1))) ∧ ∃ X16 : fx_X, X16 = (fx_wI X15 107 2 (if (X15.1 107 2) < w13 then w13 else (X15.1 107 2))) ∧ ∃ (w18 : Unit) (X17 : fx_X), gx_176 ((X16.1 107 3) + w13) X16 w18 X17 ∧ P 91 [y3, w9, w13, (Int32.ofInt 0)] [] [] X17 v X') else (X' = X))
def gxT_175_91 (p1 : Nat) (p2 : Nat) (P : Nat → List Int32 → List Int64 → List Nat → fx_X → Unit → fx_X → Prop) (y3 : Int32) (y4 : Int32) (y5 : Int32) (y6 : Int32) (X : fx_X) (v : Unit) (X' : fx_X) : Prop :=
  (if (y6).toInt < (y5).toInt then ((if (y6).toInt < 30 then (∃ b44 : Nat, X.2.2.1 107 5 = some b44 ∧ (0 ≤ (y6).toInt ∧ (y6).toInt < ((30 : Nat) : Int)) ∧ ∃ (w48 : Unit) (X47 : fx_X), gx_178 b44 (X.1 107 3) (((Int32.ofInt 32768) ||| ((X.1 112 (y6).toInt.toNat) <<< (((Int8.ofInt 10).toInt32) &&& 31))) ||| y4) X w48 X47 ∧ ∃ X49 : fx_X, X49 = (fx_wI X47 107 3 ((X47.1 107 3) + (Int32.ofInt 1))) ∧ ∃ x50 : Int32, x50 = y6 + Int32.ofInt 1 ∧ P 91 [y3, y4, y5, x50] [] [] X49 v X') else ((if ((X.1 107 8)).toInt < 1024 then ((0 ≤ ((X.1 107 8)).toInt ∧ ((X.1 107 8)).toInt < ((1024 : Nat) : Int)) ∧ ∃ X39 : fx_X, X39 = (fx_wI X 110 ((X.1 107 8)).toInt.toNat (X.1 107 3)) ∧ ∃ X40 : fx_X, X40 = (fx_wI X39 107 8 ((X39.1 107 8) + (Int32.ofInt 1))) ∧ ∃ x41 : Int32, x41 = y3 + Int32.ofInt 1 ∧ P 23 [x41] [] [] X40 v X') else (∃ x35 : Int32, x35 = y3 + Int32.ofInt 1 ∧ P 23 [x35] [] [] X v X'))))) else ((if ((X.1 107 8)).toInt < 1024 then ((0 ≤ ((X.1 107 8)).toInt ∧ ((X.1 107 8)).toInt < ((1024 : Nat) : Int)) ∧ ∃ X27 : fx_X, X27 = (fx_wI X 110 ((X.1 107 8)).toInt.toNat (X.1 107 3)) ∧ ∃ X28 : fx_X, X28 = (fx_wI X27 107 8 ((X27.1 107 8) + (Int32.ofInt 1))) ∧ ∃ x29 : Int32, x29 = y3 + Int32.ofInt 1 ∧ P 23 [x29] [] [] X28 v X') else (∃ x23 : Int32, x23 = y3 + Int32.ofInt 1 ∧ P 23 [x23] [] [] X v X'))))
def gxE_175 (p1 : Nat) (p2 : Nat) (P : Nat → List Int32 → List Int64 → List Nat → fx_X → Unit → fx_X → Prop) (X : fx_X) (v : Unit) (X' : fx_X) : Prop :=
  ∃ X2 : fx_X, X2 = (fx_wI X 107 3 (Int32.ofInt 0)) ∧ ∃ X3 : fx_X, X3 = (fx_wI X2 107 8 (Int32.ofInt 0)) ∧ ∃ X4 : fx_X, X4 = (fx_wI X3 107 1 ((Int8.ofInt 30).toInt32)) ∧ ∃ X5 : fx_X, X5 = (fx_wI X4 107 2 (Int32.ofInt 0)) ∧ P 23 [(Int32.ofInt 0)] [] [] X5 v X'
noncomputable def gxF_175 (p1 : Nat) (p2 : Nat) (n : Nat) : Nat → List Int32 → List Int64 → List Nat → fx_X → Unit → fx_X → Prop := Nat.rec (motive := fun _ => Nat → List Int32 → List Int64 → List Nat → fx_X → Unit → fx_X → Prop) (fun _ _ _ _ _ _ _ => False) (fun _ P l is ls rs X v X' => (l = 23 ∧ ∃ (y3 : Int32), is = [y3] ∧ ls = [] ∧ rs = [] ∧ gxT_175_23 p1 p2 P y3 X v X') ∨ (l = 91 ∧ ∃ (y3 : Int32) (y4 : Int32) (y5 : Int32) (y6 : Int32), is = [y3, y4, y5, y6] ∧ ls = [] ∧ rs = [] ∧ gxT_175_91 p1 p2 P y3 y4 y5 y6 X v X')) n
theorem gxI_175_23 {p1 : Nat} {p2 : Nat} {n : Nat} {y3 : Int32} {X : fx_X} {v : Unit} {X' : fx_X} (h : gxT_175_23 p1 p2 (gxF_175 p1 p2 n) y3 X v X') : gxF_175 p1 p2 (n + 1) 23 [y3] [] [] X v X' := Or.inl ⟨rfl, y3, rfl, rfl, rfl, h⟩
theorem gxO_175_23 {p1 : Nat} {p2 : Nat} {n : Nat} {y3 : Int32} {X : fx_X} {v : Unit} {X' : fx_X} (h : gxF_175 p1 p2 (n + 1) 23 [y3] [] [] X v X') : gxT_175_23 p1 p2 (gxF_175 p1 p2 n) y3 X v X' := by
  rcases h with ⟨-, _, e1, e2, e3, h⟩ | ⟨e, -⟩
  · cases e1; cases e2; cases e3; exact h
  · exact absurd e (by decide)
theorem gxI_175_91 {p1 : Nat} {p2 : Nat} {n : Nat} {y3 : Int32} {y4 : Int32} {y5 : Int32} {y6 : Int32} {X : fx_X} {v : Unit} {X' : fx_X} (h : gxT_175_91 p1 p2 (gxF_175 p1 p2 n) y3 y4 y5 y6 X v X') : gxF_175 p1 p2 (n + 1) 91 [y3, y4, y5, y6] [] [] X v X' := Or.inr (⟨rfl, y3, y4, y5, y6, rfl, rfl, rfl, h⟩)
theorem gxO_175_91 {p1 : Nat} {p2 : Nat} {n : Nat} {y3 : Int32} {y4 : Int32} {y5 : Int32} {y6 : Int32} {X : fx_X} {v : Unit} {X' : fx_X} (h : gxF_175 p1 p2 (n + 1) 91 [y3, y4, y5, y6] [] [] X v X') : gxT_175_91 p1 p2 (gxF_175 p1 p2 n) y3 y4 y5 y6 X v X' := by
  rcases h with ⟨e, -⟩ | ⟨-, _, _, _, _, e1, e2, e3, h⟩
  · exact absurd e (by decide)
  · cases e1; cases e2; cases e3; exact h
def gx_175 (p1 : Nat) (p2 : Nat) (X : fx_X) (v : Unit) (X' : fx_X) : Prop := ∃ n : Nat, gxE_175 p1 p2 (gxF_175 p1 p2 n) X v X'
theorem gxL_175 {tb : aj_T} (p1 : Nat) (p2 : Nat) : ∀ N : Nat, (∀ (lv : aj_V) (y3 : Int32) (X : fx_X), aj_lv lv 0 = some (.ref 107) → aj_lv lv 1 = some (.ref p1) → aj_lv lv 2 = some (.ref p2) → aj_lv lv 3 = some (.int y3) → fx_W tb aj_m175 N 23 lv [] X (fx_Q fx_qN (fun v X' => ∃ n : Nat, gxF_175 p1 p2 n 23 [y3] [] [] X v X'))) ∧ (∀ (lv : aj_V) (y3 : Int32) (y4 : Int32) (y5 : Int32) (y6 : Int32) (X : fx_X), aj_lv lv 0 = some (.ref 107) → aj_lv lv 1 = some (.ref p1) → aj_lv lv 2 = some (.ref p2) → aj_lv lv 3 = some (.int y3) → aj_lv lv 4 = some (.int y4) → aj_lv lv 5 = some (.int y5) → aj_lv lv 6 = some (.int y6) → fx_W tb aj_m175 N 91 lv [] X (fx_Q fx_qN (fun v X' => ∃ n : Nat, gxF_175 p1 p2 n 91 [y3, y4, y5, y6] [] [] X v X'))) := by
  intro N
  induction N with
  | zero => exact ⟨(by intros; exact fx_z), (by intros; exact fx_z)⟩
  | succ N ih =>
    refine ⟨?_, ?_⟩
    · intro lv y3 X hlv_0 hlv_1 hlv_2 hlv_3
      refine fx_mono (Q := fx_Q fx_qN (fun v X' => ∃ n : Nat, gxT_175_23 p1 p2 (gxF_175 p1 p2 n) y3 X v X')) (fun r X' ⟨v, e, n, z⟩ => ⟨v, e, n + 1, gxI_175_23 z⟩) ?_
      unfold gxT_175_23
      refine fx_i0 aj_d175 rfl (Nat.le_refl _) (fun _ => rfl) hlv_3 ?_
      refine fx_i2 aj_d175 rfl (Nat.le_succ _) (fun _ => rfl) hlv_1 ?_
      refine fx_gI aj_d175 rfl (Nat.le_succ _) rfl rfl (Or.inl rfl) ?_
      refine fx_b (tgt := 192) aj_d175 rfl (Nat.le_succ _) rfl (fun q7 => ?_) (fun q7 => ?_)
      · skip
        refine fx_qe (c := (y3).toInt < ((X.1 p1 14)).toInt) (fx_t_ge q7) ?_
        show fx_W _ _ _ 192 lv [] _ _
        exact fx_rn aj_d175 rfl ⟨(), rfl, 0, rfl⟩
      · skip
        refine fx_qi (c := (y3).toInt < ((X.1 p1 14)).toInt) (fx_f_ge q7) ?_
        show fx_W _ _ _ 31 lv [] _ _
        refine fx_i2 aj_d175 rfl (Nat.le_succ _) (fun _ => rfl) hlv_1 ?_
        refine fx_i0 aj_d175 rfl (Nat.le_succ _) (fun _ => rfl) hlv_3 ?_
        refine fx_cv aj_d175 rfl (Nat.le_succ _) rfl [_] rfl rfl (gx_158_ok p1 y3) ?_
        rintro _ X8 ⟨w9, rfl, hR8⟩ hok8 hle8
        refine fx_qc hR8 ?_
        show fx_W _ _ _ 36 lv [.int w9] _ _
        refine fx_s0 (j := 4) aj_d175 rfl (Nat.le_succ _) (by decide) (fun _ => rfl) ?_
        obtain ⟨lv10, elv10⟩ : ∃ l, l = aj_set1 lv 4 (.int w9) := ⟨_, rfl⟩
        rw [← elv10]
        have hlv10_0 : aj_lv lv10 0 = some (.ref 107) := fx_e1 elv10 hlv_0 (by decide) (Or.inl (by decide))
        have hlv10_1 : aj_lv lv10 1 = some (.ref p1) := fx_e1 elv10 hlv_1 (by decide) (Or.inl (by decide))
        have hlv10_2 : aj_lv lv10 2 = some (.ref p2) := fx_e1 elv10 hlv_2 (by decide) (Or.inl (by decide))
        have hlv10_3 : aj_lv lv10 3 = some (.int y3) := fx_e1 elv10 hlv_3 (by decide) (Or.inr rfl)
        have hlv10_4 : aj_lv lv10 4 = some (.int w9) := by rw [elv10]; exact ak_set1_eq _ _ _
        show fx_W _ _ _ 38 lv10 [] _ _
        refine fx_i2 aj_d175 rfl (Nat.le_succ _) (fun _ => rfl) hlv10_2 ?_
        refine fx_i2 aj_d175 rfl (Nat.le_succ _) (fun _ => rfl) hlv10_1 ?_
        refine fx_i0 aj_d175 rfl (Nat.le_succ _) (fun _ => rfl) hlv10_4 ?_
        refine fx_i2 aj_d175 rfl (Nat.le_succ _) (fun _ => rfl) hlv10_0 ?_
        refine fx_gF aj_d175 rfl (Nat.le_succ _) rfl rfl fx_in_2_10 (t := 112) rfl (fun hA11 => ?_)
        refine fx_cv aj_d175 rfl (Nat.le_succ _) rfl [_, _, _] rfl rfl (gx_129_ok p2 p1 w9 112 hA11) ?_
        rintro _ X12 ⟨w13, rfl, hR12⟩ hok12 hle12
        refine fx_qc hR12 ?_
        show fx_W _ _ _ 49 lv10 [.int w13] _ _
        refine fx_s0 (j := 5) aj_d175 rfl (Nat.le_succ _) (by decide) (fun _ => rfl) ?_
        obtain ⟨lv14, elv14⟩ : ∃ l, l = aj_set1 lv10 5 (.int w13) := ⟨_, rfl⟩
        rw [← elv14]
        have hlv14_0 : aj_lv lv14 0 = some (.ref 107) := fx_e1 elv14 hlv10_0 (by decide) (Or.inl (by decide))
        have hlv14_1 : aj_lv lv14 1 = some (.ref p1) := fx_e1 elv14 hlv10_1 (by decide) (Or.inl (by decide))
        have hlv14_2 : aj_lv lv14 2 = some (.ref p2) := fx_e1 elv14 hlv10_2 (by decide) (Or.inl (by decide))
        have hlv14_3 : aj_lv lv14 3 = some (.int y3) := fx_e1 elv14 hlv10_3 (by decide) (Or.inl (by decide))
        have hlv14_4 : aj_lv lv14 4 = some (.int w9) := fx_e1 elv14 hlv10_4 (by decide) (Or.inr rfl)
        have hlv14_5 : aj_lv lv14 5 = some (.int w13) := by rw [elv14]; exact ak_set1_eq _ _ _
        show fx_W _ _ _ 51 lv14 [] _ _
        refine fx_i2 aj_d175 rfl (Nat.le_succ _) (fun _ => rfl) hlv14_0 ?_
        refine fx_i2 aj_d175 rfl (Nat.le_succ _) (fun _ => rfl) hlv14_0 ?_
        refine fx_gI aj_d175 rfl (Nat.le_succ _) rfl rfl (Or.inl rfl) ?_
        refine fx_i0 aj_d175 rfl (Nat.le_succ _) (fun _ => rfl) hlv14_5 ?_
        refine fx_mn aj_d175 rfl (Nat.le_succ _) rfl ?_
        show fx_W _ _ _ 61 lv14 [.int (if w13 < (X12.1 107 1) then w13 else (X12.1 107 1)), .ref 107] _ _
        refine fx_pI aj_d175 rfl (Nat.le_succ _) rfl rfl (Or.inl rfl) fx_no_2_1 (by decide) ?_
        refine fx_qX (fun X15 eX15 => ?_)
        show fx_W _ _ _ 64 lv14 [] _ _
        refine fx_i2 aj_d175 rfl (Nat.le_succ _) (fun _ => rfl) hlv14_0 ?_
        refine fx_i2 aj_d175 rfl (Nat.le_succ _) (fun _ => rfl) hlv14_0 ?_
        refine fx_gI aj_d175 rfl (Nat.le_succ _) rfl rfl (Or.inl rfl) ?_
        refine fx_i0 aj_d175 rfl (Nat.le_succ _) (fun _ => rfl) hlv14_5 ?_
        refine fx_mx aj_d175 rfl (Nat.le_succ _) rfl ?_
        show fx_W _ _ _ 74 lv14 [.int (if (X15.1 107 2) < w13 then w13 else (X15.1 107 2)), .ref 107] _ _
        refine fx_pI aj_d175 rfl (Nat.le_succ _) rfl rfl (Or.inl rfl) fx_no_2_2 (by decide) ?_
        refine fx_qX (fun X16 eX16 => ?_)
        show fx_W _ _ _ 77 lv14 [] _ _
        refine fx_i2 aj_d175 rfl (Nat.le_succ _) (fun _ => rfl) hlv14_0 ?_
        refine fx_i2 aj_d175 rfl (Nat.le_succ _) (fun _ => rfl) hlv14_0 ?_
        refine fx_gI aj_d175 rfl (Nat.le_succ _) rfl rfl (Or.inl rfl) ?_
        refine fx_i0 aj_d175 rfl (Nat.le_succ _) (fun _ => rfl) hlv14_5 ?_
        refine fx_n (pc' := 85) (lv' := lv14) (st' := [.int ((X16.1 107 3) + w13), .ref 107]) aj_d175 rfl (Nat.le_succ _) (fun _ => rfl) ?_
        refine fx_cv aj_d175 rfl (Nat.le_succ _) rfl [_] rfl rfl (gx_176_ok ((X16.1 107 3) + w13)) ?_
        rintro _ X17 ⟨w18, rfl, hR17⟩ hok17 hle17
        refine fx_qc hR17 ?_
        show fx_W _ _ _ 88 lv14 [] _ _
        refine fx_n (pc' := 89) (lv' := lv14) (st' := [.int (Int32.ofInt 0)]) aj_d175 rfl (Nat.le_succ _) (fun _ => rfl) ?_
        refine fx_s0 (j := 6) aj_d175 rfl (Nat.le_succ _) (by decide) (fun _ => rfl) ?_
        obtain ⟨lv19, elv19⟩ : ∃ l, l = aj_set1 lv14 6 (.int (Int32.ofInt 0)) := ⟨_, rfl⟩
        rw [← elv19]
        have hlv19_0 : aj_lv lv19 0 = some (.ref 107) := fx_e1 elv19 hlv14_0 (by decide) (Or.inl (by decide))
        have hlv19_1 : aj_lv lv19 1 = some (.ref p1) := fx_e1 elv19 hlv14_1 (by decide) (Or.inl (by decide))
        have hlv19_2 : aj_lv lv19 2 = some (.ref p2) := fx_e1 elv19 hlv14_2 (by decide) (Or.inl (by decide))
        have hlv19_3 : aj_lv lv19 3 = some (.int y3) := fx_e1 elv19 hlv14_3 (by decide) (Or.inl (by decide))
        have hlv19_4 : aj_lv lv19 4 = some (.int w9) := fx_e1 elv19 hlv14_4 (by decide) (Or.inl (by decide))
        have hlv19_5 : aj_lv lv19 5 = some (.int w13) := fx_e1 elv19 hlv14_5 (by decide) (Or.inr rfl)
        have hlv19_6 : aj_lv lv19 6 = some (.int (Int32.ofInt 0)) := by rw [elv19]; exact ak_set1_eq _ _ _
        show fx_W _ _ _ 91 lv19 [] _ _
        exact (ih.2) lv19 (y3) (w9) (w13) ((Int32.ofInt 0)) X17  hlv19_0 hlv19_1 hlv19_2 hlv19_3 hlv19_4 hlv19_5 hlv19_6
    · intro lv y3 y4 y5 y6 X hlv_0 hlv_1 hlv_2 hlv_3 hlv_4 hlv_5 hlv_6
      refine fx_mono (Q := fx_Q fx_qN (fun v X' => ∃ n : Nat, gxT_175_91 p1 p2 (gxF_175 p1 p2 n) y3 y4 y5 y6 X v X')) (fun r X' ⟨v, e, n, z⟩ => ⟨v, e, n + 1, gxI_175_91 z⟩) ?_
      unfold gxT_175_91
      refine fx_i0 aj_d175 rfl (Nat.le_refl _) (fun _ => rfl) hlv_6 ?_
      refine fx_i0 aj_d175 rfl (Nat.le_succ _) (fun _ => rfl) hlv_5 ?_
      refine fx_b (tgt := 151) aj_d175 rfl (Nat.le_succ _) rfl (fun q20 => ?_) (fun q20 => ?_)
      · skip
        refine fx_qe (c := (y6).toInt < (y5).toInt) (fx_t_ge q20) ?_
        show fx_W _ _ _ 151 lv [] _ _
        refine fx_i2 aj_d175 rfl (Nat.le_succ _) (fun _ => rfl) hlv_0 ?_
        refine fx_gI aj_d175 rfl (Nat.le_succ _) rfl rfl (Or.inl rfl) ?_
        refine fx_i2 aj_d175 rfl (Nat.le_succ _) (fun _ => rfl) hlv_0 ?_
        refine fx_gF aj_d175 rfl (Nat.le_succ _) rfl rfl fx_in_2_7 (t := 110) rfl (fun hA21 => ?_)
        refine fx_al aj_d175 rfl (Nat.le_succ _) ?_
        rw [(hA21 : X.2.2.2.1 110 = (0, 1024))]
        show fx_W _ _ _ 160 lv [.int (Int32.ofNat 1024), .int (X.1 107 8)] _ _
        refine fx_b (tgt := 186) aj_d175 rfl (Nat.le_succ _) rfl (fun q22 => ?_) (fun q22 => ?_)
        · skip
          refine fx_qe (c := ((X.1 107 8)).toInt < 1024) (fx_t_ge q22) ?_
          show fx_W _ _ _ 186 lv [] _ _
          refine fx_incq aj_d175 rfl (Nat.le_succ _) hlv_3 (by decide) (fun x23 ex23 => ?_)
          obtain ⟨lv24, elv24⟩ : ∃ l, l = aj_set1 lv 3 (.int x23) := ⟨_, rfl⟩
          rw [← elv24]
          have hlv24_0 : aj_lv lv24 0 = some (.ref 107) := fx_e1 elv24 hlv_0 (by decide) (Or.inl (by decide))
          have hlv24_1 : aj_lv lv24 1 = some (.ref p1) := fx_e1 elv24 hlv_1 (by decide) (Or.inl (by decide))
          have hlv24_2 : aj_lv lv24 2 = some (.ref p2) := fx_e1 elv24 hlv_2 (by decide) (Or.inr rfl)
          have hlv24_3 : aj_lv lv24 3 = some (.int x23) := by rw [elv24]; exact ak_set1_eq _ _ _
          show fx_W _ _ _ 189 lv24 [] _ _
          refine fx_n (pc' := 23) (lv' := lv24) (st' := []) aj_d175 rfl (Nat.le_succ _) (fun _ => rfl) ?_
          exact (ih.1) lv24 (x23) X  hlv24_0 hlv24_1 hlv24_2 hlv24_3
        · skip
          refine fx_qi (c := ((X.1 107 8)).toInt < 1024) (fx_f_ge q22) ?_
          show fx_W _ _ _ 163 lv [] _ _
          refine fx_i2 aj_d175 rfl (Nat.le_succ _) (fun _ => rfl) hlv_0 ?_
          refine fx_gF aj_d175 rfl (Nat.le_succ _) rfl rfl fx_in_2_7 (t := 110) rfl (fun hA25 => ?_)
          refine fx_i2 aj_d175 rfl (Nat.le_succ _) (fun _ => rfl) hlv_0 ?_
          refine fx_gI aj_d175 rfl (Nat.le_succ _) rfl rfl (Or.inl rfl) ?_
          refine fx_i2 aj_d175 rfl (Nat.le_succ _) (fun _ => rfl) hlv_0 ?_
          refine fx_gI aj_d175 rfl (Nat.le_succ _) rfl rfl (Or.inl rfl) ?_
          refine fx_st aj_d175 (Or.inl ⟨rfl, rfl⟩) rfl (Nat.le_succ _) (fun g260 g261 => ?_)
          show fx_W _ _ _ _ _ _ (fx_wI X 110 ((X.1 107 8)).toInt.toNat (X.1 107 3)) _
          refine fx_qa (c := 0 ≤ ((X.1 107 8)).toInt ∧ ((X.1 107 8)).toInt < ((1024 : Nat) : Int)) ⟨g260, fx_lnk g261 hA25⟩ ?_
          refine fx_qX (fun X27 eX27 => ?_)
          show fx_W _ _ _ 176 lv [] _ _
          refine fx_i2 aj_d175 rfl (Nat.le_succ _) (fun _ => rfl) hlv_0 ?_
          refine fx_n (pc' := 178) (lv' := lv) (st' := [.ref 107, .ref 107]) aj_d175 rfl (Nat.le_succ _) (fun _ => rfl) ?_
          refine fx_gI aj_d175 rfl (Nat.le_succ _) rfl rfl (Or.inl rfl) ?_
          refine fx_n (pc' := 182) (lv' := lv) (st' := [.int (Int32.ofInt 1), .int (X27.1 107 8), .ref 107]) aj_d175 rfl (Nat.le_succ _) (fun _ => rfl) ?_
          refine fx_n (pc' := 183) (lv' := lv) (st' := [.int ((X27.1 107 8) + (Int32.ofInt 1)), .ref 107]) aj_d175 rfl (Nat.le_succ _) (fun _ => rfl) ?_
          refine fx_pI aj_d175 rfl (Nat.le_succ _) rfl rfl (Or.inl rfl) fx_no_2_8 (by decide) ?_
          refine fx_qX (fun X28 eX28 => ?_)
          show fx_W _ _ _ 186 lv [] _ _
          refine fx_incq aj_d175 rfl (Nat.le_succ _) hlv_3 (by decide) (fun x29 ex29 => ?_)
          obtain ⟨lv30, elv30⟩ : ∃ l, l = aj_set1 lv 3 (.int x29) := ⟨_, rfl⟩
          rw [← elv30]
          have hlv30_0 : aj_lv lv30 0 = some (.ref 107) := fx_e1 elv30 hlv_0 (by decide) (Or.inl (by decide))
          have hlv30_1 : aj_lv lv30 1 = some (.ref p1) := fx_e1 elv30 hlv_1 (by decide) (Or.inl (by decide))
          have hlv30_2 : aj_lv lv30 2 = some (.ref p2) := fx_e1 elv30 hlv_2 (by decide) (Or.inr rfl)
          have hlv30_3 : aj_lv lv30 3 = some (.int x29) := by rw [elv30]; exact ak_set1_eq _ _ _
          show fx_W _ _ _ 189 lv30 [] _ _
          refine fx_n (pc' := 23) (lv' := lv30) (st' := []) aj_d175 rfl (Nat.le_succ _) (fun _ => rfl) ?_
          exact (ih.1) lv30 (x29) X28  hlv30_0 hlv30_1 hlv30_2 hlv30_3
      · skip
        refine fx_qi (c := (y6).toInt < (y5).toInt) (fx_f_ge q20) ?_
        show fx_W _ _ _ 98 lv [] _ _
        refine fx_i0 aj_d175 rfl (Nat.le_succ _) (fun _ => rfl) hlv_6 ?_
        refine fx_i2 aj_d175 rfl (Nat.le_succ _) (fun _ => rfl) hlv_0 ?_
        refine fx_gF aj_d175 rfl (Nat.le_succ _) rfl rfl fx_in_2_10 (t := 112) rfl (fun hA31 => ?_)
        refine fx_al aj_d175 rfl (Nat.le_succ _) ?_
        rw [(hA31 : X.2.2.2.1 112 = (0, 30))]
        show fx_W _ _ _ 105 lv [.int (Int32.ofNat 30), .int y6] _ _
        refine fx_b (tgt := 151) aj_d175 rfl (Nat.le_succ _) rfl (fun q32 => ?_) (fun q32 => ?_)
        · skip
          refine fx_qe (c := (y6).toInt < 30) (fx_t_ge q32) ?_
          show fx_W _ _ _ 151 lv [] _ _
          refine fx_i2 aj_d175 rfl (Nat.le_succ _) (fun _ => rfl) hlv_0 ?_
          refine fx_gI aj_d175 rfl (Nat.le_succ _) rfl rfl (Or.inl rfl) ?_
          refine fx_i2 aj_d175 rfl (Nat.le_succ _) (fun _ => rfl) hlv_0 ?_
          refine fx_gF aj_d175 rfl (Nat.le_succ _) rfl rfl fx_in_2_7 (t := 110) rfl (fun hA33 => ?_)
          refine fx_al aj_d175 rfl (Nat.le_succ _) ?_
          rw [(hA33 : X.2.2.2.1 110 = (0, 1024))]
          show fx_W _ _ _ 160 lv [.int (Int32.ofNat 1024), .int (X.1 107 8)] _ _
          refine fx_b (tgt := 186) aj_d175 rfl (Nat.le_succ _) rfl (fun q34 => ?_) (fun q34 => ?_)
          · skip
            refine fx_qe (c := ((X.1 107 8)).toInt < 1024) (fx_t_ge q34) ?_
            show fx_W _ _ _ 186 lv [] _ _
            refine fx_incq aj_d175 rfl (Nat.le_succ _) hlv_3 (by decide) (fun x35 ex35 => ?_)
            obtain ⟨lv36, elv36⟩ : ∃ l, l = aj_set1 lv 3 (.int x35) := ⟨_, rfl⟩
            rw [← elv36]
            have hlv36_0 : aj_lv lv36 0 = some (.ref 107) := fx_e1 elv36 hlv_0 (by decide) (Or.inl (by decide))
            have hlv36_1 : aj_lv lv36 1 = some (.ref p1) := fx_e1 elv36 hlv_1 (by decide) (Or.inl (by decide))
            have hlv36_2 : aj_lv lv36 2 = some (.ref p2) := fx_e1 elv36 hlv_2 (by decide) (Or.inr rfl)
            have hlv36_3 : aj_lv lv36 3 = some (.int x35) := by rw [elv36]; exact ak_set1_eq _ _ _
            show fx_W _ _ _ 189 lv36 [] _ _
            refine fx_n (pc' := 23) (lv' := lv36) (st' := []) aj_d175 rfl (Nat.le_succ _) (fun _ => rfl) ?_
            exact (ih.1) lv36 (x35) X  hlv36_0 hlv36_1 hlv36_2 hlv36_3
          · skip
            refine fx_qi (c := ((X.1 107 8)).toInt < 1024) (fx_f_ge q34) ?_
            show fx_W _ _ _ 163 lv [] _ _
            refine fx_i2 aj_d175 rfl (Nat.le_succ _) (fun _ => rfl) hlv_0 ?_
            refine fx_gF aj_d175 rfl (Nat.le_succ _) rfl rfl fx_in_2_7 (t := 110) rfl (fun hA37 => ?_)
            refine fx_i2 aj_d175 rfl (Nat.le_succ _) (fun _ => rfl) hlv_0 ?_
            refine fx_gI aj_d175 rfl (Nat.le_succ _) rfl rfl (Or.inl rfl) ?_
            refine fx_i2 aj_d175 rfl (Nat.le_succ _) (fun _ => rfl) hlv_0 ?_
            refine fx_gI aj_d175 rfl (Nat.le_succ _) rfl rfl (Or.inl rfl) ?_
            refine fx_st aj_d175 (Or.inl ⟨rfl, rfl⟩) rfl (Nat.le_succ _) (fun g380 g381 => ?_)
            show fx_W _ _ _ _ _ _ (fx_wI X 110 ((X.1 107 8)).toInt.toNat (X.1 107 3)) _
            refine fx_qa (c := 0 ≤ ((X.1 107 8)).toInt ∧ ((X.1 107 8)).toInt < ((1024 : Nat) : Int)) ⟨g380, fx_lnk g381 hA37⟩ ?_
            refine fx_qX (fun X39 eX39 => ?_)
            show fx_W _ _ _ 176 lv [] _ _
            refine fx_i2 aj_d175 rfl (Nat.le_succ _) (fun _ => rfl) hlv_0 ?_
            refine fx_n (pc' := 178) (lv' := lv) (st' := [.ref 107, .ref 107]) aj_d175 rfl (Nat.le_succ _) (fun _ => rfl) ?_
            refine fx_gI aj_d175 rfl (Nat.le_succ _) rfl rfl (Or.inl rfl) ?_
            refine fx_n (pc' := 182) (lv' := lv) (st' := [.int (Int32.ofInt 1), .int (X39.1 107 8), .ref 107]) aj_d175 rfl (Nat.le_succ _) (fun _ => rfl) ?_
            refine fx_n (pc' := 183) (lv' := lv) (st' := [.int ((X39.1 107 8) + (Int32.ofInt 1)), .ref 107]) aj_d175 rfl (Nat.le_succ _) (fun _ => rfl) ?_
            refine fx_pI aj_d175 rfl (Nat.le_succ _) rfl rfl (Or.inl rfl) fx_no_2_8 (by decide) ?_
            refine fx_qX (fun X40 eX40 => ?_)
            show fx_W _ _ _ 186 lv [] _ _
            refine fx_incq aj_d175 rfl (Nat.le_succ _) hlv_3 (by decide) (fun x41 ex41 => ?_)
            obtain ⟨lv42, elv42⟩ : ∃ l, l = aj_set1 lv 3 (.int x41) := ⟨_, rfl⟩
            rw [← elv42]
            have hlv42_0 : aj_lv lv42 0 = some (.ref 107) := fx_e1 elv42 hlv_0 (by decide) (Or.inl (by decide))
            have hlv42_1 : aj_lv lv42 1 = some (.ref p1) := fx_e1 elv42 hlv_1 (by decide) (Or.inl (by decide))
            have hlv42_2 : aj_lv lv42 2 = some (.ref p2) := fx_e1 elv42 hlv_2 (by decide) (Or.inr rfl)
            have hlv42_3 : aj_lv lv42 3 = some (.int x41) := by rw [elv42]; exact ak_set1_eq _ _ _
            show fx_W _ _ _ 189 lv42 [] _ _
            refine fx_n (pc' := 23) (lv' := lv42) (st' := []) aj_d175 rfl (Nat.le_succ _) (fun _ => rfl) ?_
            exact (ih.1) lv42 (x41) X40  hlv42_0 hlv42_1 hlv42_2 hlv42_3
        · skip
          refine fx_qi (c := (y6).toInt < 30) (fx_f_ge q32) ?_
          show fx_W _ _ _ 108 lv [] _ _
          refine fx_i2 aj_d175 rfl (Nat.le_succ _) (fun _ => rfl) hlv_0 ?_
          refine fx_gR aj_d175 rfl (Nat.le_succ _) rfl rfl (Or.inr ⟨_, rfl⟩) (fun _ z => absurd (by decide) z) (fun b44 q43 => ?_)
          show fx_W _ _ _ 112 lv [.ref b44] _ _
          refine fx_qs q43 ?_
          refine fx_i2 aj_d175 rfl (Nat.le_succ _) (fun _ => rfl) hlv_0 ?_
          refine fx_gI aj_d175 rfl (Nat.le_succ _) rfl rfl (Or.inl rfl) ?_
          refine fx_n (pc' := 118) (lv' := lv) (st' := [.int (Int32.ofInt 32768), .int (X.1 107 3), .ref b44]) aj_d175 rfl (Nat.le_succ _) (fun _ => rfl) ?_
          refine fx_i2 aj_d175 rfl (Nat.le_succ _) (fun _ => rfl) hlv_0 ?_
          refine fx_gF aj_d175 rfl (Nat.le_succ _) rfl rfl fx_in_2_10 (t := 112) rfl (fun hA45 => ?_)
          refine fx_i0 aj_d175 rfl (Nat.le_succ _) (fun _ => rfl) hlv_6 ?_
          refine fx_ld aj_d175 (Or.inl rfl) rfl (Nat.le_succ _) (fun g460 g461 => ?_)
          show fx_W _ _ _ 125 lv [.int (X.1 112 (y6).toInt.toNat), .int (Int32.ofInt 32768), .int (X.1 107 3), .ref b44] _ _
          refine fx_qa (c := 0 ≤ (y6).toInt ∧ (y6).toInt < ((30 : Nat) : Int)) ⟨g460, fx_lnk g461 hA45⟩ ?_
          refine fx_n (pc' := 127) (lv' := lv) (st' := [.int ((Int8.ofInt 10).toInt32), .int (X.1 112 (y6).toInt.toNat), .int (Int32.ofInt 32768), .int (X.1 107 3), .ref b44]) aj_d175 rfl (Nat.le_succ _) (fun _ => rfl) ?_
          refine fx_n (pc' := 128) (lv' := lv) (st' := [.int ((X.1 112 (y6).toInt.toNat) <<< (((Int8.ofInt 10).toInt32) &&& 31)), .int (Int32.ofInt 32768), .int (X.1 107 3), .ref b44]) aj_d175 rfl (Nat.le_succ _) (fun _ => rfl) ?_
          refine fx_n (pc' := 129) (lv' := lv) (st' := [.int ((Int32.ofInt 32768) ||| ((X.1 112 (y6).toInt.toNat) <<< (((Int8.ofInt 10).toInt32) &&& 31))), .int (X.1 107 3), .ref b44]) aj_d175 rfl (Nat.le_succ _) (fun _ => rfl) ?_
          refine fx_i0 aj_d175 rfl (Nat.le_succ _) (fun _ => rfl) hlv_4 ?_
          refine fx_n (pc' := 132) (lv' := lv) (st' := [.int (((Int32.ofInt 32768) ||| ((X.1 112 (y6).toInt.toNat) <<< (((Int8.ofInt 10).toInt32) &&& 31))) ||| y4), .int (X.1 107 3), .ref b44]) aj_d175 rfl (Nat.le_succ _) (fun _ => rfl) ?_
          refine fx_cs aj_d175 rfl (Nat.le_succ _) rfl rfl [_, _, _] rfl rfl (gx_178_ok b44 (X.1 107 3) (((Int32.ofInt 32768) ||| ((X.1 112 (y6).toInt.toNat) <<< (((Int8.ofInt 10).toInt32) &&& 31))) ||| y4)) ?_
          rintro _ X47 ⟨w48, rfl, hR47⟩ hok47 hle47
          refine fx_qc hR47 ?_
          show fx_W _ _ _ 135 lv [] _ _
          refine fx_i2 aj_d175 rfl (Nat.le_succ _) (fun _ => rfl) hlv_0 ?_
          refine fx_n (pc' := 137) (lv' := lv) (st' := [.ref 107, .ref 107]) aj_d175 rfl (Nat.le_succ _) (fun _ => rfl) ?_
          refine fx_gI aj_d175 rfl (Nat.le_succ _) rfl rfl (Or.inl rfl) ?_
          refine fx_n (pc' := 141) (lv' := lv) (st' := [.int (Int32.ofInt 1), .int (X47.1 107 3), .ref 107]) aj_d175 rfl (Nat.le_succ _) (fun _ => rfl) ?_
          refine fx_n (pc' := 142) (lv' := lv) (st' := [.int ((X47.1 107 3) + (Int32.ofInt 1)), .ref 107]) aj_d175 rfl (Nat.le_succ _) (fun _ => rfl) ?_
          refine fx_pI aj_d175 rfl (Nat.le_succ _) rfl rfl (Or.inl rfl) fx_no_2_3 (by decide) ?_
          refine fx_qX (fun X49 eX49 => ?_)
          show fx_W _ _ _ 145 lv [] _ _
          refine fx_incq aj_d175 rfl (Nat.le_succ _) hlv_6 (by decide) (fun x50 ex50 => ?_)
          obtain ⟨lv51, elv51⟩ : ∃ l, l = aj_set1 lv 6 (.int x50) := ⟨_, rfl⟩
          rw [← elv51]
          have hlv51_0 : aj_lv lv51 0 = some (.ref 107) := fx_e1 elv51 hlv_0 (by decide) (Or.inl (by decide))
          have hlv51_1 : aj_lv lv51 1 = some (.ref p1) := fx_e1 elv51 hlv_1 (by decide) (Or.inl (by decide))
          have hlv51_2 : aj_lv lv51 2 = some (.ref p2) := fx_e1 elv51 hlv_2 (by decide) (Or.inl (by decide))
          have hlv51_3 : aj_lv lv51 3 = some (.int y3) := fx_e1 elv51 hlv_3 (by decide) (Or.inl (by decide))
          have hlv51_4 : aj_lv lv51 4 = some (.int y4) := fx_e1 elv51 hlv_4 (by decide) (Or.inl (by decide))
          have hlv51_5 : aj_lv lv51 5 = some (.int y5) := fx_e1 elv51 hlv_5 (by decide) (Or.inr rfl)
          have hlv51_6 : aj_lv lv51 6 = some (.int x50) := by rw [elv51]; exact ak_set1_eq _ _ _
          show fx_W _ _ _ 148 lv51 [] _ _
          refine fx_n (pc' := 91) (lv' := lv51) (st' := []) aj_d175 rfl (Nat.le_succ _) (fun _ => rfl) ?_
          exact (ih.2) lv51 (y3) (y4) (y5) (x50) X49  hlv51_0 hlv51_1 hlv51_2 hlv51_3 hlv51_4 hlv51_5 hlv51_6
theorem gx_175_ok {tb : aj_T} (p1 : Nat) (p2 : Nat) {X : fx_X} : fx_K tb 175 [.ref 107, .ref p1, .ref p2] X (fx_Q fx_qN (fun v X' => gx_175 p1 p2 X v X')) := by
  refine fx_m aj_m175_at rfl (fun N => ?_)
  refine fx_mono (Q := fx_Q fx_qN (fun v X' => ∃ n : Nat, gxE_175 p1 p2 (gxF_175 p1 p2 n) X v X')) (fun r X' h => h) ?_
  unfold gxE_175
  show fx_W _ _ _ 0 [(0, .ref 107), (1, .ref p1), (2, .ref p2)] [] _ _
  obtain ⟨lv1, elv1⟩ : ∃ l : aj_V, l = [(0, .ref 107), (1, .ref p1), (2, .ref p2)] := ⟨_, rfl⟩
  rw [← elv1]
  have hlv1_0 : aj_lv lv1 0 = some (.ref 107) := by rw [elv1]; rfl
  have hlv1_1 : aj_lv lv1 1 = some (.ref p1) := by rw [elv1]; rfl
  have hlv1_2 : aj_lv lv1 2 = some (.ref p2) := by rw [elv1]; rfl
  refine fx_i2 aj_d175 rfl (Nat.le_succ _) (fun _ => rfl) hlv1_0 ?_
  refine fx_n (pc' := 2) (lv' := lv1) (st' := [.int (Int32.ofInt 0), .ref 107]) aj_d175 rfl (Nat.le_succ _) (fun _ => rfl) ?_
  refine fx_pI aj_d175 rfl (Nat.le_succ _) rfl rfl (Or.inl rfl) fx_no_2_3 (by decide) ?_
  refine fx_qX (fun X2 eX2 => ?_)
  show fx_W _ _ _ 5 lv1 [] _ _
  refine fx_i2 aj_d175 rfl (Nat.le_succ _) (fun _ => rfl) hlv1_0 ?_
  refine fx_n (pc' := 7) (lv' := lv1) (st' := [.int (Int32.ofInt 0), .ref 107]) aj_d175 rfl (Nat.le_succ _) (fun _ => rfl) ?_
  refine fx_pI aj_d175 rfl (Nat.le_succ _) rfl rfl (Or.inl rfl) fx_no_2_8 (by decide) ?_
  refine fx_qX (fun X3 eX3 => ?_)
  show fx_W _ _ _ 10 lv1 [] _ _
  refine fx_i2 aj_d175 rfl (Nat.le_succ _) (fun _ => rfl) hlv1_0 ?_
  refine fx_n (pc' := 13) (lv' := lv1) (st' := [.int ((Int8.ofInt 30).toInt32), .ref 107]) aj_d175 rfl (Nat.le_succ _) (fun _ => rfl) ?_
  refine fx_pI aj_d175 rfl (Nat.le_succ _) rfl rfl (Or.inl rfl) fx_no_2_1 (by decide) ?_
  refine fx_qX (fun X4 eX4 => ?_)
  show fx_W _ _ _ 16 lv1 [] _ _
  refine fx_i2 aj_d175 rfl (Nat.le_succ _) (fun _ => rfl) hlv1_0 ?_
  refine fx_n (pc' := 18) (lv' := lv1) (st' := [.int (Int32.ofInt 0), .ref 107]) aj_d175 rfl (Nat.le_succ _) (fun _ => rfl) ?_
  refine fx_pI aj_d175 rfl (Nat.le_succ _) rfl rfl (Or.inl rfl) fx_no_2_2 (by decide) ?_
  refine fx_qX (fun X5 eX5 => ?_)
  show fx_W _ _ _ 21 lv1 [] _ _
  refine fx_n (pc' := 22) (lv' := lv1) (st' := [.int (Int32.ofInt 0)]) aj_d175 rfl (Nat.le_succ _) (fun _ => rfl) ?_
  refine fx_s0 (j := 3) aj_d175 rfl (Nat.le_succ _) (by decide) (fun _ => rfl) ?_
  obtain ⟨lv6, elv6⟩ : ∃ l, l = aj_set1 lv1 3 (.int (Int32.ofInt 0)) := ⟨_, rfl⟩
  rw [← elv6]
  have hlv6_0 : aj_lv lv6 0 = some (.ref 107) := fx_e1 elv6 hlv1_0 (by decide) (Or.inl (by decide))
  have hlv6_1 : aj_lv lv6 1 = some (.ref p1) := fx_e1 elv6 hlv1_1 (by decide) (Or.inl (by decide))
  have hlv6_2 : aj_lv lv6 2 = some (.ref p2) := fx_e1 elv6 hlv1_2 (by decide) (Or.inr rfl)
  have hlv6_3 : aj_lv lv6 3 = some (.int (Int32.ofInt 0)) := by rw [elv6]; exact ak_set1_eq _ _ _
  show fx_W _ _ _ 23 lv6 [] _ _
  exact ((gxL_175 p1 p2 N).1) lv6 ((Int32.ofInt 0)) X5  hlv6_0 hlv6_1 hlv6_2 hlv6_3
def gxT_174_33 (p1 : Nat) (p2 : Int32) (P : Nat → List Int32 → List Int64 → List Nat → fx_X → Unit → fx_X → Prop) (y3 : Nat) (y4 : Int32) (X : fx_X) (v : Unit) (X' : fx_X) : Prop :=
  (if (y4).toInt < 1024 then ((if 1 < ((X.1 107 8)).toInt then (∃ (w19 : Unit) (X18 : fx_X), gx_179 p1 y3 X w19 X18 ∧ ∃ x20 : Int32, x20 = y4 + Int32.ofInt 1 ∧ P 33 [x20] [] [y3] X18 v X') else (∃ (w17 : Unit) (X16 : fx_X), gx_185 (X.1 p1 14) X w17 X16 ∧ X' = X16))) else (∃ (w14 : Unit) (X13 : fx_X), gx_185 (X.1 p1 14) X w14 X13 ∧ X' = X13))
def gxE_174 (p1 : Nat) (p2 : Int32) (P : Nat → List Int32 → List Int64 → List Nat → fx_X → Unit → fx_X → Prop) (X : fx_X) (v : Unit) (X' : fx_X) : Prop :=
  ∃ (w3 : (Option Nat)) (X2 : fx_X), gx_63 p1 p2 X w3 X2 ∧ ((w3 = none ∧ (if (p2).toInt = ((X2.1 107 0)).toInt then (X' = X2) else (X' = X2))) ∨ (∃ w3b : Nat, w3 = some w3b ∧ (if (p2).toInt = ((X2.1 107 0)).toInt then (X' = X2) else (∃ X8 : fx_X, X8 = (fx_wI X2 107 0 p2) ∧ ∃ (w10 : Unit) (X9 : fx_X), gx_175 p1 w3b X8 w10 X9 ∧ P 33 [(Int32.ofInt 0)] [] [w3b] X9 v X'))))
noncomputable def gxF_174 (p1 : Nat) (p2 : Int32) (n : Nat) : Nat → List Int32 → List Int64 → List Nat → fx_X → Unit → fx_X → Prop := Nat.rec (motive := fun _ => Nat → List Int32 → List Int64 → List Nat → fx_X → Unit → fx_X → Prop) (fun _ _ _ _ _ _ _ => False) (fun _ P l is ls rs X v X' => (l = 33 ∧ ∃ (y3 : Nat) (y4 : Int32), is = [y4] ∧ ls = [] ∧ rs = [y3] ∧ gxT_174_33 p1 p2 P y3 y4 X v X')) n
theorem gxI_174_33 {p1 : Nat} {p2 : Int32} {n : Nat} {y3 : Nat} {y4 : Int32} {X : fx_X} {v : Unit} {X' : fx_X} (h : gxT_174_33 p1 p2 (gxF_174 p1 p2 n) y3 y4 X v X') : gxF_174 p1 p2 (n + 1) 33 [y4] [] [y3] X v X' := ⟨rfl, y3, y4, rfl, rfl, rfl, h⟩
theorem gxO_174_33 {p1 : Nat} {p2 : Int32} {n : Nat} {y3 : Nat} {y4 : Int32} {X : fx_X} {v : Unit} {X' : fx_X} (h : gxF_174 p1 p2 (n + 1) 33 [y4] [] [y3] X v X') : gxT_174_33 p1 p2 (gxF_174 p1 p2 n) y3 y4 X v X' := by
  rcases h with ⟨-, _, _, e1, e2, e3, h⟩
  · cases e1; cases e2; cases e3; exact h
def gx_174 (p1 : Nat) (p2 : Int32) (X : fx_X) (v : Unit) (X' : fx_X) : Prop := ∃ n : Nat, gxE_174 p1 p2 (gxF_174 p1 p2 n) X v X'
theorem gxL_174 {tb : aj_T} (p1 : Nat) (p2 : Int32) : ∀ N : Nat, (∀ (lv : aj_V) (y3 : Nat) (y4 : Int32) (X : fx_X), aj_lv lv 0 = some (.ref 107) → aj_lv lv 1 = some (.ref p1) → aj_lv lv 3 = some (.ref y3) → aj_lv lv 4 = some (.int y4) → fx_W tb aj_m174 N 33 lv [] X (fx_Q fx_qN (fun v X' => ∃ n : Nat, gxF_174 p1 p2 n 33 [y4] [] [y3] X v X'))) := by
  intro N
  induction N with
  | zero => exact (by intros; exact fx_z)
  | succ N ih =>
    skip
    · intro lv y3 y4 X hlv_0 hlv_1 hlv_3 hlv_4
      refine fx_mono (Q := fx_Q fx_qN (fun v X' => ∃ n : Nat, gxT_174_33 p1 p2 (gxF_174 p1 p2 n) y3 y4 X v X')) (fun r X' ⟨v, e, n, z⟩ => ⟨v, e, n + 1, gxI_174_33 z⟩) ?_
      unfold gxT_174_33
      refine fx_i0 aj_d174 rfl (Nat.le_refl _) (fun _ => rfl) hlv_4 ?_
      refine fx_n (pc' := 38) (lv' := lv) (st' := [.int ((Int16.ofInt 1024).toInt32), .int y4]) aj_d174 rfl (Nat.le_succ _) (fun _ => rfl) ?_
      refine fx_b (tgt := 61) aj_d174 rfl (Nat.le_succ _) rfl (fun q12 => ?_) (fun q12 => ?_)
      · skip
        refine fx_qe (c := (y4).toInt < 1024) (fx_t_ge q12) ?_
        show fx_W _ _ _ 61 lv [] _ _
        refine fx_i2 aj_d174 rfl (Nat.le_succ _) (fun _ => rfl) hlv_0 ?_
        refine fx_i2 aj_d174 rfl (Nat.le_succ _) (fun _ => rfl) hlv_1 ?_
        refine fx_gI aj_d174 rfl (Nat.le_succ _) rfl rfl (Or.inl rfl) ?_
        refine fx_cv aj_d174 rfl (Nat.le_succ _) rfl [_] rfl rfl (gx_185_ok (X.1 p1 14)) ?_
        rintro _ X13 ⟨w14, rfl, hR13⟩ hok13 hle13
        refine fx_qc hR13 ?_
        show fx_W _ _ _ 69 lv [] _ _
        exact fx_rn aj_d174 rfl ⟨(), rfl, 0, rfl⟩
      · skip
        refine fx_qi (c := (y4).toInt < 1024) (fx_f_ge q12) ?_
        show fx_W _ _ _ 41 lv [] _ _
        refine fx_i2 aj_d174 rfl (Nat.le_succ _) (fun _ => rfl) hlv_0 ?_
        refine fx_gI aj_d174 rfl (Nat.le_succ _) rfl rfl (Or.inl rfl) ?_
        refine fx_n (pc' := 46) (lv' := lv) (st' := [.int (Int32.ofInt 1), .int (X.1 107 8)]) aj_d174 rfl (Nat.le_succ _) (fun _ => rfl) ?_
        refine fx_b (tgt := 61) aj_d174 rfl (Nat.le_succ _) rfl (fun q15 => ?_) (fun q15 => ?_)
        · skip
          refine fx_qe (c := 1 < ((X.1 107 8)).toInt) (fx_t_le q15) ?_
          show fx_W _ _ _ 61 lv [] _ _
          refine fx_i2 aj_d174 rfl (Nat.le_succ _) (fun _ => rfl) hlv_0 ?_
          refine fx_i2 aj_d174 rfl (Nat.le_succ _) (fun _ => rfl) hlv_1 ?_
          refine fx_gI aj_d174 rfl (Nat.le_succ _) rfl rfl (Or.inl rfl) ?_
          refine fx_cv aj_d174 rfl (Nat.le_succ _) rfl [_] rfl rfl (gx_185_ok (X.1 p1 14)) ?_
          rintro _ X16 ⟨w17, rfl, hR16⟩ hok16 hle16
          refine fx_qc hR16 ?_
          show fx_W _ _ _ 69 lv [] _ _
          exact fx_rn aj_d174 rfl ⟨(), rfl, 0, rfl⟩
        · skip
          refine fx_qi (c := 1 < ((X.1 107 8)).toInt) (fx_f_le q15) ?_
          show fx_W _ _ _ 49 lv [] _ _
          refine fx_i2 aj_d174 rfl (Nat.le_succ _) (fun _ => rfl) hlv_0 ?_
          refine fx_i2 aj_d174 rfl (Nat.le_succ _) (fun _ => rfl) hlv_1 ?_
          refine fx_i2 aj_d174 rfl (Nat.le_succ _) (fun _ => rfl) hlv_3 ?_
          refine fx_cv aj_d174 rfl (Nat.le_succ _) rfl [_, _] rfl rfl (gx_179_ok p1 y3) ?_
          rintro _ X18 ⟨w19, rfl, hR18⟩ hok18 hle18
          refine fx_qc hR18 ?_
          show fx_W _ _ _ 55 lv [] _ _
          refine fx_incq aj_d174 rfl (Nat.le_succ _) hlv_4 (by decide) (fun x20 ex20 => ?_)
          obtain ⟨lv21, elv21⟩ : ∃ l, l = aj_set1 lv 4 (.int x20) := ⟨_, rfl⟩
          rw [← elv21]
          have hlv21_0 : aj_lv lv21 0 = some (.ref 107) := fx_e1 elv21 hlv_0 (by decide) (Or.inl (by decide))
          have hlv21_1 : aj_lv lv21 1 = some (.ref p1) := fx_e1 elv21 hlv_1 (by decide) (Or.inl (by decide))
          have hlv21_3 : aj_lv lv21 3 = some (.ref y3) := fx_e1 elv21 hlv_3 (by decide) (Or.inr rfl)
          have hlv21_4 : aj_lv lv21 4 = some (.int x20) := by rw [elv21]; exact ak_set1_eq _ _ _
          show fx_W _ _ _ 58 lv21 [] _ _
          refine fx_n (pc' := 33) (lv' := lv21) (st' := []) aj_d174 rfl (Nat.le_succ _) (fun _ => rfl) ?_
          exact (ih) lv21 (y3) (x20) X18  hlv21_0 hlv21_1 hlv21_3 hlv21_4
theorem gx_174_ok {tb : aj_T} (p1 : Nat) (p2 : Int32) {X : fx_X} : fx_K tb 174 [.ref 107, .ref p1, .int p2] X (fx_Q fx_qN (fun v X' => gx_174 p1 p2 X v X')) := by
  refine fx_m aj_m174_at rfl (fun N => ?_)
  refine fx_mono (Q := fx_Q fx_qN (fun v X' => ∃ n : Nat, gxE_174 p1 p2 (gxF_174 p1 p2 n) X v X')) (fun r X' h => h) ?_
  unfold gxE_174
  show fx_W _ _ _ 0 [(0, .ref 107), (1, .ref p1), (2, .int p2)] [] _ _
  obtain ⟨lv1, elv1⟩ : ∃ l : aj_V, l = [(0, .ref 107), (1, .ref p1), (2, .int p2)] := ⟨_, rfl⟩
  rw [← elv1]
  have hlv1_0 : aj_lv lv1 0 = some (.ref 107) := by rw [elv1]; rfl
  have hlv1_1 : aj_lv lv1 1 = some (.ref p1) := by rw [elv1]; rfl
  have hlv1_2 : aj_lv lv1 2 = some (.int p2) := by rw [elv1]; rfl
  refine fx_i2 aj_d174 rfl (Nat.le_succ _) (fun _ => rfl) hlv1_1 ?_
  refine fx_i0 aj_d174 rfl (Nat.le_succ _) (fun _ => rfl) hlv1_2 ?_
  refine fx_cv aj_d174 rfl (Nat.le_succ _) rfl [_] rfl rfl (gx_63_ok p1 p2) ?_
  rintro _ X2 ⟨w3, rfl, hR2⟩ hok2 hle2
  refine fx_qc hR2 ?_
  rcases w3 with _ | w3b
  · skip
    refine fx_o1 (fx_qa rfl ?_)
    show fx_W _ _ _ 5 lv1 [.null] _ _
    refine fx_s3 (j := 3) aj_d174 rfl (Nat.le_succ _) (by decide) (fun _ => rfl) ?_
    obtain ⟨lv4, elv4⟩ : ∃ l, l = aj_set1 lv1 3 (.null) := ⟨_, rfl⟩
    rw [← elv4]
    have hlv4_0 : aj_lv lv4 0 = some (.ref 107) := fx_e1 elv4 hlv1_0 (by decide) (Or.inl (by decide))
    have hlv4_1 : aj_lv lv4 1 = some (.ref p1) := fx_e1 elv4 hlv1_1 (by decide) (Or.inl (by decide))
    have hlv4_2 : aj_lv lv4 2 = some (.int p2) := fx_e1 elv4 hlv1_2 (by decide) (Or.inr rfl)
    have hlv4_3 : aj_lv lv4 3 = some (.null) := by rw [elv4]; exact ak_set1_eq _ _ _
    show fx_W _ _ _ 6 lv4 [] _ _
    refine fx_i0 aj_d174 rfl (Nat.le_succ _) (fun _ => rfl) hlv4_2 ?_
    refine fx_i2 aj_d174 rfl (Nat.le_succ _) (fun _ => rfl) hlv4_0 ?_
    refine fx_gI aj_d174 rfl (Nat.le_succ _) rfl rfl (Or.inl rfl) ?_
    refine fx_b (tgt := 18) aj_d174 rfl (Nat.le_succ _) rfl (fun q5 => ?_) (fun q5 => ?_)
    · skip
      refine fx_qi (c := (p2).toInt = ((X2.1 107 0)).toInt) (fx_t_eq q5) ?_
      show fx_W _ _ _ 18 lv4 [] _ _
      exact fx_rn aj_d174 rfl ⟨(), rfl, 0, rfl⟩
    · skip
      refine fx_qe (c := (p2).toInt = ((X2.1 107 0)).toInt) (fx_f_eq q5) ?_
      show fx_W _ _ _ 14 lv4 [] _ _
      refine fx_i3 aj_d174 rfl (Nat.le_succ _) (fun _ => rfl) hlv4_3 ?_
      refine fx_n (pc' := 18) (lv' := lv4) (st' := []) aj_d174 rfl (Nat.le_succ _) (fun _ => rfl) ?_
      exact fx_rn aj_d174 rfl ⟨(), rfl, 0, rfl⟩
  · skip
    refine fx_o2 (fx_qs rfl ?_)
    show fx_W _ _ _ 5 lv1 [.ref w3b] _ _
    refine fx_s2 (j := 3) aj_d174 rfl (Nat.le_succ _) (by decide) (fun _ => rfl) ?_
    obtain ⟨lv6, elv6⟩ : ∃ l, l = aj_set1 lv1 3 (.ref w3b) := ⟨_, rfl⟩
    rw [← elv6]
    have hlv6_0 : aj_lv lv6 0 = some (.ref 107) := fx_e1 elv6 hlv1_0 (by decide) (Or.inl (by decide))
    have hlv6_1 : aj_lv lv6 1 = some (.ref p1) := fx_e1 elv6 hlv1_1 (by decide) (Or.inl (by decide))
    have hlv6_2 : aj_lv lv6 2 = some (.int p2) := fx_e1 elv6 hlv1_2 (by decide) (Or.inr rfl)
    have hlv6_3 : aj_lv lv6 3 = some (.ref w3b) := by rw [elv6]; exact ak_set1_eq _ _ _
    show fx_W _ _ _ 6 lv6 [] _ _
    refine fx_i0 aj_d174 rfl (Nat.le_succ _) (fun _ => rfl) hlv6_2 ?_
    refine fx_i2 aj_d174 rfl (Nat.le_succ _) (fun _ => rfl) hlv6_0 ?_
    refine fx_gI aj_d174 rfl (Nat.le_succ _) rfl rfl (Or.inl rfl) ?_
    refine fx_b (tgt := 18) aj_d174 rfl (Nat.le_succ _) rfl (fun q7 => ?_) (fun q7 => ?_)
    · skip
      refine fx_qi (c := (p2).toInt = ((X2.1 107 0)).toInt) (fx_t_eq q7) ?_
      show fx_W _ _ _ 18 lv6 [] _ _
      exact fx_rn aj_d174 rfl ⟨(), rfl, 0, rfl⟩
    · skip
      refine fx_qe (c := (p2).toInt = ((X2.1 107 0)).toInt) (fx_f_eq q7) ?_
      show fx_W _ _ _ 14 lv6 [] _ _
      refine fx_i2 aj_d174 rfl (Nat.le_succ _) (fun _ => rfl) hlv6_3 ?_
      refine fx_n (pc' := 19) (lv' := lv6) (st' := []) aj_d174 rfl (Nat.le_succ _) (fun _ => rfl) ?_
      refine fx_i2 aj_d174 rfl (Nat.le_succ _) (fun _ => rfl) hlv6_0 ?_
      refine fx_i0 aj_d174 rfl (Nat.le_succ _) (fun _ => rfl) hlv6_2 ?_
      refine fx_pI aj_d174 rfl (Nat.le_succ _) rfl rfl (Or.inl rfl) fx_no_2_0 (by decide) ?_
      refine fx_qX (fun X8 eX8 => ?_)
      show fx_W _ _ _ 24 lv6 [] _ _
      refine fx_i2 aj_d174 rfl (Nat.le_succ _) (fun _ => rfl) hlv6_0 ?_
      refine fx_i2 aj_d174 rfl (Nat.le_succ _) (fun _ => rfl) hlv6_1 ?_
      refine fx_i2 aj_d174 rfl (Nat.le_succ _) (fun _ => rfl) hlv6_3 ?_
      refine fx_cv aj_d174 rfl (Nat.le_succ _) rfl [_, _] rfl rfl (gx_175_ok p1 w3b) ?_
      rintro _ X9 ⟨w10, rfl, hR9⟩ hok9 hle9
      refine fx_qc hR9 ?_
      show fx_W _ _ _ 30 lv6 [] _ _
      refine fx_n (pc' := 31) (lv' := lv6) (st' := [.int (Int32.ofInt 0)]) aj_d174 rfl (Nat.le_succ _) (fun _ => rfl) ?_
      refine fx_s0 (j := 4) aj_d174 rfl (Nat.le_succ _) (by decide) (fun _ => rfl) ?_
      obtain ⟨lv11, elv11⟩ : ∃ l, l = aj_set1 lv6 4 (.int (Int32.ofInt 0)) := ⟨_, rfl⟩
      rw [← elv11]
      have hlv11_0 : aj_lv lv11 0 = some (.ref 107) := fx_e1 elv11 hlv6_0 (by decide) (Or.inl (by decide))
      have hlv11_1 : aj_lv lv11 1 = some (.ref p1) := fx_e1 elv11 hlv6_1 (by decide) (Or.inl (by decide))
      have hlv11_3 : aj_lv lv11 3 = some (.ref w3b) := fx_e1 elv11 hlv6_3 (by decide) (Or.inr rfl)
      have hlv11_4 : aj_lv lv11 4 = some (.int (Int32.ofInt 0)) := by rw [elv11]; exact ak_set1_eq _ _ _
      show fx_W _ _ _ 33 lv11 [] _ _
      exact ((gxL_174 p1 p2 N)) lv11 (w3b) ((Int32.ofInt 0)) X9  hlv11_0 hlv11_1 hlv11_3 hlv11_4
def gx_173 (p1 : Int32) (p2 : Int32) (X : fx_X) (v : Int32) (X' : fx_X) : Prop :=
  ∃ b3 : Nat, X.2.2.1 52 3 = some b3 ∧ ∃ (w5 : (Option Nat)) (X4 : fx_X), gx_63 b3 p1 X w5 X4 ∧ ((w5 = none ∧ v = (Int32.ofInt (-1)) ∧ X' = X4) ∨ (∃ w5b : Nat, w5 = some w5b ∧ (if (p2).toInt = 0 then (v = (X4.1 w5b 4) ∧ X' = X4) else ((if (p2).toInt = 1 then (v = (X4.1 w5b 3) ∧ X' = X4) else ((if (p2).toInt = 2 then (∃ b13 : Nat, X4.2.2.1 52 3 = some b13 ∧ ∃ (w15 : Int32) (X14 : fx_X), gx_95 b13 p1 X4 w15 X14 ∧ (if (w15).toInt = 0 then (v = (Int32.ofInt 0) ∧ X' = X14) else (v = (Int32.ofInt 1) ∧ X' = X14))) else ((if (p2).toInt = 3 then (∃ b20 : Nat, X4.2.2.1 52 3 = some b20 ∧ ∃ (w22 : Unit) (X21 : fx_X), gx_174 b20 p1 X4 w22 X21 ∧ (if (p2).toInt = 3 then (v = (X21.1 107 1) ∧ X' = X21) else ((if (p2).toInt = 4 then (v = (X21.1 107 2) ∧ X' = X21) else ((if (p2).toInt = 5 then (v = (X21.1 107 4) ∧ X' = X21) else (v = (X21.1 107 3) ∧ X' = X21))))))) else ((if (p2).toInt = 4 then (∃ b33 : Nat, X4.2.2.1 52 3 = some b33 ∧ ∃ (w35 : Unit) (X34 : fx_X), gx_174 b33 p1 X4 w35 X34 ∧ (if (p2).toInt = 3 then (v = (X34.1 107 1) ∧ X' = X34) else ((if (p2).toInt = 4 then (v = (X34.1 107 2) ∧ X' = X34) else ((if (p2).toInt = 5 then (v = (X34.1 107 4) ∧ X' = X34) else (v = (X34.1 107 3) ∧ X' = X34))))))) else ((if (p2).toInt = 5 then (∃ b46 : Nat, X4.2.2.1 52 3 = some b46 ∧ ∃ (w48 : Unit) (X47 : fx_X), gx_174 b46 p1 X4 w48 X47 ∧ (if (p2).toInt = 3 then (v = (X47.1 107 1) ∧ X' = X47) else ((if (p2).toInt = 4 then (v = (X47.1 107 2) ∧ X' = X47) else ((if (p2).toInt = 5 then (v = (X47.1 107 4) ∧ X' = X47) else (v = (X47.1 107 3) ∧ X' = X47))))))) else ((if (p2).toInt = 6 then (∃ b59 : Nat, X4.2.2.1 52 3 = some b59 ∧ ∃ (w61 : Unit) (X60 : fx_X), gx_174 b59 p1 X4 w61 X60 ∧ (if (p2).toInt = 3 then (v = (X60.1 107 1) ∧ X' = X60) else ((if (p2).toInt = 4 then (v = (X60.1 107 2) ∧ X' = X60) else ((if (p2).toInt = 5 then (v = (X60.1 107 4) ∧ X' = X60) else (v = (X60.1 107 3) ∧ X' = X60))))))) else (v = (Int32.ofInt (-1)) ∧ X' = X4))))))))))))))))
theorem gx_173_ok {tb : aj_T} (p1 : Int32) (p2 : Int32) {X : fx_X} : fx_K tb 173 [.ref 52, .int p1, .int p2] X (fx_Q fx_qI (fun v X' => gx_173 p1 p2 X v X')) := by
  refine fx_m aj_m173_at rfl (fun N => ?_)
  refine fx_mono (Q := fx_Q fx_qI (fun v X' => ∃ n : Nat, gx_173 p1 p2 X v X')) (fun r X' ⟨v, e, _, z⟩ => ⟨v, e, z⟩) ?_
  unfold gx_173
  show fx_W _ _ _ 0 [(0, .ref 52), (1, .int p1), (2, .int p2)] [] _ _
  obtain ⟨lv1, elv1⟩ : ∃ l : aj_V, l = [(0, .ref 52), (1, .int p1), (2, .int p2)] := ⟨_, rfl⟩
  rw [← elv1]
  have hlv1_0 : aj_lv lv1 0 = some (.ref 52) := by rw [elv1]; rfl
  have hlv1_1 : aj_lv lv1 1 = some (.int p1) := by rw [elv1]; rfl
  have hlv1_2 : aj_lv lv1 2 = some (.int p2) := by rw [elv1]; rfl
  refine fx_i2 aj_d173 rfl (Nat.le_succ _) (fun _ => rfl) hlv1_0 ?_
  refine fx_gR aj_d173 rfl (Nat.le_succ _) rfl rfl (Or.inl ⟨_, rfl⟩) (fun _ z => absurd (by decide) z) (fun b3 q2 => ?_)
  show fx_W _ _ _ 4 lv1 [.ref b3] _ _
  refine fx_qs q2 ?_
  refine fx_i0 aj_d173 rfl (Nat.le_succ _) (fun _ => rfl) hlv1_1 ?_
  refine fx_cv aj_d173 rfl (Nat.le_succ _) rfl [_] rfl rfl (gx_63_ok b3 p1) ?_
  rintro _ X4 ⟨w5, rfl, hR4⟩ hok4 hle4
  refine fx_qc hR4 ?_
  rcases w5 with _ | w5b
  · skip
    refine fx_o1 (fx_qa rfl ?_)
    show fx_W _ _ _ 8 lv1 [.null] _ _
    refine fx_s3 (j := 3) aj_d173 rfl (Nat.le_succ _) (by decide) (fun _ => rfl) ?_
    obtain ⟨lv6, elv6⟩ : ∃ l, l = aj_set1 lv1 3 (.null) := ⟨_, rfl⟩
    rw [← elv6]
    have hlv6_0 : aj_lv lv6 0 = some (.ref 52) := fx_e1 elv6 hlv1_0 (by decide) (Or.inl (by decide))
    have hlv6_1 : aj_lv lv6 1 = some (.int p1) := fx_e1 elv6 hlv1_1 (by decide) (Or.inl (by decide))
    have hlv6_2 : aj_lv lv6 2 = some (.int p2) := fx_e1 elv6 hlv1_2 (by decide) (Or.inr rfl)
    have hlv6_3 : aj_lv lv6 3 = some (.null) := by rw [elv6]; exact ak_set1_eq _ _ _
    show fx_W _ _ _ 9 lv6 [] _ _
    refine fx_i3 aj_d173 rfl (Nat.le_succ _) (fun _ => rfl) hlv6_3 ?_
    refine fx_n (pc' := 13) (lv' := lv6) (st' := []) aj_d173 rfl (Nat.le_succ _) (fun _ => rfl) ?_
    refine fx_n (pc' := 14) (lv' := lv6) (st' := [.int (Int32.ofInt (-1))]) aj_d173 rfl (Nat.le_succ _) (fun _ => rfl) ?_
    exact fx_ri aj_d173 rfl ⟨_, rfl, 0, rfl, rfl⟩
  · skip
    refine fx_o2 (fx_qs rfl ?_)
    show fx_W _ _ _ 8 lv1 [.ref w5b] _ _
    refine fx_s2 (j := 3) aj_d173 rfl (Nat.le_succ _) (by decide) (fun _ => rfl) ?_
    obtain ⟨lv7, elv7⟩ : ∃ l, l = aj_set1 lv1 3 (.ref w5b) := ⟨_, rfl⟩
    rw [← elv7]
    have hlv7_0 : aj_lv lv7 0 = some (.ref 52) := fx_e1 elv7 hlv1_0 (by decide) (Or.inl (by decide))
    have hlv7_1 : aj_lv lv7 1 = some (.int p1) := fx_e1 elv7 hlv1_1 (by decide) (Or.inl (by decide))
    have hlv7_2 : aj_lv lv7 2 = some (.int p2) := fx_e1 elv7 hlv1_2 (by decide) (Or.inr rfl)
    have hlv7_3 : aj_lv lv7 3 = some (.ref w5b) := by rw [elv7]; exact ak_set1_eq _ _ _
    show fx_W _ _ _ 9 lv7 [] _ _
    refine fx_i2 aj_d173 rfl (Nat.le_succ _) (fun _ => rfl) hlv7_3 ?_
    refine fx_n (pc' := 15) (lv' := lv7) (st' := []) aj_d173 rfl (Nat.le_succ _) (fun _ => rfl) ?_
    refine fx_i0 aj_d173 rfl (Nat.le_succ _) (fun _ => rfl) hlv7_2 ?_
    by_cases q9 : (p2).toInt = 0
    · skip
      refine fx_qi (c := (p2).toInt = 0) q9 ?_
      refine fx_ts (tgt := 60) aj_d173 rfl (Nat.le_succ _) q9 (by decide) rfl rfl ?_
      show fx_W _ _ _ 60 lv7 [] _ _
      refine fx_i2 aj_d173 rfl (Nat.le_succ _) (fun _ => rfl) hlv7_3 ?_
      refine fx_gI aj_d173 rfl (Nat.le_succ _) rfl rfl (Or.inl rfl) ?_
      exact fx_ri aj_d173 rfl ⟨_, rfl, 0, rfl, rfl⟩
    · skip
      refine fx_qe (c := (p2).toInt = 0) q9 ?_
      by_cases q10 : (p2).toInt = 1
      · skip
        refine fx_qi (c := (p2).toInt = 1) q10 ?_
        refine fx_ts (tgt := 65) aj_d173 rfl (Nat.le_succ _) q10 (by decide) rfl rfl ?_
        show fx_W _ _ _ 65 lv7 [] _ _
        refine fx_i2 aj_d173 rfl (Nat.le_succ _) (fun _ => rfl) hlv7_3 ?_
        refine fx_gI aj_d173 rfl (Nat.le_succ _) rfl rfl (Or.inl rfl) ?_
        exact fx_ri aj_d173 rfl ⟨_, rfl, 0, rfl, rfl⟩
      · skip
        refine fx_qe (c := (p2).toInt = 1) q10 ?_
        by_cases q11 : (p2).toInt = 2
        · skip
          refine fx_qi (c := (p2).toInt = 2) q11 ?_
          refine fx_ts (tgt := 70) aj_d173 rfl (Nat.le_succ _) q11 (by decide) rfl rfl ?_
          show fx_W _ _ _ 70 lv7 [] _ _
          refine fx_i2 aj_d173 rfl (Nat.le_succ _) (fun _ => rfl) hlv7_0 ?_
          refine fx_gR aj_d173 rfl (Nat.le_succ _) rfl rfl (Or.inl ⟨_, rfl⟩) (fun _ z => absurd (by decide) z) (fun b13 q12 => ?_)
          show fx_W _ _ _ 74 lv7 [.ref b13] _ _
          refine fx_qs q12 ?_
          refine fx_i0 aj_d173 rfl (Nat.le_succ _) (fun _ => rfl) hlv7_1 ?_
          refine fx_cv aj_d173 rfl (Nat.le_succ _) rfl [_] rfl rfl (gx_95_ok b13 p1) ?_
          rintro _ X14 ⟨w15, rfl, hR14⟩ hok14 hle14
          refine fx_qc hR14 ?_
          show fx_W _ _ _ 78 lv7 [.int w15] _ _
          refine fx_b0 (tgt := 85) aj_d173 rfl (Nat.le_succ _) rfl (fun q16 => ?_) (fun q16 => ?_)
          · skip
            refine fx_qi (c := (w15).toInt = 0) (fx_t_eq q16) ?_
            show fx_W _ _ _ 85 lv7 [] _ _
            refine fx_n (pc' := 86) (lv' := lv7) (st' := [.int (Int32.ofInt 0)]) aj_d173 rfl (Nat.le_succ _) (fun _ => rfl) ?_
            exact fx_ri aj_d173 rfl ⟨_, rfl, 0, rfl, rfl⟩
          · skip
            refine fx_qe (c := (w15).toInt = 0) (fx_f_eq q16) ?_
            show fx_W _ _ _ 81 lv7 [] _ _
            refine fx_n (pc' := 82) (lv' := lv7) (st' := [.int (Int32.ofInt 1)]) aj_d173 rfl (Nat.le_succ _) (fun _ => rfl) ?_
            refine fx_n (pc' := 86) (lv' := lv7) (st' := [.int (Int32.ofInt 1)]) aj_d173 rfl (Nat.le_succ _) (fun _ => rfl) ?_
            exact fx_ri aj_d173 rfl ⟨_, rfl, 0, rfl, rfl⟩
        · skip
          refine fx_qe (c := (p2).toInt = 2) q11 ?_
          by_cases q17 : (p2).toInt = 3
          · skip
            refine fx_qi (c := (p2).toInt = 3) q17 ?_
            refine fx_ts (tgt := 87) aj_d173 rfl (Nat.le_succ _) q17 (by decide) rfl rfl ?_
            show fx_W _ _ _ 87 lv7 [] _ _
            refine fx_i2 aj_d173 rfl (Nat.le_succ _) (fun _ => rfl) hlv7_0 ?_
            refine fx_gF aj_d173 rfl (Nat.le_succ _) rfl rfl fx_in_10_10 (t := 107) rfl (fun hA18 => ?_)
            refine fx_i2 aj_d173 rfl (Nat.le_succ _) (fun _ => rfl) hlv7_0 ?_
            refine fx_gR aj_d173 rfl (Nat.le_succ _) rfl rfl (Or.inl ⟨_, rfl⟩) (fun _ z => absurd (by decide) z) (fun b20 q19 => ?_)
            show fx_W _ _ _ 95 lv7 [.ref b20, .ref 107] _ _
            refine fx_qs q19 ?_
            refine fx_i0 aj_d173 rfl (Nat.le_succ _) (fun _ => rfl) hlv7_1 ?_
            refine fx_cv aj_d173 rfl (Nat.le_succ _) rfl [_, _] rfl rfl (gx_174_ok b20 p1) ?_
            rintro _ X21 ⟨w22, rfl, hR21⟩ hok21 hle21
            refine fx_qc hR21 ?_
            show fx_W _ _ _ 99 lv7 [] _ _
            refine fx_i0 aj_d173 rfl (Nat.le_succ _) (fun _ => rfl) hlv7_2 ?_
            refine fx_n (pc' := 101) (lv' := lv7) (st' := [.int (Int32.ofInt 3), .int p2]) aj_d173 rfl (Nat.le_succ _) (fun _ => rfl) ?_
            refine fx_b (tgt := 114) aj_d173 rfl (Nat.le_succ _) rfl (fun q23 => ?_) (fun q23 => ?_)
            · skip
              refine fx_qe (c := (p2).toInt = 3) (fx_t_ne q23) ?_
              show fx_W _ _ _ 114 lv7 [] _ _
              refine fx_i0 aj_d173 rfl (Nat.le_succ _) (fun _ => rfl) hlv7_2 ?_
              refine fx_n (pc' := 116) (lv' := lv7) (st' := [.int (Int32.ofInt 4), .int p2]) aj_d173 rfl (Nat.le_succ _) (fun _ => rfl) ?_
              refine fx_b (tgt := 129) aj_d173 rfl (Nat.le_succ _) rfl (fun q24 => ?_) (fun q24 => ?_)
              · skip
                refine fx_qe (c := (p2).toInt = 4) (fx_t_ne q24) ?_
                show fx_W _ _ _ 129 lv7 [] _ _
                refine fx_i0 aj_d173 rfl (Nat.le_succ _) (fun _ => rfl) hlv7_2 ?_
                refine fx_n (pc' := 131) (lv' := lv7) (st' := [.int (Int32.ofInt 5), .int p2]) aj_d173 rfl (Nat.le_succ _) (fun _ => rfl) ?_
                refine fx_b (tgt := 144) aj_d173 rfl (Nat.le_succ _) rfl (fun q25 => ?_) (fun q25 => ?_)
                · skip
                  refine fx_qe (c := (p2).toInt = 5) (fx_t_ne q25) ?_
                  show fx_W _ _ _ 144 lv7 [] _ _
                  refine fx_i2 aj_d173 rfl (Nat.le_succ _) (fun _ => rfl) hlv7_0 ?_
                  refine fx_gF aj_d173 rfl (Nat.le_succ _) rfl rfl fx_in_10_10 (t := 107) rfl (fun hA26 => ?_)
                  refine fx_gI aj_d173 rfl (Nat.le_succ _) rfl rfl (Or.inl rfl) ?_
                  exact fx_ri aj_d173 rfl ⟨_, rfl, 0, rfl, rfl⟩
                · skip
                  refine fx_qi (c := (p2).toInt = 5) (fx_f_ne q25) ?_
                  show fx_W _ _ _ 134 lv7 [] _ _
                  refine fx_i2 aj_d173 rfl (Nat.le_succ _) (fun _ => rfl) hlv7_0 ?_
                  refine fx_gF aj_d173 rfl (Nat.le_succ _) rfl rfl fx_in_10_10 (t := 107) rfl (fun hA27 => ?_)
                  refine fx_gI aj_d173 rfl (Nat.le_succ _) rfl rfl (Or.inl rfl) ?_
                  refine fx_n (pc' := 151) (lv' := lv7) (st' := [.int (X21.1 107 4)]) aj_d173 rfl (Nat.le_succ _) (fun _ => rfl) ?_
                  exact fx_ri aj_d173 rfl ⟨_, rfl, 0, rfl, rfl⟩
              · skip
                refine fx_qi (c := (p2).toInt = 4) (fx_f_ne q24) ?_
                show fx_W _ _ _ 119 lv7 [] _ _
                refine fx_i2 aj_d173 rfl (Nat.le_succ _) (fun _ => rfl) hlv7_0 ?_
                refine fx_gF aj_d173 rfl (Nat.le_succ _) rfl rfl fx_in_10_10 (t := 107) rfl (fun hA28 => ?_)
                refine fx_gI aj_d173 rfl (Nat.le_succ _) rfl rfl (Or.inl rfl) ?_
                refine fx_n (pc' := 151) (lv' := lv7) (st' := [.int (X21.1 107 2)]) aj_d173 rfl (Nat.le_succ _) (fun _ => rfl) ?_
                exact fx_ri aj_d173 rfl ⟨_, rfl, 0, rfl, rfl⟩
            · skip
              refine fx_qi (c := (p2).toInt = 3) (fx_f_ne q23) ?_
              show fx_W _ _ _ 104 lv7 [] _ _
              refine fx_i2 aj_d173 rfl (Nat.le_succ _) (fun _ => rfl) hlv7_0 ?_
              refine fx_gF aj_d173 rfl (Nat.le_succ _) rfl rfl fx_in_10_10 (t := 107) rfl (fun hA29 => ?_)
              refine fx_gI aj_d173 rfl (Nat.le_succ _) rfl rfl (Or.inl rfl) ?_
              refine fx_n (pc' := 151) (lv' := lv7) (st' := [.int (X21.1 107 1)]) aj_d173 rfl (Nat.le_succ _) (fun _ => rfl) ?_
              exact fx_ri aj_d173 rfl ⟨_, rfl, 0, rfl, rfl⟩
          · skip
            refine fx_qe (c := (p2).toInt = 3) q17 ?_
            by_cases q30 : (p2).toInt = 4
            · skip
              refine fx_qi (c := (p2).toInt = 4) q30 ?_
              refine fx_ts (tgt := 87) aj_d173 rfl (Nat.le_succ _) q30 (by decide) rfl rfl ?_
              show fx_W _ _ _ 87 lv7 [] _ _
              refine fx_i2 aj_d173 rfl (Nat.le_succ _) (fun _ => rfl) hlv7_0 ?_
              refine fx_gF aj_d173 rfl (Nat.le_succ _) rfl rfl fx_in_10_10 (t := 107) rfl (fun hA31 => ?_)
              refine fx_i2 aj_d173 rfl (Nat.le_succ _) (fun _ => rfl) hlv7_0 ?_
              refine fx_gR aj_d173 rfl (Nat.le_succ _) rfl rfl (Or.inl ⟨_, rfl⟩) (fun _ z => absurd (by decide) z) (fun b33 q32 => ?_)
              show fx_W _ _ _ 95 lv7 [.ref b33, .ref 107] _ _
              refine fx_qs q32 ?_
              refine fx_i0 aj_d173 rfl (Nat.le_succ _) (fun _ => rfl) hlv7_1 ?_
              refine fx_cv aj_d173 rfl (Nat.le_succ _) rfl [_, _] rfl rfl (gx_174_ok b33 p1) ?_
              rintro _ X34 ⟨w35, rfl, hR34⟩ hok34 hle34
              refine fx_qc hR34 ?_
              show fx_W _ _ _ 99 lv7 [] _ _
              refine fx_i0 aj_d173 rfl (Nat.le_succ _) (fun _ => rfl) hlv7_2 ?_
              refine fx_n (pc' := 101) (lv' := lv7) (st' := [.int (Int32.ofInt 3), .int p2]) aj_d173 rfl (Nat.le_succ _) (fun _ => rfl) ?_
              refine fx_b (tgt := 114) aj_d173 rfl (Nat.le_succ _) rfl (fun q36 => ?_) (fun q36 => ?_)
              · skip
                refine fx_qe (c := (p2).toInt = 3) (fx_t_ne q36) ?_
                show fx_W _ _ _ 114 lv7 [] _ _
                refine fx_i0 aj_d173 rfl (Nat.le_succ _) (fun _ => rfl) hlv7_2 ?_
                refine fx_n (pc' := 116) (lv' := lv7) (st' := [.int (Int32.ofInt 4), .int p2]) aj_d173 rfl (Nat.le_succ _) (fun _ => rfl) ?_
                refine fx_b (tgt := 129) aj_d173 rfl (Nat.le_succ _) rfl (fun q37 => ?_) (fun q37 => ?_)
                · skip
                  refine fx_qe (c := (p2).toInt = 4) (fx_t_ne q37) ?_
                  show fx_W _ _ _ 129 lv7 [] _ _
                  refine fx_i0 aj_d173 rfl (Nat.le_succ _) (fun _ => rfl) hlv7_2 ?_
                  refine fx_n (pc' := 131) (lv' := lv7) (st' := [.int (Int32.ofInt 5), .int p2]) aj_d173 rfl (Nat.le_succ _) (fun _ => rfl) ?_
                  refine fx_b (tgt := 144) aj_d173 rfl (Nat.le_succ _) rfl (fun q38 => ?_) (fun q38 => ?_)
                  · skip
                    refine fx_qe (c := (p2).toInt = 5) (fx_t_ne q38) ?_
                    show fx_W _ _ _ 144 lv7 [] _ _
                    refine fx_i2 aj_d173 rfl (Nat.le_succ _) (fun _ => rfl) hlv7_0 ?_
                    refine fx_gF aj_d173 rfl (Nat.le_succ _) rfl rfl fx_in_10_10 (t := 107) rfl (fun hA39 => ?_)
                    refine fx_gI aj_d173 rfl (Nat.le_succ _) rfl rfl (Or.inl rfl) ?_
                    exact fx_ri aj_d173 rfl ⟨_, rfl, 0, rfl, rfl⟩
                  · skip
                    refine fx_qi (c := (p2).toInt = 5) (fx_f_ne q38) ?_
                    show fx_W _ _ _ 134 lv7 [] _ _
                    refine fx_i2 aj_d173 rfl (Nat.le_succ _) (fun _ => rfl) hlv7_0 ?_
                    refine fx_gF aj_d173 rfl (Nat.le_succ _) rfl rfl fx_in_10_10 (t := 107) rfl (fun hA40 => ?_)
                    refine fx_gI aj_d173 rfl (Nat.le_succ _) rfl rfl (Or.inl rfl) ?_
                    refine fx_n (pc' := 151) (lv' := lv7) (st' := [.int (X34.1 107 4)]) aj_d173 rfl (Nat.le_succ _) (fun _ => rfl) ?_
                    exact fx_ri aj_d173 rfl ⟨_, rfl, 0, rfl, rfl⟩
                · skip
                  refine fx_qi (c := (p2).toInt = 4) (fx_f_ne q37) ?_
                  show fx_W _ _ _ 119 lv7 [] _ _
                  refine fx_i2 aj_d173 rfl (Nat.le_succ _) (fun _ => rfl) hlv7_0 ?_
                  refine fx_gF aj_d173 rfl (Nat.le_succ _) rfl rfl fx_in_10_10 (t := 107) rfl (fun hA41 => ?_)
                  refine fx_gI aj_d173 rfl (Nat.le_succ _) rfl rfl (Or.inl rfl) ?_
                  refine fx_n (pc' := 151) (lv' := lv7) (st' := [.int (X34.1 107 2)]) aj_d173 rfl (Nat.le_succ _) (fun _ => rfl) ?_
                  exact fx_ri aj_d173 rfl ⟨_, rfl, 0, rfl, rfl⟩
              · skip
                refine fx_qi (c := (p2).toInt = 3) (fx_f_ne q36) ?_
                show fx_W _ _ _ 104 lv7 [] _ _
                refine fx_i2 aj_d173 rfl (Nat.le_succ _) (fun _ => rfl) hlv7_0 ?_
                refine fx_gF aj_d173 rfl (Nat.le_succ _) rfl rfl fx_in_10_10 (t := 107) rfl (fun hA42 => ?_)
                refine fx_gI aj_d173 rfl (Nat.le_succ _) rfl rfl (Or.inl rfl) ?_
                refine fx_n (pc' := 151) (lv' := lv7) (st' := [.int (X34.1 107 1)]) aj_d173 rfl (Nat.le_succ _) (fun _ => rfl) ?_
                exact fx_ri aj_d173 rfl ⟨_, rfl, 0, rfl, rfl⟩
            · skip
              refine fx_qe (c := (p2).toInt = 4) q30 ?_
              by_cases q43 : (p2).toInt = 5
              · skip
                refine fx_qi (c := (p2).toInt = 5) q43 ?_
                refine fx_ts (tgt := 87) aj_d173 rfl (Nat.le_succ _) q43 (by decide) rfl rfl ?_
                show fx_W _ _ _ 87 lv7 [] _ _
                refine fx_i2 aj_d173 rfl (Nat.le_succ _) (fun _ => rfl) hlv7_0 ?_
                refine fx_gF aj_d173 rfl (Nat.le_succ _) rfl rfl fx_in_10_10 (t := 107) rfl (fun hA44 => ?_)
                refine fx_i2 aj_d173 rfl (Nat.le_succ _) (fun _ => rfl) hlv7_0 ?_
                refine fx_gR aj_d173 rfl (Nat.le_succ _) rfl rfl (Or.inl ⟨_, rfl⟩) (fun _ z => absurd (by decide) z) (fun b46 q45 => ?_)
                show fx_W _ _ _ 95 lv7 [.ref b46, .ref 107] _ _
                refine fx_qs q45 ?_
                refine fx_i0 aj_d173 rfl (Nat.le_succ _) (fun _ => rfl) hlv7_1 ?_
                refine fx_cv aj_d173 rfl (Nat.le_succ _) rfl [_, _] rfl rfl (gx_174_ok b46 p1) ?_
                rintro _ X47 ⟨w48, rfl, hR47⟩ hok47 hle47
                refine fx_qc hR47 ?_
                show fx_W _ _ _ 99 lv7 [] _ _
                refine fx_i0 aj_d173 rfl (Nat.le_succ _) (fun _ => rfl) hlv7_2 ?_
                refine fx_n (pc' := 101) (lv' := lv7) (st' := [.int (Int32.ofInt 3), .int p2]) aj_d173 rfl (Nat.le_succ _) (fun _ => rfl) ?_
                refine fx_b (tgt := 114) aj_d173 rfl (Nat.le_succ _) rfl (fun q49 => ?_) (fun q49 => ?_)
                · skip
                  refine fx_qe (c := (p2).toInt = 3) (fx_t_ne q49) ?_
                  show fx_W _ _ _ 114 lv7 [] _ _
                  refine fx_i0 aj_d173 rfl (Nat.le_succ _) (fun _ => rfl) hlv7_2 ?_
                  refine fx_n (pc' := 116) (lv' := lv7) (st' := [.int (Int32.ofInt 4), .int p2]) aj_d173 rfl (Nat.le_succ _) (fun _ => rfl) ?_
                  refine fx_b (tgt := 129) aj_d173 rfl (Nat.le_succ _) rfl (fun q50 => ?_) (fun q50 => ?_)
                  · skip
                    refine fx_qe (c := (p2).toInt = 4) (fx_t_ne q50) ?_
                    show fx_W _ _ _ 129 lv7 [] _ _
                    refine fx_i0 aj_d173 rfl (Nat.le_succ _) (fun _ => rfl) hlv7_2 ?_
                    refine fx_n (pc' := 131) (lv' := lv7) (st' := [.int (Int32.ofInt 5), .int p2]) aj_d173 rfl (Nat.le_succ _) (fun _ => rfl) ?_
                    refine fx_b (tgt := 144) aj_d173 rfl (Nat.le_succ _) rfl (fun q51 => ?_) (fun q51 => ?_)
                    · skip
                      refine fx_qe (c := (p2).toInt = 5) (fx_t_ne q51) ?_
                      show fx_W _ _ _ 144 lv7 [] _ _
                      refine fx_i2 aj_d173 rfl (Nat.le_succ _) (fun _ => rfl) hlv7_0 ?_
                      refine fx_gF aj_d173 rfl (Nat.le_succ _) rfl rfl fx_in_10_10 (t := 107) rfl (fun hA52 => ?_)
                      refine fx_gI aj_d173 rfl (Nat.le_succ _) rfl rfl (Or.inl rfl) ?_
                      exact fx_ri aj_d173 rfl ⟨_, rfl, 0, rfl, rfl⟩
                    · skip
                      refine fx_qi (c := (p2).toInt = 5) (fx_f_ne q51) ?_
                      show fx_W _ _ _ 134 lv7 [] _ _
                      refine fx_i2 aj_d173 rfl (Nat.le_succ _) (fun _ => rfl) hlv7_0 ?_
                      refine fx_gF aj_d173 rfl (Nat.le_succ _) rfl rfl fx_in_10_10 (t := 107) rfl (fun hA53 => ?_)
                      refine fx_gI aj_d173 rfl (Nat.le_succ _) rfl rfl (Or.inl rfl) ?_
                      refine fx_n (pc' := 151) (lv' := lv7) (st' := [.int (X47.1 107 4)]) aj_d173 rfl (Nat.le_succ _) (fun _ => rfl) ?_
                      exact fx_ri aj_d173 rfl ⟨_, rfl, 0, rfl, rfl⟩
                  · skip
                    refine fx_qi (c := (p2).toInt = 4) (fx_f_ne q50) ?_
                    show fx_W _ _ _ 119 lv7 [] _ _
                    refine fx_i2 aj_d173 rfl (Nat.le_succ _) (fun _ => rfl) hlv7_0 ?_
                    refine fx_gF aj_d173 rfl (Nat.le_succ _) rfl rfl fx_in_10_10 (t := 107) rfl (fun hA54 => ?_)
                    refine fx_gI aj_d173 rfl (Nat.le_succ _) rfl rfl (Or.inl rfl) ?_
                    refine fx_n (pc' := 151) (lv' := lv7) (st' := [.int (X47.1 107 2)]) aj_d173 rfl (Nat.le_succ _) (fun _ => rfl) ?_
                    exact fx_ri aj_d173 rfl ⟨_, rfl, 0, rfl, rfl⟩
                · skip
                  refine fx_qi (c := (p2).toInt = 3) (fx_f_ne q49) ?_
                  show fx_W _ _ _ 104 lv7 [] _ _
                  refine fx_i2 aj_d173 rfl (Nat.le_succ _) (fun _ => rfl) hlv7_0 ?_
                  refine fx_gF aj_d173 rfl (Nat.le_succ _) rfl rfl fx_in_10_10 (t := 107) rfl (fun hA55 => ?_)
                  refine fx_gI aj_d173 rfl (Nat.le_succ _) rfl rfl (Or.inl rfl) ?_
                  refine fx_n (pc' := 151) (lv' := lv7) (st' := [.int (X47.1 107 1)]) aj_d173 rfl (Nat.le_succ _) (fun _ => rfl) ?_
                  exact fx_ri aj_d173 rfl ⟨_, rfl, 0, rfl, rfl⟩
              · skip
                refine fx_qe (c := (p2).toInt = 5) q43 ?_
                by_cases q56 : (p2).toInt = 6
                · skip
                  refine fx_qi (c := (p2).toInt = 6) q56 ?_
                  refine fx_ts (tgt := 87) aj_d173 rfl (Nat.le_succ _) q56 (by decide) rfl rfl ?_
                  show fx_W _ _ _ 87 lv7 [] _ _
                  refine fx_i2 aj_d173 rfl (Nat.le_succ _) (fun _ => rfl) hlv7_0 ?_
                  refine fx_gF aj_d173 rfl (Nat.le_succ _) rfl rfl fx_in_10_10 (t := 107) rfl (fun hA57 => ?_)
                  refine fx_i2 aj_d173 rfl (Nat.le_succ _) (fun _ => rfl) hlv7_0 ?_
                  refine fx_gR aj_d173 rfl (Nat.le_succ _) rfl rfl (Or.inl ⟨_, rfl⟩) (fun _ z => absurd (by decide) z) (fun b59 q58 => ?_)
                  show fx_W _ _ _ 95 lv7 [.ref b59, .ref 107] _ _
                  refine fx_qs q58 ?_
                  refine fx_i0 aj_d173 rfl (Nat.le_succ _) (fun _ => rfl) hlv7_1 ?_
                  refine fx_cv aj_d173 rfl (Nat.le_succ _) rfl [_, _] rfl rfl (gx_174_ok b59 p1) ?_
                  rintro _ X60 ⟨w61, rfl, hR60⟩ hok60 hle60
                  refine fx_qc hR60 ?_
                  show fx_W _ _ _ 99 lv7 [] _ _
                  refine fx_i0 aj_d173 rfl (Nat.le_succ _) (fun _ => rfl) hlv7_2 ?_
                  refine fx_n (pc' := 101) (lv' := lv7) (st' := [.int (Int32.ofInt 3), .int p2]) aj_d173 rfl (Nat.le_succ _) (fun _ => rfl) ?_
                  refine fx_b (tgt := 114) aj_d173 rfl (Nat.le_succ _) rfl (fun q62 => ?_) (fun q62 => ?_)
                  · skip
                    refine fx_qe (c := (p2).toInt = 3) (fx_t_ne q62) ?_
                    show fx_W _ _ _ 114 lv7 [] _ _
                    refine fx_i0 aj_d173 rfl (Nat.le_succ _) (fun _ => rfl) hlv7_2 ?_
                    refine fx_n (pc' := 116) (lv' := lv7) (st' := [.int (Int32.ofInt 4), .int p2]) aj_d173 rfl (Nat.le_succ _) (fun _ => rfl) ?_
                    refine fx_b (tgt := 129) aj_d173 rfl (Nat.le_succ _) rfl (fun q63 => ?_) (fun q63 => ?_)
                    · skip
                      refine fx_qe (c := (p2).toInt = 4) (fx_t_ne q63) ?_
                      show fx_W _ _ _ 129 lv7 [] _ _
                      refine fx_i0 aj_d173 rfl (Nat.le_succ _) (fun _ => rfl) hlv7_2 ?_
                      refine fx_n (pc' := 131) (lv' := lv7) (st' := [.int (Int32.ofInt 5), .int p2]) aj_d173 rfl (Nat.le_succ _) (fun _ => rfl) ?_
                      refine fx_b (tgt := 144) aj_d173 rfl (Nat.le_succ _) rfl (fun q64 => ?_) (fun q64 => ?_)
                      · skip
                        refine fx_qe (c := (p2).toInt = 5) (fx_t_ne q64) ?_
                        show fx_W _ _ _ 144 lv7 [] _ _
                        refine fx_i2 aj_d173 rfl (Nat.le_succ _) (fun _ => rfl) hlv7_0 ?_
                        refine fx_gF aj_d173 rfl (Nat.le_succ _) rfl rfl fx_in_10_10 (t := 107) rfl (fun hA65 => ?_)
                        refine fx_gI aj_d173 rfl (Nat.le_succ _) rfl rfl (Or.inl rfl) ?_
                        exact fx_ri aj_d173 rfl ⟨_, rfl, 0, rfl, rfl⟩
                      · skip
                        refine fx_qi (c := (p2).toInt = 5) (fx_f_ne q64) ?_
                        show fx_W _ _ _ 134 lv7 [] _ _
                        refine fx_i2 aj_d173 rfl (Nat.le_succ _) (fun _ => rfl) hlv7_0 ?_
                        refine fx_gF aj_d173 rfl (Nat.le_succ _) rfl rfl fx_in_10_10 (t := 107) rfl (fun hA66 => ?_)
                        refine fx_gI aj_d173 rfl (Nat.le_succ _) rfl rfl (Or.inl rfl) ?_
                        refine fx_n (pc' := 151) (lv' := lv7) (st' := [.int (X60.1 107 4)]) aj_d173 rfl (Nat.le_succ _) (fun _ => rfl) ?_
                        exact fx_ri aj_d173 rfl ⟨_, rfl, 0, rfl, rfl⟩
                    · skip
                      refine fx_qi (c := (p2).toInt = 4) (fx_f_ne q63) ?_
                      show fx_W _ _ _ 119 lv7 [] _ _
                      refine fx_i2 aj_d173 rfl (Nat.le_succ _) (fun _ => rfl) hlv7_0 ?_
                      refine fx_gF aj_d173 rfl (Nat.le_succ _) rfl rfl fx_in_10_10 (t := 107) rfl (fun hA67 => ?_)
                      refine fx_gI aj_d173 rfl (Nat.le_succ _) rfl rfl (Or.inl rfl) ?_
                      refine fx_n (pc' := 151) (lv' := lv7) (st' := [.int (X60.1 107 2)]) aj_d173 rfl (Nat.le_succ _) (fun _ => rfl) ?_
                      exact fx_ri aj_d173 rfl ⟨_, rfl, 0, rfl, rfl⟩
                  · skip
                    refine fx_qi (c := (p2).toInt = 3) (fx_f_ne q62) ?_
                    show fx_W _ _ _ 104 lv7 [] _ _
                    refine fx_i2 aj_d173 rfl (Nat.le_succ _) (fun _ => rfl) hlv7_0 ?_
                    refine fx_gF aj_d173 rfl (Nat.le_succ _) rfl rfl fx_in_10_10 (t := 107) rfl (fun hA68 => ?_)
                    refine fx_gI aj_d173 rfl (Nat.le_succ _) rfl rfl (Or.inl rfl) ?_
                    refine fx_n (pc' := 151) (lv' := lv7) (st' := [.int (X60.1 107 1)]) aj_d173 rfl (Nat.le_succ _) (fun _ => rfl) ?_
                    exact fx_ri aj_d173 rfl ⟨_, rfl, 0, rfl, rfl⟩
                · skip
                  refine fx_qe (c := (p2).toInt = 6) q56 ?_
                  refine fx_td (tgt := 152) aj_d173 rfl (Nat.le_succ _) (by omega) rfl ?_
                  show fx_W _ _ _ 152 lv7 [] _ _
                  refine fx_n (pc' := 153) (lv' := lv7) (st' := [.int (Int32.ofInt (-1))]) aj_d173 rfl (Nat.le_succ _) (fun _ => rfl) ?_
                  exact fx_ri aj_d173 rfl ⟨_, rfl, 0, rfl, rfl⟩
def gx_193_2 (p2 : Int32) (p3 : Int32) (X : fx_X) (v : Int32) (X' : fx_X) : Prop :=
  v = (Int32.ofInt (-100000)) ∧ X' = X
theorem gx_193_2_ok {tb : aj_T} (p2 : Int32) (p3 : Int32) {X : fx_X} : fx_K tb 193 [.ref 52, .null, .int p2, .int p3] X (fx_Q fx_qI (fun v X' => gx_193_2 p2 p3 X v X')) := by
  refine fx_m aj_m193_at rfl (fun N => ?_)
  refine fx_mono (Q := fx_Q fx_qI (fun v X' => ∃ n : Nat, gx_193_2 p2 p3 X v X')) (fun r X' ⟨v, e, _, z⟩ => ⟨v, e, z⟩) ?_
  unfold gx_193_2
  show fx_W _ _ _ 0 [(0, .ref 52), (1, .null), (2, .int p2), (3, .int p3)] [] _ _
  obtain ⟨lv1, elv1⟩ : ∃ l : aj_V, l = [(0, .ref 52), (1, .null), (2, .int p2), (3, .int p3)] := ⟨_, rfl⟩
  rw [← elv1]
  have hlv1_0 : aj_lv lv1 0 = some (.ref 52) := by rw [elv1]; rfl
  have hlv1_1 : aj_lv lv1 1 = some (.null) := by rw [elv1]; rfl
  have hlv1_2 : aj_lv lv1 2 = some (.int p2) := by rw [elv1]; rfl
  have hlv1_3 : aj_lv lv1 3 = some (.int p3) := by rw [elv1]; rfl
  refine fx_i3 aj_d193 rfl (Nat.le_succ _) (fun _ => rfl) hlv1_1 ?_
  refine fx_n (pc' := 20) (lv' := lv1) (st' := []) aj_d193 rfl (Nat.le_succ _) (fun _ => rfl) ?_
  refine fx_n (pc' := 22) (lv' := lv1) (st' := [.int (Int32.ofInt (-100000))]) aj_d193 rfl (Nat.le_succ _) (fun _ => rfl) ?_
  exact fx_ri aj_d193 rfl ⟨_, rfl, 0, rfl, rfl⟩
def gx_191 (p1 : Int32) (p2 : Int32) (p3 : Int32) (X : fx_X) (v : Int32) (X' : fx_X) : Prop :=
  ∃ b3 : Nat, X.2.2.1 52 3 = some b3 ∧ ∃ (w5 : (Option Nat)) (X4 : fx_X), gx_63 b3 p1 X w5 X4 ∧ ((w5 = none ∧ v = (Int32.ofInt (-100000)) ∧ X' = X4) ∨ (∃ w5b : Nat, w5 = some w5b ∧ ∃ b8 : Nat, X4.2.2.1 52 3 = some b8 ∧ ∃ (w10 : Unit) (X9 : fx_X), gx_174 b8 p1 X4 w10 X9 ∧ ∃ b12 : Nat, X9.2.2.1 52 3 = some b12 ∧ ∃ (w14 : (Option Nat)) (X13 : fx_X), gx_63 b12 p1 X9 w14 X13 ∧ ((w14 = none ∧ ∃ (w17 : Int32) (X16 : fx_X), gx_192 p2 X13 w17 X16 ∧ ∃ (w19 : Int32) (X18 : fx_X), gx_193_2 w17 p3 X16 w19 X18 ∧ v = w19 ∧ X' = X18) ∨ (∃ w14b : Nat, w14 = some w14b ∧ ∃ (w22 : Int32) (X21 : fx_X), gx_192 p2 X13 w22 X21 ∧ ∃ (w24 : Int32) (X23 : fx_X), gx_193 w14b w22 p3 X21 w24 X23 ∧ v = w24 ∧ X' = X23))))
theorem gx_191_ok {tb : aj_T} (p1 : Int32) (p2 : Int32) (p3 : Int32) {X : fx_X} : fx_K tb 191 [.ref 52, .int p1, .int p2, .int p3] X (fx_Q fx_qI (fun v X' => gx_191 p1 p2 p3 X v X')) := by
  refine fx_m aj_m191_at rfl (fun N => ?_)
  refine fx_mono (Q := fx_Q fx_qI (fun v X' => ∃ n : Nat, gx_191 p1 p2 p3 X v X')) (fun r X' ⟨v, e, _, z⟩ => ⟨v, e, z⟩) ?_
  unfold gx_191
  show fx_W _ _ _ 0 [(0, .ref 52), (1, .int p1), (2, .int p2), (3, .int p3)] [] _ _
  obtain ⟨lv1, elv1⟩ : ∃ l : aj_V, l = [(0, .ref 52), (1, .int p1), (2, .int p2), (3, .int p3)] := ⟨_, rfl⟩
  rw [← elv1]
  have hlv1_0 : aj_lv lv1 0 = some (.ref 52) := by rw [elv1]; rfl
  have hlv1_1 : aj_lv lv1 1 = some (.int p1) := by rw [elv1]; rfl
  have hlv1_2 : aj_lv lv1 2 = some (.int p2) := by rw [elv1]; rfl
  have hlv1_3 : aj_lv lv1 3 = some (.int p3) := by rw [elv1]; rfl
  refine fx_i2 aj_d191 rfl (Nat.le_succ _) (fun _ => rfl) hlv1_0 ?_
  refine fx_gR aj_d191 rfl (Nat.le_succ _) rfl rfl (Or.inl ⟨_, rfl⟩) (fun _ z => absurd (by decide) z) (fun b3 q2 => ?_)
  show fx_W _ _ _ 4 lv1 [.ref b3] _ _
  refine fx_qs q2 ?_
  refine fx_i0 aj_d191 rfl (Nat.le_succ _) (fun _ => rfl) hlv1_1 ?_
  refine fx_cv aj_d191 rfl (Nat.le_succ _) rfl [_] rfl rfl (gx_63_ok b3 p1) ?_
  rintro _ X4 ⟨w5, rfl, hR4⟩ hok4 hle4
  refine fx_qc hR4 ?_
  rcases w5 with _ | w5b
  · skip
    refine fx_o1 (fx_qa rfl ?_)
    show fx_W _ _ _ 8 lv1 [.null] _ _
    refine fx_n (pc' := 11) (lv' := lv1) (st' := []) aj_d191 rfl (Nat.le_succ _) (fun _ => rfl) ?_
    refine fx_n (pc' := 13) (lv' := lv1) (st' := [.int (Int32.ofInt (-100000))]) aj_d191 rfl (Nat.le_succ _) (fun _ => rfl) ?_
    exact fx_ri aj_d191 rfl ⟨_, rfl, 0, rfl, rfl⟩
  · skip
    refine fx_o2 (fx_qs rfl ?_)
    show fx_W _ _ _ 8 lv1 [.ref w5b] _ _
    refine fx_n (pc' := 14) (lv' := lv1) (st' := []) aj_d191 rfl (Nat.le_succ _) (fun _ => rfl) ?_
    refine fx_i2 aj_d191 rfl (Nat.le_succ _) (fun _ => rfl) hlv1_0 ?_
    refine fx_gF aj_d191 rfl (Nat.le_succ _) rfl rfl fx_in_10_10 (t := 107) rfl (fun hA6 => ?_)
    refine fx_i2 aj_d191 rfl (Nat.le_succ _) (fun _ => rfl) hlv1_0 ?_
    refine fx_gR aj_d191 rfl (Nat.le_succ _) rfl rfl (Or.inl ⟨_, rfl⟩) (fun _ z => absurd (by decide) z) (fun b8 q7 => ?_)
    show fx_W _ _ _ 22 lv1 [.ref b8, .ref 107] _ _
    refine fx_qs q7 ?_
    refine fx_i0 aj_d191 rfl (Nat.le_succ _) (fun _ => rfl) hlv1_1 ?_
    refine fx_cv aj_d191 rfl (Nat.le_succ _) rfl [_, _] rfl rfl (gx_174_ok b8 p1) ?_
    rintro _ X9 ⟨w10, rfl, hR9⟩ hok9 hle9
    refine fx_qc hR9 ?_
    show fx_W _ _ _ 26 lv1 [] _ _
    refine fx_i2 aj_d191 rfl (Nat.le_succ _) (fun _ => rfl) hlv1_0 ?_
    refine fx_i2 aj_d191 rfl (Nat.le_succ _) (fun _ => rfl) hlv1_0 ?_
    refine fx_gR aj_d191 rfl (Nat.le_succ _) rfl rfl (Or.inl ⟨_, rfl⟩) (fun _ z => absurd (by decide) z) (fun b12 q11 => ?_)
    show fx_W _ _ _ 31 lv1 [.ref b12, .ref 52] _ _
    refine fx_qs q11 ?_
    refine fx_i0 aj_d191 rfl (Nat.le_succ _) (fun _ => rfl) hlv1_1 ?_
    refine fx_cv aj_d191 rfl (Nat.le_succ _) rfl [_] rfl rfl (gx_63_ok b12 p1) ?_
    rintro _ X13 ⟨w14, rfl, hR13⟩ hok13 hle13
    refine fx_qc hR13 ?_
    rcases w14 with _ | w14b
    · skip
      refine fx_o1 (fx_qa rfl ?_)
      show fx_W _ _ _ 35 lv1 [.null, .ref 52] _ _
      refine fx_i2 aj_d191 rfl (Nat.le_succ _) (fun _ => rfl) hlv1_0 ?_
      refine fx_gF aj_d191 rfl (Nat.le_succ _) rfl rfl fx_in_10_10 (t := 107) rfl (fun hA15 => ?_)
      refine fx_i0 aj_d191 rfl (Nat.le_succ _) (fun _ => rfl) hlv1_2 ?_
      refine fx_cv aj_d191 rfl (Nat.le_succ _) rfl [_] rfl rfl (gx_192_ok p2) ?_
      rintro _ X16 ⟨w17, rfl, hR16⟩ hok16 hle16
      refine fx_qc hR16 ?_
      show fx_W _ _ _ 43 lv1 [.int w17, .null, .ref 52] _ _
      refine fx_i0 aj_d191 rfl (Nat.le_succ _) (fun _ => rfl) hlv1_3 ?_
      refine fx_cv aj_d191 rfl (Nat.le_succ _) rfl [_, _, _] rfl rfl (gx_193_2_ok w17 p3) ?_
      rintro _ X18 ⟨w19, rfl, hR18⟩ hok18 hle18
      refine fx_qc hR18 ?_
      show fx_W _ _ _ 47 lv1 [.int w19] _ _
      exact fx_ri aj_d191 rfl ⟨_, rfl, 0, rfl, rfl⟩
    · skip
      refine fx_o2 (fx_qs rfl ?_)
      show fx_W _ _ _ 35 lv1 [.ref w14b, .ref 52] _ _
      refine fx_i2 aj_d191 rfl (Nat.le_succ _) (fun _ => rfl) hlv1_0 ?_
      refine fx_gF aj_d191 rfl (Nat.le_succ _) rfl rfl fx_in_10_10 (t := 107) rfl (fun hA20 => ?_)
      refine fx_i0 aj_d191 rfl (Nat.le_succ _) (fun _ => rfl) hlv1_2 ?_
      refine fx_cv aj_d191 rfl (Nat.le_succ _) rfl [_] rfl rfl (gx_192_ok p2) ?_
      rintro _ X21 ⟨w22, rfl, hR21⟩ hok21 hle21
      refine fx_qc hR21 ?_
      show fx_W _ _ _ 43 lv1 [.int w22, .ref w14b, .ref 52] _ _
      refine fx_i0 aj_d191 rfl (Nat.le_succ _) (fun _ => rfl) hlv1_3 ?_
      refine fx_cv aj_d191 rfl (Nat.le_succ _) rfl [_, _, _] rfl rfl (gx_193_ok w14b w22 p3) ?_
      rintro _ X23 ⟨w24, rfl, hR23⟩ hok23 hle23
      refine fx_qc hR23 ?_
      show fx_W _ _ _ 47 lv1 [.int w24] _ _
      exact fx_ri aj_d191 rfl ⟨_, rfl, 0, rfl, rfl⟩
def gx_194 (p1 : Int32) (p2 : Int32) (p3 : Int32) (X : fx_X) (v : Int32) (X' : fx_X) : Prop :=
  ∃ b3 : Nat, X.2.2.1 52 3 = some b3 ∧ ∃ (w5 : (Option Nat)) (X4 : fx_X), gx_63 b3 p1 X w5 X4 ∧ ((w5 = none ∧ v = (Int32.ofInt (-100000)) ∧ X' = X4) ∨ (∃ w5b : Nat, w5 = some w5b ∧ ∃ b8 : Nat, X4.2.2.1 52 3 = some b8 ∧ ∃ (w10 : Unit) (X9 : fx_X), gx_174 b8 p1 X4 w10 X9 ∧ ∃ b12 : Nat, X9.2.2.1 52 3 = some b12 ∧ ∃ (w14 : (Option Nat)) (X13 : fx_X), gx_63 b12 p1 X9 w14 X13 ∧ ((w14 = none ∧ ∃ (w17 : Int32) (X16 : fx_X), gx_181 p2 X13 w17 X16 ∧ ∃ (w19 : Int32) (X18 : fx_X), gx_193_2 w17 p3 X16 w19 X18 ∧ v = w19 ∧ X' = X18) ∨ (∃ w14b : Nat, w14 = some w14b ∧ ∃ (w22 : Int32) (X21 : fx_X), gx_181 p2 X13 w22 X21 ∧ ∃ (w24 : Int32) (X23 : fx_X), gx_193 w14b w22 p3 X21 w24 X23 ∧ v = w24 ∧ X' = X23))))
theorem gx_194_ok {tb : aj_T} (p1 : Int32) (p2 : Int32) (p3 : Int32) {X : fx_X} : fx_K tb 194 [.ref 52, .int p1, .int p2, .int p3] X (fx_Q fx_qI (fun v X' => gx_194 p1 p2 p3 X v X')) := by
  refine fx_m aj_m194_at rfl (fun N => ?_)
  refine fx_mono (Q := fx_Q fx_qI (fun v X' => ∃ n : Nat, gx_194 p1 p2 p3 X v X')) (fun r X' ⟨v, e, _, z⟩ => ⟨v, e, z⟩) ?_
  unfold gx_194
  show fx_W _ _ _ 0 [(0, .ref 52), (1, .int p1), (2, .int p2), (3, .int p3)] [] _ _
  obtain ⟨lv1, elv1⟩ : ∃ l : aj_V, l = [(0, .ref 52), (1, .int p1), (2, .int p2), (3, .int p3)] := ⟨_, rfl⟩
  rw [← elv1]
  have hlv1_0 : aj_lv lv1 0 = some (.ref 52) := by rw [elv1]; rfl
  have hlv1_1 : aj_lv lv1 1 = some (.int p1) := by rw [elv1]; rfl
  have hlv1_2 : aj_lv lv1 2 = some (.int p2) := by rw [elv1]; rfl
  have hlv1_3 : aj_lv lv1 3 = some (.int p3) := by rw [elv1]; rfl
  refine fx_i2 aj_d194 rfl (Nat.le_succ _) (fun _ => rfl) hlv1_0 ?_
  refine fx_gR aj_d194 rfl (Nat.le_succ _) rfl rfl (Or.inl ⟨_, rfl⟩) (fun _ z => absurd (by decide) z) (fun b3 q2 => ?_)
  show fx_W _ _ _ 4 lv1 [.ref b3] _ _
  refine fx_qs q2 ?_
  refine fx_i0 aj_d194 rfl (Nat.le_succ _) (fun _ => rfl) hlv1_1 ?_
  refine fx_cv aj_d194 rfl (Nat.le_succ _) rfl [_] rfl rfl (gx_63_ok b3 p1) ?_
  rintro _ X4 ⟨w5, rfl, hR4⟩ hok4 hle4
  refine fx_qc hR4 ?_
  rcases w5 with _ | w5b
  · skip
    refine fx_o1 (fx_qa rfl ?_)
    show fx_W _ _ _ 8 lv1 [.null] _ _
    refine fx_n (pc' := 11) (lv' := lv1) (st' := []) aj_d194 rfl (Nat.le_succ _) (fun _ => rfl) ?_
    refine fx_n (pc' := 13) (lv' := lv1) (st' := [.int (Int32.ofInt (-100000))]) aj_d194 rfl (Nat.le_succ _) (fun _ => rfl) ?_
    exact fx_ri aj_d194 rfl ⟨_, rfl, 0, rfl, rfl⟩
  · skip
    refine fx_o2 (fx_qs rfl ?_)
    show fx_W _ _ _ 8 lv1 [.ref w5b] _ _
    refine fx_n (pc' := 14) (lv' := lv1) (st' := []) aj_d194 rfl (Nat.le_succ _) (fun _ => rfl) ?_
    refine fx_i2 aj_d194 rfl (Nat.le_succ _) (fun _ => rfl) hlv1_0 ?_
    refine fx_gF aj_d194 rfl (Nat.le_succ _) rfl rfl fx_in_10_10 (t := 107) rfl (fun hA6 => ?_)
    refine fx_i2 aj_d194 rfl (Nat.le_succ _) (fun _ => rfl) hlv1_0 ?_
    refine fx_gR aj_d194 rfl (Nat.le_succ _) rfl rfl (Or.inl ⟨_, rfl⟩) (fun _ z => absurd (by decide) z) (fun b8 q7 => ?_)
    show fx_W _ _ _ 22 lv1 [.ref b8, .ref 107] _ _
    refine fx_qs q7 ?_
    refine fx_i0 aj_d194 rfl (Nat.le_succ _) (fun _ => rfl) hlv1_1 ?_
    refine fx_cv aj_d194 rfl (Nat.le_succ _) rfl [_, _] rfl rfl (gx_174_ok b8 p1) ?_
    rintro _ X9 ⟨w10, rfl, hR9⟩ hok9 hle9
    refine fx_qc hR9 ?_
    show fx_W _ _ _ 26 lv1 [] _ _
    refine fx_i2 aj_d194 rfl (Nat.le_succ _) (fun _ => rfl) hlv1_0 ?_
    refine fx_i2 aj_d194 rfl (Nat.le_succ _) (fun _ => rfl) hlv1_0 ?_
    refine fx_gR aj_d194 rfl (Nat.le_succ _) rfl rfl (Or.inl ⟨_, rfl⟩) (fun _ z => absurd (by decide) z) (fun b12 q11 => ?_)
    show fx_W _ _ _ 31 lv1 [.ref b12, .ref 52] _ _
    refine fx_qs q11 ?_
    refine fx_i0 aj_d194 rfl (Nat.le_succ _) (fun _ => rfl) hlv1_1 ?_
    refine fx_cv aj_d194 rfl (Nat.le_succ _) rfl [_] rfl rfl (gx_63_ok b12 p1) ?_
    rintro _ X13 ⟨w14, rfl, hR13⟩ hok13 hle13
    refine fx_qc hR13 ?_
    rcases w14 with _ | w14b
    · skip
      refine fx_o1 (fx_qa rfl ?_)
      show fx_W _ _ _ 35 lv1 [.null, .ref 52] _ _
      refine fx_i2 aj_d194 rfl (Nat.le_succ _) (fun _ => rfl) hlv1_0 ?_
      refine fx_gF aj_d194 rfl (Nat.le_succ _) rfl rfl fx_in_10_10 (t := 107) rfl (fun hA15 => ?_)
      refine fx_i0 aj_d194 rfl (Nat.le_succ _) (fun _ => rfl) hlv1_2 ?_
      refine fx_cv aj_d194 rfl (Nat.le_succ _) rfl [_] rfl rfl (gx_181_ok p2) ?_
      rintro _ X16 ⟨w17, rfl, hR16⟩ hok16 hle16
      refine fx_qc hR16 ?_
      show fx_W _ _ _ 43 lv1 [.int w17, .null, .ref 52] _ _
      refine fx_i0 aj_d194 rfl (Nat.le_succ _) (fun _ => rfl) hlv1_3 ?_
      refine fx_cv aj_d194 rfl (Nat.le_succ _) rfl [_, _, _] rfl rfl (gx_193_2_ok w17 p3) ?_
      rintro _ X18 ⟨w19, rfl, hR18⟩ hok18 hle18
      refine fx_qc hR18 ?_
      show fx_W _ _ _ 47 lv1 [.int w19] _ _
      exact fx_ri aj_d194 rfl ⟨_, rfl, 0, rfl, rfl⟩
    · skip
      refine fx_o2 (fx_qs rfl ?_)
      show fx_W _ _ _ 35 lv1 [.ref w14b, .ref 52] _ _
      refine fx_i2 aj_d194 rfl (Nat.le_succ _) (fun _ => rfl) hlv1_0 ?_
      refine fx_gF aj_d194 rfl (Nat.le_succ _) rfl rfl fx_in_10_10 (t := 107) rfl (fun hA20 => ?_)
      refine fx_i0 aj_d194 rfl (Nat.le_succ _) (fun _ => rfl) hlv1_2 ?_
      refine fx_cv aj_d194 rfl (Nat.le_succ _) rfl [_] rfl rfl (gx_181_ok p2) ?_
      rintro _ X21 ⟨w22, rfl, hR21⟩ hok21 hle21
      refine fx_qc hR21 ?_
      show fx_W _ _ _ 43 lv1 [.int w22, .ref w14b, .ref 52] _ _
      refine fx_i0 aj_d194 rfl (Nat.le_succ _) (fun _ => rfl) hlv1_3 ?_
      refine fx_cv aj_d194 rfl (Nat.le_succ _) rfl [_, _, _] rfl rfl (gx_193_ok w14b w22 p3) ?_
      rintro _ X23 ⟨w24, rfl, hR23⟩ hok23 hle23
      refine fx_qc hR23 ?_
      show fx_W _ _ _ 47 lv1 [.int w24] _ _
      exact fx_ri aj_d194 rfl ⟨_, rfl, 0, rfl, rfl⟩
def gx_195 (p1 : Int32) (p2 : Int32) (X : fx_X) (v : Int32) (X' : fx_X) : Prop :=
  ∃ b3 : Nat, X.2.2.1 52 3 = some b3 ∧ ∃ (w5 : (Option Nat)) (X4 : fx_X), gx_63 b3 p1 X w5 X4 ∧ ((w5 = none ∧ v = (Int32.ofInt (-1)) ∧ X' = X4) ∨ (∃ w5b : Nat, w5 = some w5b ∧ ∃ b8 : Nat, X4.2.2.1 52 3 = some b8 ∧ ∃ (w10 : Unit) (X9 : fx_X), gx_174 b8 p1 X4 w10 X9 ∧ ∃ (w13 : Int32) (X12 : fx_X), gx_181 p2 X9 w13 X12 ∧ (if (w13).toInt < 0 then (v = (Int32.ofInt (-1)) ∧ X' = X12) else (∃ (w17 : Int32) (X16 : fx_X), gx_184 w13 X12 w17 X16 ∧ v = w17 ∧ X' = X16))))
theorem gx_195_ok {tb : aj_T} (p1 : Int32) (p2 : Int32) {X : fx_X} : fx_K tb 195 [.ref 52, .int p1, .int p2] X (fx_Q fx_qI (fun v X' => gx_195 p1 p2 X v X')) := by
  refine fx_m aj_m195_at rfl (fun N => ?_)
  refine fx_mono (Q := fx_Q fx_qI (fun v X' => ∃ n : Nat, gx_195 p1 p2 X v X')) (fun r X' ⟨v, e, _, z⟩ => ⟨v, e, z⟩) ?_
  unfold gx_195
  show fx_W _ _ _ 0 [(0, .ref 52), (1, .int p1), (2, .int p2)] [] _ _
  obtain ⟨lv1, elv1⟩ : ∃ l : aj_V, l = [(0, .ref 52), (1, .int p1), (2, .int p2)] := ⟨_, rfl⟩
  rw [← elv1]
  have hlv1_0 : aj_lv lv1 0 = some (.ref 52) := by rw [elv1]; rfl
  have hlv1_1 : aj_lv lv1 1 = some (.int p1) := by rw [elv1]; rfl
  have hlv1_2 : aj_lv lv1 2 = some (.int p2) := by rw [elv1]; rfl
  refine fx_i2 aj_d195 rfl (Nat.le_succ _) (fun _ => rfl) hlv1_0 ?_
  refine fx_gR aj_d195 rfl (Nat.le_succ _) rfl rfl (Or.inl ⟨_, rfl⟩) (fun _ z => absurd (by decide) z) (fun b3 q2 => ?_)
  show fx_W _ _ _ 4 lv1 [.ref b3] _ _
  refine fx_qs q2 ?_
  refine fx_i0 aj_d195 rfl (Nat.le_succ _) (fun _ => rfl) hlv1_1 ?_
  refine fx_cv aj_d195 rfl (Nat.le_succ _) rfl [_] rfl rfl (gx_63_ok b3 p1) ?_
  rintro _ X4 ⟨w5, rfl, hR4⟩ hok4 hle4
  refine fx_qc hR4 ?_
  rcases w5 with _ | w5b
  · skip
    refine fx_o1 (fx_qa rfl ?_)
    show fx_W _ _ _ 8 lv1 [.null] _ _
    refine fx_n (pc' := 11) (lv' := lv1) (st' := []) aj_d195 rfl (Nat.le_succ _) (fun _ => rfl) ?_
    refine fx_n (pc' := 12) (lv' := lv1) (st' := [.int (Int32.ofInt (-1))]) aj_d195 rfl (Nat.le_succ _) (fun _ => rfl) ?_
    exact fx_ri aj_d195 rfl ⟨_, rfl, 0, rfl, rfl⟩
  · skip
    refine fx_o2 (fx_qs rfl ?_)
    show fx_W _ _ _ 8 lv1 [.ref w5b] _ _
    refine fx_n (pc' := 13) (lv' := lv1) (st' := []) aj_d195 rfl (Nat.le_succ _) (fun _ => rfl) ?_
    refine fx_i2 aj_d195 rfl (Nat.le_succ _) (fun _ => rfl) hlv1_0 ?_
    refine fx_gF aj_d195 rfl (Nat.le_succ _) rfl rfl fx_in_10_10 (t := 107) rfl (fun hA6 => ?_)
    refine fx_i2 aj_d195 rfl (Nat.le_succ _) (fun _ => rfl) hlv1_0 ?_
    refine fx_gR aj_d195 rfl (Nat.le_succ _) rfl rfl (Or.inl ⟨_, rfl⟩) (fun _ z => absurd (by decide) z) (fun b8 q7 => ?_)
    show fx_W _ _ _ 21 lv1 [.ref b8, .ref 107] _ _
    refine fx_qs q7 ?_
    refine fx_i0 aj_d195 rfl (Nat.le_succ _) (fun _ => rfl) hlv1_1 ?_
    refine fx_cv aj_d195 rfl (Nat.le_succ _) rfl [_, _] rfl rfl (gx_174_ok b8 p1) ?_
    rintro _ X9 ⟨w10, rfl, hR9⟩ hok9 hle9
    refine fx_qc hR9 ?_
    show fx_W _ _ _ 25 lv1 [] _ _
    refine fx_i2 aj_d195 rfl (Nat.le_succ _) (fun _ => rfl) hlv1_0 ?_
    refine fx_gF aj_d195 rfl (Nat.le_succ _) rfl rfl fx_in_10_10 (t := 107) rfl (fun hA11 => ?_)
    refine fx_i0 aj_d195 rfl (Nat.le_succ _) (fun _ => rfl) hlv1_2 ?_
    refine fx_cv aj_d195 rfl (Nat.le_succ _) rfl [_] rfl rfl (gx_181_ok p2) ?_
    rintro _ X12 ⟨w13, rfl, hR12⟩ hok12 hle12
    refine fx_qc hR12 ?_
    show fx_W _ _ _ 33 lv1 [.int w13] _ _
    refine fx_s0 (j := 3) aj_d195 rfl (Nat.le_succ _) (by decide) (fun _ => rfl) ?_
    obtain ⟨lv14, elv14⟩ : ∃ l, l = aj_set1 lv1 3 (.int w13) := ⟨_, rfl⟩
    rw [← elv14]
    have hlv14_3 : aj_lv lv14 3 = some (.int w13) := by rw [elv14]; exact ak_set1_eq _ _ _
    show fx_W _ _ _ 34 lv14 [] _ _
    refine fx_i0 aj_d195 rfl (Nat.le_succ _) (fun _ => rfl) hlv14_3 ?_
    refine fx_b0 (tgt := 42) aj_d195 rfl (Nat.le_succ _) rfl (fun q15 => ?_) (fun q15 => ?_)
    · skip
      refine fx_qe (c := (w13).toInt < 0) (fx_t_ge q15) ?_
      show fx_W _ _ _ 42 lv14 [] _ _
      refine fx_i0 aj_d195 rfl (Nat.le_succ _) (fun _ => rfl) hlv14_3 ?_
      refine fx_cs aj_d195 rfl (Nat.le_succ _) rfl rfl [_] rfl rfl (gx_184_ok w13) ?_
      rintro _ X16 ⟨w17, rfl, hR16⟩ hok16 hle16
      refine fx_qc hR16 ?_
      show fx_W _ _ _ 46 lv14 [.int w17] _ _
      exact fx_ri aj_d195 rfl ⟨_, rfl, 0, rfl, rfl⟩
    · skip
      refine fx_qi (c := (w13).toInt < 0) (fx_f_ge q15) ?_
      show fx_W _ _ _ 38 lv14 [] _ _
      refine fx_n (pc' := 39) (lv' := lv14) (st' := [.int (Int32.ofInt (-1))]) aj_d195 rfl (Nat.le_succ _) (fun _ => rfl) ?_
      refine fx_n (pc' := 46) (lv' := lv14) (st' := [.int (Int32.ofInt (-1))]) aj_d195 rfl (Nat.le_succ _) (fun _ => rfl) ?_
      exact fx_ri aj_d195 rfl ⟨_, rfl, 0, rfl, rfl⟩
